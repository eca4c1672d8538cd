theorem dX0_init_0 : decode cX0_init 0 = .ok (.aload_n 0, 1) := by decide +kernel
theorem dX0_init_1 : decode cX0_init 1 = .ok (.invokespecial 3, 3) := by decide +kernel
theorem dX0_init_4 : decode cX0_init 4 = .ok (.return_, 1) := by decide +kernel
theorem dX0_markAs_0 : decode cX0_markAs 0 = .ok (.iload_n 1, 1) := by decide +kernel
theorem dX0_markAs_1 : decode cX0_markAs 1 = .ok (.tableswitch 89 0 5 #[39, 46, 55, 63, 72, 81], 39) := by decide +kernel
theorem dX0_markAs_40 : decode cX0_markAs 40 = .ok (.aload_n 0, 1) := by decide +kernel
theorem dX0_markAs_41 : decode cX0_markAs 41 = .ok (.iload 4, 2) := by decide +kernel
theorem dX0_markAs_43 : decode cX0_markAs 43 = .ok (.invokevirtual 9, 3) := by decide +kernel
theorem dX0_markAs_46 : decode cX0_markAs 46 = .ok (.ireturn, 1) := by decide +kernel
theorem dX0_markAs_47 : decode cX0_markAs 47 = .ok (.aload_n 0, 1) := by decide +kernel
theorem dX0_markAs_48 : decode cX0_markAs 48 = .ok (.aload_n 2, 1) := by decide +kernel
theorem dX0_markAs_49 : decode cX0_markAs 49 = .ok (.iload_n 3, 1) := by decide +kernel
theorem dX0_markAs_50 : decode cX0_markAs 50 = .ok (.iload 4, 2) := by decide +kernel
theorem dX0_markAs_52 : decode cX0_markAs 52 = .ok (.invokevirtual 15, 3) := by decide +kernel
theorem dX0_markAs_55 : decode cX0_markAs 55 = .ok (.ireturn, 1) := by decide +kernel
theorem dX0_markAs_56 : decode cX0_markAs 56 = .ok (.aload_n 0, 1) := by decide +kernel
theorem dX0_markAs_57 : decode cX0_markAs 57 = .ok (.iload_n 3, 1) := by decide +kernel
theorem dX0_markAs_58 : decode cX0_markAs 58 = .ok (.iload 4, 2) := by decide +kernel
theorem dX0_markAs_60 : decode cX0_markAs 60 = .ok (.invokevirtual 19, 3) := by decide +kernel
theorem dX0_markAs_63 : decode cX0_markAs 63 = .ok (.ireturn, 1) := by decide +kernel
theorem dX0_markAs_64 : decode cX0_markAs 64 = .ok (.aload_n 0, 1) := by decide +kernel
theorem dX0_markAs_65 : decode cX0_markAs 65 = .ok (.aload_n 2, 1) := by decide +kernel
theorem dX0_markAs_66 : decode cX0_markAs 66 = .ok (.iload_n 3, 1) := by decide +kernel
theorem dX0_markAs_67 : decode cX0_markAs 67 = .ok (.iload 4, 2) := by decide +kernel
theorem dX0_markAs_69 : decode cX0_markAs 69 = .ok (.invokevirtual 23, 3) := by decide +kernel
theorem dX0_markAs_72 : decode cX0_markAs 72 = .ok (.ireturn, 1) := by decide +kernel
theorem dX0_markAs_73 : decode cX0_markAs 73 = .ok (.aload_n 0, 1) := by decide +kernel
theorem dX0_markAs_74 : decode cX0_markAs 74 = .ok (.aload_n 2, 1) := by decide +kernel
theorem dX0_markAs_75 : decode cX0_markAs 75 = .ok (.iload_n 3, 1) := by decide +kernel
theorem dX0_markAs_76 : decode cX0_markAs 76 = .ok (.iload 4, 2) := by decide +kernel
theorem dX0_markAs_78 : decode cX0_markAs 78 = .ok (.invokevirtual 26, 3) := by decide +kernel
theorem dX0_markAs_81 : decode cX0_markAs 81 = .ok (.ireturn, 1) := by decide +kernel
theorem dX0_markAs_82 : decode cX0_markAs 82 = .ok (.aload_n 0, 1) := by decide +kernel
theorem dX0_markAs_83 : decode cX0_markAs 83 = .ok (.aload_n 2, 1) := by decide +kernel
theorem dX0_markAs_84 : decode cX0_markAs 84 = .ok (.iload 4, 2) := by decide +kernel
theorem dX0_markAs_86 : decode cX0_markAs 86 = .ok (.invokevirtual 29, 3) := by decide +kernel
theorem dX0_markAs_89 : decode cX0_markAs 89 = .ok (.ireturn, 1) := by decide +kernel
theorem dX0_markAs_90 : decode cX0_markAs 90 = .ok (.ldc 33, 2) := by decide +kernel
theorem dX0_markAs_92 : decode cX0_markAs 92 = .ok (.ireturn, 1) := by decide +kernel
theorem dX0_asCell_0 : decode cX0_asCell 0 = .ok (.aload_n 0, 1) := by decide +kernel
theorem dX0_asCell_1 : decode cX0_asCell 1 = .ok (.dup, 1) := by decide +kernel
theorem dX0_asCell_2 : decode cX0_asCell 2 = .ok (.getfield 34, 3) := by decide +kernel
theorem dX0_asCell_5 : decode cX0_asCell 5 = .ok (.lconst 1, 1) := by decide +kernel
theorem dX0_asCell_6 : decode cX0_asCell 6 = .ok (.ladd, 1) := by decide +kernel
theorem dX0_asCell_7 : decode cX0_asCell 7 = .ok (.putfield 34, 3) := by decide +kernel
theorem dX0_asCell_10 : decode cX0_asCell 10 = .ok (.iload_n 1, 1) := by decide +kernel
theorem dX0_asCell_11 : decode cX0_asCell 11 = .ok (.ireturn, 1) := by decide +kernel
theorem dX0_asCastle_0 : decode cX0_asCastle 0 = .ok (.aload_n 0, 1) := by decide +kernel
theorem dX0_asCastle_1 : decode cX0_asCastle 1 = .ok (.dup, 1) := by decide +kernel
theorem dX0_asCastle_2 : decode cX0_asCastle 2 = .ok (.getfield 34, 3) := by decide +kernel
theorem dX0_asCastle_5 : decode cX0_asCastle 5 = .ok (.ldc2_w 38, 3) := by decide +kernel
theorem dX0_asCastle_8 : decode cX0_asCastle 8 = .ok (.ladd, 1) := by decide +kernel
theorem dX0_asCastle_9 : decode cX0_asCastle 9 = .ok (.putfield 34, 3) := by decide +kernel
theorem dX0_asCastle_12 : decode cX0_asCastle 12 = .ok (.aload_n 0, 1) := by decide +kernel
theorem dX0_asCastle_13 : decode cX0_asCastle 13 = .ok (.iload_n 3, 1) := by decide +kernel
theorem dX0_asCastle_14 : decode cX0_asCastle 14 = .ok (.invokevirtual 9, 3) := by decide +kernel
theorem dX0_asCastle_17 : decode cX0_asCastle 17 = .ok (.aload_n 1, 1) := by decide +kernel
theorem dX0_asCastle_18 : decode cX0_asCastle 18 = .ok (.iload_n 2, 1) := by decide +kernel
theorem dX0_asCastle_19 : decode cX0_asCastle 19 = .ok (.iload_n 3, 1) := by decide +kernel
theorem dX0_asCastle_20 : decode cX0_asCastle 20 = .ok (.invokestatic 40, 3) := by decide +kernel
theorem dX0_asCastle_23 : decode cX0_asCastle 23 = .ok (.invokevirtual 43, 3) := by decide +kernel
theorem dX0_asCastle_26 : decode cX0_asCastle 26 = .ok (.iadd, 1) := by decide +kernel
theorem dX0_asCastle_27 : decode cX0_asCastle 27 = .ok (.ireturn, 1) := by decide +kernel
theorem dX0_asCorridor_0 : decode cX0_asCorridor 0 = .ok (.aload_n 0, 1) := by decide +kernel
theorem dX0_asCorridor_1 : decode cX0_asCorridor 1 = .ok (.dup, 1) := by decide +kernel
theorem dX0_asCorridor_2 : decode cX0_asCorridor 2 = .ok (.getfield 34, 3) := by decide +kernel
theorem dX0_asCorridor_5 : decode cX0_asCorridor 5 = .ok (.ldc2_w 48, 3) := by decide +kernel
theorem dX0_asCorridor_8 : decode cX0_asCorridor 8 = .ok (.ladd, 1) := by decide +kernel
theorem dX0_asCorridor_9 : decode cX0_asCorridor 9 = .ok (.putfield 34, 3) := by decide +kernel
theorem dX0_asCorridor_12 : decode cX0_asCorridor 12 = .ok (.aload_n 0, 1) := by decide +kernel
theorem dX0_asCorridor_13 : decode cX0_asCorridor 13 = .ok (.iload_n 2, 1) := by decide +kernel
theorem dX0_asCorridor_14 : decode cX0_asCorridor 14 = .ok (.invokevirtual 9, 3) := by decide +kernel
theorem dX0_asCorridor_17 : decode cX0_asCorridor 17 = .ok (.iload_n 1, 1) := by decide +kernel
theorem dX0_asCorridor_18 : decode cX0_asCorridor 18 = .ok (.isub, 1) := by decide +kernel
theorem dX0_asCorridor_19 : decode cX0_asCorridor 19 = .ok (.ireturn, 1) := by decide +kernel
theorem dX0_asEmpire_0 : decode cX0_asEmpire 0 = .ok (.aload_n 0, 1) := by decide +kernel
theorem dX0_asEmpire_1 : decode cX0_asEmpire 1 = .ok (.dup, 1) := by decide +kernel
theorem dX0_asEmpire_2 : decode cX0_asEmpire 2 = .ok (.getfield 34, 3) := by decide +kernel
theorem dX0_asEmpire_5 : decode cX0_asEmpire 5 = .ok (.ldc2_w 50, 3) := by decide +kernel
theorem dX0_asEmpire_8 : decode cX0_asEmpire 8 = .ok (.ladd, 1) := by decide +kernel
theorem dX0_asEmpire_9 : decode cX0_asEmpire 9 = .ok (.putfield 34, 3) := by decide +kernel
theorem dX0_asEmpire_12 : decode cX0_asEmpire 12 = .ok (.aload_n 0, 1) := by decide +kernel
theorem dX0_asEmpire_13 : decode cX0_asEmpire 13 = .ok (.aload_n 1, 1) := by decide +kernel
theorem dX0_asEmpire_14 : decode cX0_asEmpire 14 = .ok (.iload_n 2, 1) := by decide +kernel
theorem dX0_asEmpire_15 : decode cX0_asEmpire 15 = .ok (.iload_n 3, 1) := by decide +kernel
theorem dX0_asEmpire_16 : decode cX0_asEmpire 16 = .ok (.invokevirtual 15, 3) := by decide +kernel
theorem dX0_asEmpire_19 : decode cX0_asEmpire 19 = .ok (.iconst 2, 1) := by decide +kernel
theorem dX0_asEmpire_20 : decode cX0_asEmpire 20 = .ok (.imul, 1) := by decide +kernel
theorem dX0_asEmpire_21 : decode cX0_asEmpire 21 = .ok (.ireturn, 1) := by decide +kernel
theorem dX0_asPoland_0 : decode cX0_asPoland 0 = .ok (.aload_n 0, 1) := by decide +kernel
theorem dX0_asPoland_1 : decode cX0_asPoland 1 = .ok (.dup, 1) := by decide +kernel
theorem dX0_asPoland_2 : decode cX0_asPoland 2 = .ok (.getfield 34, 3) := by decide +kernel
theorem dX0_asPoland_5 : decode cX0_asPoland 5 = .ok (.ldc2_w 52, 3) := by decide +kernel
theorem dX0_asPoland_8 : decode cX0_asPoland 8 = .ok (.ladd, 1) := by decide +kernel
theorem dX0_asPoland_9 : decode cX0_asPoland 9 = .ok (.putfield 34, 3) := by decide +kernel
theorem dX0_asPoland_12 : decode cX0_asPoland 12 = .ok (.aload_n 1, 1) := by decide +kernel
theorem dX0_asPoland_13 : decode cX0_asPoland 13 = .ok (.iload_n 2, 1) := by decide +kernel
theorem dX0_asPoland_14 : decode cX0_asPoland 14 = .ok (.iload_n 3, 1) := by decide +kernel
theorem dX0_asPoland_15 : decode cX0_asPoland 15 = .ok (.invokestatic 40, 3) := by decide +kernel
theorem dX0_asPoland_18 : decode cX0_asPoland 18 = .ok (.invokevirtual 54, 3) := by decide +kernel
theorem dX0_asPoland_21 : decode cX0_asPoland 21 = .ok (.istore 4, 2) := by decide +kernel
theorem dX0_asPoland_23 : decode cX0_asPoland 23 = .ok (.aload_n 0, 1) := by decide +kernel
theorem dX0_asPoland_24 : decode cX0_asPoland 24 = .ok (.iload_n 2, 1) := by decide +kernel
theorem dX0_asPoland_25 : decode cX0_asPoland 25 = .ok (.iload_n 3, 1) := by decide +kernel
theorem dX0_asPoland_26 : decode cX0_asPoland 26 = .ok (.invokevirtual 19, 3) := by decide +kernel
theorem dX0_asPoland_29 : decode cX0_asPoland 29 = .ok (.aload_n 1, 1) := by decide +kernel
theorem dX0_asPoland_30 : decode cX0_asPoland 30 = .ok (.iload 4, 2) := by decide +kernel
theorem dX0_asPoland_32 : decode cX0_asPoland 32 = .ok (.invokevirtual 57, 3) := by decide +kernel
theorem dX0_asPoland_35 : decode cX0_asPoland 35 = .ok (.invokestatic 60, 3) := by decide +kernel
theorem dX0_asPoland_38 : decode cX0_asPoland 38 = .ok (.iadd, 1) := by decide +kernel
theorem dX0_asPoland_39 : decode cX0_asPoland 39 = .ok (.ireturn, 1) := by decide +kernel
theorem dX0_asSalient_0 : decode cX0_asSalient 0 = .ok (.aload_n 0, 1) := by decide +kernel
theorem dX0_asSalient_1 : decode cX0_asSalient 1 = .ok (.dup, 1) := by decide +kernel
theorem dX0_asSalient_2 : decode cX0_asSalient 2 = .ok (.getfield 34, 3) := by decide +kernel
theorem dX0_asSalient_5 : decode cX0_asSalient 5 = .ok (.ldc2_w 65, 3) := by decide +kernel
theorem dX0_asSalient_8 : decode cX0_asSalient 8 = .ok (.ladd, 1) := by decide +kernel
theorem dX0_asSalient_9 : decode cX0_asSalient 9 = .ok (.putfield 34, 3) := by decide +kernel
theorem dX0_asSalient_12 : decode cX0_asSalient 12 = .ok (.aload_n 0, 1) := by decide +kernel
theorem dX0_asSalient_13 : decode cX0_asSalient 13 = .ok (.iload_n 2, 1) := by decide +kernel
theorem dX0_asSalient_14 : decode cX0_asSalient 14 = .ok (.invokevirtual 9, 3) := by decide +kernel
theorem dX0_asSalient_17 : decode cX0_asSalient 17 = .ok (.aload_n 1, 1) := by decide +kernel
theorem dX0_asSalient_18 : decode cX0_asSalient 18 = .ok (.getfield 67, 3) := by decide +kernel
theorem dX0_asSalient_21 : decode cX0_asSalient 21 = .ok (.iadd, 1) := by decide +kernel
theorem dX0_asSalient_22 : decode cX0_asSalient 22 = .ok (.ireturn, 1) := by decide +kernel
theorem dX1_init_0 : decode cX1_init 0 = .ok (.aload_n 0, 1) := by decide +kernel
theorem dX1_init_1 : decode cX1_init 1 = .ok (.invokespecial 3, 3) := by decide +kernel
theorem dX1_init_4 : decode cX1_init 4 = .ok (.aload_n 0, 1) := by decide +kernel
theorem dX1_init_5 : decode cX1_init 5 = .ok (.new 9, 3) := by decide +kernel
theorem dX1_init_8 : decode cX1_init 8 = .ok (.dup, 1) := by decide +kernel
theorem dX1_init_9 : decode cX1_init 9 = .ok (.invokespecial 11, 3) := by decide +kernel
theorem dX1_init_12 : decode cX1_init 12 = .ok (.putfield 12, 3) := by decide +kernel
theorem dX1_init_15 : decode cX1_init 15 = .ok (.aload_n 0, 1) := by decide +kernel
theorem dX1_init_16 : decode cX1_init 16 = .ok (.new 18, 3) := by decide +kernel
theorem dX1_init_19 : decode cX1_init 19 = .ok (.dup, 1) := by decide +kernel
theorem dX1_init_20 : decode cX1_init 20 = .ok (.invokespecial 20, 3) := by decide +kernel
theorem dX1_init_23 : decode cX1_init 23 = .ok (.putfield 21, 3) := by decide +kernel
theorem dX1_init_26 : decode cX1_init 26 = .ok (.return_, 1) := by decide +kernel
theorem dX1_readAll_0 : decode cX1_readAll 0 = .ok (.aload_n 0, 1) := by decide +kernel
theorem dX1_readAll_1 : decode cX1_readAll 1 = .ok (.getfield 21, 3) := by decide +kernel
theorem dX1_readAll_4 : decode cX1_readAll 4 = .ok (.invokevirtual 25, 3) := by decide +kernel
theorem dX1_readAll_7 : decode cX1_readAll 7 = .ok (.aload_n 0, 1) := by decide +kernel
theorem dX1_readAll_8 : decode cX1_readAll 8 = .ok (.iconst 0, 1) := by decide +kernel
theorem dX1_readAll_9 : decode cX1_readAll 9 = .ok (.putfield 28, 3) := by decide +kernel
theorem dX1_readAll_12 : decode cX1_readAll 12 = .ok (.aload_n 0, 1) := by decide +kernel
theorem dX1_readAll_13 : decode cX1_readAll 13 = .ok (.iconst 0, 1) := by decide +kernel
theorem dX1_readAll_14 : decode cX1_readAll 14 = .ok (.putfield 32, 3) := by decide +kernel
theorem dX1_readAll_17 : decode cX1_readAll 17 = .ok (.aload_n 0, 1) := by decide +kernel
theorem dX1_readAll_18 : decode cX1_readAll 18 = .ok (.iconst 0, 1) := by decide +kernel
theorem dX1_readAll_19 : decode cX1_readAll 19 = .ok (.putfield 35, 3) := by decide +kernel
theorem dX1_readAll_22 : decode cX1_readAll 22 = .ok (.iconst 0, 1) := by decide +kernel
theorem dX1_readAll_23 : decode cX1_readAll 23 = .ok (.istore_n 1, 1) := by decide +kernel
theorem dX1_readAll_24 : decode cX1_readAll 24 = .ok (.iload_n 1, 1) := by decide +kernel
theorem dX1_readAll_25 : decode cX1_readAll 25 = .ok (.sipush 150, 3) := by decide +kernel
theorem dX1_readAll_28 : decode cX1_readAll 28 = .ok (.if_icmp .gt 50, 3) := by decide +kernel
theorem dX1_readAll_31 : decode cX1_readAll 31 = .ok (.aload_n 0, 1) := by decide +kernel
theorem dX1_readAll_32 : decode cX1_readAll 32 = .ok (.invokevirtual 39, 3) := by decide +kernel
theorem dX1_readAll_35 : decode cX1_readAll 35 = .ok (.aload_n 0, 1) := by decide +kernel
theorem dX1_readAll_36 : decode cX1_readAll 36 = .ok (.getfield 42, 3) := by decide +kernel
theorem dX1_readAll_39 : decode cX1_readAll 39 = .ok (.ifCond .ne 8, 3) := by decide +kernel
theorem dX1_readAll_42 : decode cX1_readAll 42 = .ok (.aload_n 0, 1) := by decide +kernel
theorem dX1_readAll_43 : decode cX1_readAll 43 = .ok (.getfield 32, 3) := by decide +kernel
theorem dX1_readAll_46 : decode cX1_readAll 46 = .ok (.ireturn, 1) := by decide +kernel
theorem dX1_readAll_47 : decode cX1_readAll 47 = .ok (.aload_n 0, 1) := by decide +kernel
theorem dX1_readAll_48 : decode cX1_readAll 48 = .ok (.invokevirtual 45, 3) := by decide +kernel
theorem dX1_readAll_51 : decode cX1_readAll 51 = .ok (.ifCond .ne 11, 3) := by decide +kernel
theorem dX1_readAll_54 : decode cX1_readAll 54 = .ok (.bipush (-10), 2) := by decide +kernel
theorem dX1_readAll_56 : decode cX1_readAll 56 = .ok (.aload_n 0, 1) := by decide +kernel
theorem dX1_readAll_57 : decode cX1_readAll 57 = .ok (.getfield 49, 3) := by decide +kernel
theorem dX1_readAll_60 : decode cX1_readAll 60 = .ok (.isub, 1) := by decide +kernel
theorem dX1_readAll_61 : decode cX1_readAll 61 = .ok (.ireturn, 1) := by decide +kernel
theorem dX1_readAll_62 : decode cX1_readAll 62 = .ok (.aload_n 0, 1) := by decide +kernel
theorem dX1_readAll_63 : decode cX1_readAll 63 = .ok (.dup, 1) := by decide +kernel
theorem dX1_readAll_64 : decode cX1_readAll 64 = .ok (.getfield 32, 3) := by decide +kernel
theorem dX1_readAll_67 : decode cX1_readAll 67 = .ok (.iconst 1, 1) := by decide +kernel
theorem dX1_readAll_68 : decode cX1_readAll 68 = .ok (.iadd, 1) := by decide +kernel
theorem dX1_readAll_69 : decode cX1_readAll 69 = .ok (.putfield 32, 3) := by decide +kernel
theorem dX1_readAll_72 : decode cX1_readAll 72 = .ok (.iinc 1 1, 3) := by decide +kernel
theorem dX1_readAll_75 : decode cX1_readAll 75 = .ok (.goto (-51), 3) := by decide +kernel
theorem dX1_readAll_78 : decode cX1_readAll 78 = .ok (.aload_n 0, 1) := by decide +kernel
theorem dX1_readAll_79 : decode cX1_readAll 79 = .ok (.getfield 32, 3) := by decide +kernel
theorem dX1_readAll_82 : decode cX1_readAll 82 = .ok (.ireturn, 1) := by decide +kernel
theorem dX1_isItem_0 : decode cX1_isItem 0 = .ok (.aload_n 0, 1) := by decide +kernel
theorem dX1_isItem_1 : decode cX1_isItem 1 = .ok (.getfield 42, 3) := by decide +kernel
theorem dX1_isItem_4 : decode cX1_isItem 4 = .ok (.iconst 1, 1) := by decide +kernel
theorem dX1_isItem_5 : decode cX1_isItem 5 = .ok (.if_icmp .eq 5, 3) := by decide +kernel
theorem dX1_isItem_8 : decode cX1_isItem 8 = .ok (.iconst 0, 1) := by decide +kernel
theorem dX1_isItem_9 : decode cX1_isItem 9 = .ok (.ireturn, 1) := by decide +kernel
theorem dX1_isItem_10 : decode cX1_isItem 10 = .ok (.aload_n 0, 1) := by decide +kernel
theorem dX1_isItem_11 : decode cX1_isItem 11 = .ok (.getfield 52, 3) := by decide +kernel
theorem dX1_isItem_14 : decode cX1_isItem 14 = .ok (.lookupswitch 136 #[(99, 89), (103, 42), (111, 69), (119, 109)], 42) := by decide +kernel
theorem dX1_isItem_56 : decode cX1_isItem 56 = .ok (.aload_n 0, 1) := by decide +kernel
theorem dX1_isItem_57 : decode cX1_isItem 57 = .ok (.getfield 32, 3) := by decide +kernel
theorem dX1_isItem_60 : decode cX1_isItem 60 = .ok (.ifCond .ne 21, 3) := by decide +kernel
theorem dX1_isItem_63 : decode cX1_isItem 63 = .ok (.aload_n 0, 1) := by decide +kernel
theorem dX1_isItem_64 : decode cX1_isItem 64 = .ok (.invokevirtual 55, 3) := by decide +kernel
theorem dX1_isItem_67 : decode cX1_isItem 67 = .ok (.ifCond .eq 14, 3) := by decide +kernel
theorem dX1_isItem_70 : decode cX1_isItem 70 = .ok (.aload_n 0, 1) := by decide +kernel
theorem dX1_isItem_71 : decode cX1_isItem 71 = .ok (.invokevirtual 58, 3) := by decide +kernel
theorem dX1_isItem_74 : decode cX1_isItem 74 = .ok (.ifCond .eq 7, 3) := by decide +kernel
theorem dX1_isItem_77 : decode cX1_isItem 77 = .ok (.iconst 1, 1) := by decide +kernel
theorem dX1_isItem_78 : decode cX1_isItem 78 = .ok (.goto 4, 3) := by decide +kernel
theorem dX1_isItem_81 : decode cX1_isItem 81 = .ok (.iconst 0, 1) := by decide +kernel
theorem dX1_isItem_82 : decode cX1_isItem 82 = .ok (.ireturn, 1) := by decide +kernel
theorem dX1_isItem_83 : decode cX1_isItem 83 = .ok (.aload_n 0, 1) := by decide +kernel
theorem dX1_isItem_84 : decode cX1_isItem 84 = .ok (.invokevirtual 61, 3) := by decide +kernel
theorem dX1_isItem_87 : decode cX1_isItem 87 = .ok (.ifCond .eq 14, 3) := by decide +kernel
theorem dX1_isItem_90 : decode cX1_isItem 90 = .ok (.aload_n 0, 1) := by decide +kernel
theorem dX1_isItem_91 : decode cX1_isItem 91 = .ok (.invokevirtual 58, 3) := by decide +kernel
theorem dX1_isItem_94 : decode cX1_isItem 94 = .ok (.ifCond .eq 7, 3) := by decide +kernel
theorem dX1_isItem_97 : decode cX1_isItem 97 = .ok (.iconst 1, 1) := by decide +kernel
theorem dX1_isItem_98 : decode cX1_isItem 98 = .ok (.goto 4, 3) := by decide +kernel
theorem dX1_isItem_101 : decode cX1_isItem 101 = .ok (.iconst 0, 1) := by decide +kernel
theorem dX1_isItem_102 : decode cX1_isItem 102 = .ok (.ireturn, 1) := by decide +kernel
theorem dX1_isItem_103 : decode cX1_isItem 103 = .ok (.aload_n 0, 1) := by decide +kernel
theorem dX1_isItem_104 : decode cX1_isItem 104 = .ok (.invokevirtual 64, 3) := by decide +kernel
theorem dX1_isItem_107 : decode cX1_isItem 107 = .ok (.ifCond .eq 14, 3) := by decide +kernel
theorem dX1_isItem_110 : decode cX1_isItem 110 = .ok (.aload_n 0, 1) := by decide +kernel
theorem dX1_isItem_111 : decode cX1_isItem 111 = .ok (.invokevirtual 58, 3) := by decide +kernel
theorem dX1_isItem_114 : decode cX1_isItem 114 = .ok (.ifCond .eq 7, 3) := by decide +kernel
theorem dX1_isItem_117 : decode cX1_isItem 117 = .ok (.iconst 1, 1) := by decide +kernel
theorem dX1_isItem_118 : decode cX1_isItem 118 = .ok (.goto 4, 3) := by decide +kernel
theorem dX1_isItem_121 : decode cX1_isItem 121 = .ok (.iconst 0, 1) := by decide +kernel
theorem dX1_isItem_122 : decode cX1_isItem 122 = .ok (.ireturn, 1) := by decide +kernel
theorem dX1_isItem_123 : decode cX1_isItem 123 = .ok (.aload_n 0, 1) := by decide +kernel
theorem dX1_isItem_124 : decode cX1_isItem 124 = .ok (.getfield 35, 3) := by decide +kernel
theorem dX1_isItem_127 : decode cX1_isItem 127 = .ok (.ifCond .ne 21, 3) := by decide +kernel
theorem dX1_isItem_130 : decode cX1_isItem 130 = .ok (.aload_n 0, 1) := by decide +kernel
theorem dX1_isItem_131 : decode cX1_isItem 131 = .ok (.invokevirtual 67, 3) := by decide +kernel
theorem dX1_isItem_134 : decode cX1_isItem 134 = .ok (.ifCond .eq 14, 3) := by decide +kernel
theorem dX1_isItem_137 : decode cX1_isItem 137 = .ok (.aload_n 0, 1) := by decide +kernel
theorem dX1_isItem_138 : decode cX1_isItem 138 = .ok (.invokevirtual 58, 3) := by decide +kernel
theorem dX1_isItem_141 : decode cX1_isItem 141 = .ok (.ifCond .eq 7, 3) := by decide +kernel
theorem dX1_isItem_144 : decode cX1_isItem 144 = .ok (.iconst 1, 1) := by decide +kernel
theorem dX1_isItem_145 : decode cX1_isItem 145 = .ok (.goto 4, 3) := by decide +kernel
theorem dX1_isItem_148 : decode cX1_isItem 148 = .ok (.iconst 0, 1) := by decide +kernel
theorem dX1_isItem_149 : decode cX1_isItem 149 = .ok (.ireturn, 1) := by decide +kernel
theorem dX1_isItem_150 : decode cX1_isItem 150 = .ok (.iconst 0, 1) := by decide +kernel
theorem dX1_isItem_151 : decode cX1_isItem 151 = .ok (.ireturn, 1) := by decide +kernel
theorem dX1_isSize_0 : decode cX1_isSize 0 = .ok (.aload_n 0, 1) := by decide +kernel
theorem dX1_isSize_1 : decode cX1_isSize 1 = .ok (.invokevirtual 39, 3) := by decide +kernel
theorem dX1_isSize_4 : decode cX1_isSize 4 = .ok (.aload_n 0, 1) := by decide +kernel
theorem dX1_isSize_5 : decode cX1_isSize 5 = .ok (.iconst 1, 1) := by decide +kernel
theorem dX1_isSize_6 : decode cX1_isSize 6 = .ok (.iconst 5, 1) := by decide +kernel
theorem dX1_isSize_7 : decode cX1_isSize 7 = .ok (.invokevirtual 70, 3) := by decide +kernel
theorem dX1_isSize_10 : decode cX1_isSize 10 = .ok (.ifCond .ne 5, 3) := by decide +kernel
theorem dX1_isSize_13 : decode cX1_isSize 13 = .ok (.iconst 0, 1) := by decide +kernel
theorem dX1_isSize_14 : decode cX1_isSize 14 = .ok (.ireturn, 1) := by decide +kernel
theorem dX1_isSize_15 : decode cX1_isSize 15 = .ok (.aload_n 0, 1) := by decide +kernel
theorem dX1_isSize_16 : decode cX1_isSize 16 = .ok (.getfield 21, 3) := by decide +kernel
theorem dX1_isSize_19 : decode cX1_isSize 19 = .ok (.aload_n 0, 1) := by decide +kernel
theorem dX1_isSize_20 : decode cX1_isSize 20 = .ok (.getfield 52, 3) := by decide +kernel
theorem dX1_isSize_23 : decode cX1_isSize 23 = .ok (.putfield 74, 3) := by decide +kernel
theorem dX1_isSize_26 : decode cX1_isSize 26 = .ok (.aload_n 0, 1) := by decide +kernel
theorem dX1_isSize_27 : decode cX1_isSize 27 = .ok (.invokevirtual 39, 3) := by decide +kernel
theorem dX1_isSize_30 : decode cX1_isSize 30 = .ok (.aload_n 0, 1) := by decide +kernel
theorem dX1_isSize_31 : decode cX1_isSize 31 = .ok (.iconst 1, 1) := by decide +kernel
theorem dX1_isSize_32 : decode cX1_isSize 32 = .ok (.iconst 4, 1) := by decide +kernel
theorem dX1_isSize_33 : decode cX1_isSize 33 = .ok (.invokevirtual 70, 3) := by decide +kernel
theorem dX1_isSize_36 : decode cX1_isSize 36 = .ok (.ifCond .ne 5, 3) := by decide +kernel
theorem dX1_isSize_39 : decode cX1_isSize 39 = .ok (.iconst 0, 1) := by decide +kernel
theorem dX1_isSize_40 : decode cX1_isSize 40 = .ok (.ireturn, 1) := by decide +kernel
theorem dX1_isSize_41 : decode cX1_isSize 41 = .ok (.aload_n 0, 1) := by decide +kernel
theorem dX1_isSize_42 : decode cX1_isSize 42 = .ok (.getfield 21, 3) := by decide +kernel
theorem dX1_isSize_45 : decode cX1_isSize 45 = .ok (.aload_n 0, 1) := by decide +kernel
theorem dX1_isSize_46 : decode cX1_isSize 46 = .ok (.getfield 52, 3) := by decide +kernel
theorem dX1_isSize_49 : decode cX1_isSize 49 = .ok (.putfield 77, 3) := by decide +kernel
theorem dX1_isSize_52 : decode cX1_isSize 52 = .ok (.iconst 1, 1) := by decide +kernel
theorem dX1_isSize_53 : decode cX1_isSize 53 = .ok (.ireturn, 1) := by decide +kernel
theorem dX1_isHolder_0 : decode cX1_isHolder 0 = .ok (.aload_n 0, 1) := by decide +kernel
theorem dX1_isHolder_1 : decode cX1_isHolder 1 = .ok (.invokevirtual 39, 3) := by decide +kernel
theorem dX1_isHolder_4 : decode cX1_isHolder 4 = .ok (.aload_n 0, 1) := by decide +kernel
theorem dX1_isHolder_5 : decode cX1_isHolder 5 = .ok (.iconst 0, 1) := by decide +kernel
theorem dX1_isHolder_6 : decode cX1_isHolder 6 = .ok (.iconst 4, 1) := by decide +kernel
theorem dX1_isHolder_7 : decode cX1_isHolder 7 = .ok (.invokevirtual 70, 3) := by decide +kernel
theorem dX1_isHolder_10 : decode cX1_isHolder 10 = .ok (.ifCond .ne 5, 3) := by decide +kernel
theorem dX1_isHolder_13 : decode cX1_isHolder 13 = .ok (.iconst 0, 1) := by decide +kernel
theorem dX1_isHolder_14 : decode cX1_isHolder 14 = .ok (.ireturn, 1) := by decide +kernel
theorem dX1_isHolder_15 : decode cX1_isHolder 15 = .ok (.aload_n 0, 1) := by decide +kernel
theorem dX1_isHolder_16 : decode cX1_isHolder 16 = .ok (.getfield 52, 3) := by decide +kernel
theorem dX1_isHolder_19 : decode cX1_isHolder 19 = .ok (.istore_n 1, 1) := by decide +kernel
theorem dX1_isHolder_20 : decode cX1_isHolder 20 = .ok (.aload_n 0, 1) := by decide +kernel
theorem dX1_isHolder_21 : decode cX1_isHolder 21 = .ok (.aload_n 0, 1) := by decide +kernel
theorem dX1_isHolder_22 : decode cX1_isHolder 22 = .ok (.getfield 21, 3) := by decide +kernel
theorem dX1_isHolder_25 : decode cX1_isHolder 25 = .ok (.invokevirtual 80, 3) := by decide +kernel
theorem dX1_isHolder_28 : decode cX1_isHolder 28 = .ok (.invokevirtual 84, 3) := by decide +kernel
theorem dX1_isHolder_31 : decode cX1_isHolder 31 = .ok (.istore_n 2, 1) := by decide +kernel
theorem dX1_isHolder_32 : decode cX1_isHolder 32 = .ok (.aload_n 0, 1) := by decide +kernel
theorem dX1_isHolder_33 : decode cX1_isHolder 33 = .ok (.getfield 21, 3) := by decide +kernel
theorem dX1_isHolder_36 : decode cX1_isHolder 36 = .ok (.iload_n 1, 1) := by decide +kernel
theorem dX1_isHolder_37 : decode cX1_isHolder 37 = .ok (.iload_n 2, 1) := by decide +kernel
theorem dX1_isHolder_38 : decode cX1_isHolder 38 = .ok (.invokevirtual 88, 3) := by decide +kernel
theorem dX1_isHolder_41 : decode cX1_isHolder 41 = .ok (.iload_n 2, 1) := by decide +kernel
theorem dX1_isHolder_42 : decode cX1_isHolder 42 = .ok (.ifCond .eq 7, 3) := by decide +kernel
theorem dX1_isHolder_45 : decode cX1_isHolder 45 = .ok (.iconst 1, 1) := by decide +kernel
theorem dX1_isHolder_46 : decode cX1_isHolder 46 = .ok (.goto 4, 3) := by decide +kernel
theorem dX1_isHolder_49 : decode cX1_isHolder 49 = .ok (.iconst 0, 1) := by decide +kernel
theorem dX1_isHolder_50 : decode cX1_isHolder 50 = .ok (.ireturn, 1) := by decide +kernel
theorem dX1_isCloth_0 : decode cX1_isCloth 0 = .ok (.aload_n 0, 1) := by decide +kernel
theorem dX1_isCloth_1 : decode cX1_isCloth 1 = .ok (.aload_n 0, 1) := by decide +kernel
theorem dX1_isCloth_2 : decode cX1_isCloth 2 = .ok (.getfield 21, 3) := by decide +kernel
theorem dX1_isCloth_5 : decode cX1_isCloth 5 = .ok (.getfield 92, 3) := by decide +kernel
theorem dX1_isCloth_8 : decode cX1_isCloth 8 = .ok (.invokevirtual 84, 3) := by decide +kernel
theorem dX1_isCloth_11 : decode cX1_isCloth 11 = .ok (.istore_n 1, 1) := by decide +kernel
theorem dX1_isCloth_12 : decode cX1_isCloth 12 = .ok (.aload_n 0, 1) := by decide +kernel
theorem dX1_isCloth_13 : decode cX1_isCloth 13 = .ok (.getfield 21, 3) := by decide +kernel
theorem dX1_isCloth_16 : decode cX1_isCloth 16 = .ok (.dup, 1) := by decide +kernel
theorem dX1_isCloth_17 : decode cX1_isCloth 17 = .ok (.getfield 92, 3) := by decide +kernel
theorem dX1_isCloth_20 : decode cX1_isCloth 20 = .ok (.iload_n 1, 1) := by decide +kernel
theorem dX1_isCloth_21 : decode cX1_isCloth 21 = .ok (.ior, 1) := by decide +kernel
theorem dX1_isCloth_22 : decode cX1_isCloth 22 = .ok (.putfield 92, 3) := by decide +kernel
theorem dX1_isCloth_25 : decode cX1_isCloth 25 = .ok (.iload_n 1, 1) := by decide +kernel
theorem dX1_isCloth_26 : decode cX1_isCloth 26 = .ok (.ifCond .eq 7, 3) := by decide +kernel
theorem dX1_isCloth_29 : decode cX1_isCloth 29 = .ok (.iconst 1, 1) := by decide +kernel
theorem dX1_isCloth_30 : decode cX1_isCloth 30 = .ok (.goto 4, 3) := by decide +kernel
theorem dX1_isCloth_33 : decode cX1_isCloth 33 = .ok (.iconst 0, 1) := by decide +kernel
theorem dX1_isCloth_34 : decode cX1_isCloth 34 = .ok (.ireturn, 1) := by decide +kernel
theorem dX1_isWind_0 : decode cX1_isWind 0 = .ok (.aload_n 0, 1) := by decide +kernel
theorem dX1_isWind_1 : decode cX1_isWind 1 = .ok (.invokevirtual 39, 3) := by decide +kernel
theorem dX1_isWind_4 : decode cX1_isWind 4 = .ok (.aload_n 0, 1) := by decide +kernel
theorem dX1_isWind_5 : decode cX1_isWind 5 = .ok (.iconst 0, 1) := by decide +kernel
theorem dX1_isWind_6 : decode cX1_isWind 6 = .ok (.iconst 1, 1) := by decide +kernel
theorem dX1_isWind_7 : decode cX1_isWind 7 = .ok (.invokevirtual 70, 3) := by decide +kernel
theorem dX1_isWind_10 : decode cX1_isWind 10 = .ok (.ifCond .ne 5, 3) := by decide +kernel
theorem dX1_isWind_13 : decode cX1_isWind 13 = .ok (.iconst 0, 1) := by decide +kernel
theorem dX1_isWind_14 : decode cX1_isWind 14 = .ok (.ireturn, 1) := by decide +kernel
theorem dX1_isWind_15 : decode cX1_isWind 15 = .ok (.aload_n 0, 1) := by decide +kernel
theorem dX1_isWind_16 : decode cX1_isWind 16 = .ok (.getfield 21, 3) := by decide +kernel
theorem dX1_isWind_19 : decode cX1_isWind 19 = .ok (.aload_n 0, 1) := by decide +kernel
theorem dX1_isWind_20 : decode cX1_isWind 20 = .ok (.getfield 52, 3) := by decide +kernel
theorem dX1_isWind_23 : decode cX1_isWind 23 = .ok (.putfield 95, 3) := by decide +kernel
theorem dX1_isWind_26 : decode cX1_isWind 26 = .ok (.aload_n 0, 1) := by decide +kernel
theorem dX1_isWind_27 : decode cX1_isWind 27 = .ok (.iconst 1, 1) := by decide +kernel
theorem dX1_isWind_28 : decode cX1_isWind 28 = .ok (.putfield 35, 3) := by decide +kernel
theorem dX1_isWind_31 : decode cX1_isWind 31 = .ok (.iconst 1, 1) := by decide +kernel
theorem dX1_isWind_32 : decode cX1_isWind 32 = .ok (.ireturn, 1) := by decide +kernel
theorem dX1_isStop_0 : decode cX1_isStop 0 = .ok (.aload_n 0, 1) := by decide +kernel
theorem dX1_isStop_1 : decode cX1_isStop 1 = .ok (.invokevirtual 39, 3) := by decide +kernel
theorem dX1_isStop_4 : decode cX1_isStop 4 = .ok (.aload_n 0, 1) := by decide +kernel
theorem dX1_isStop_5 : decode cX1_isStop 5 = .ok (.getfield 42, 3) := by decide +kernel
theorem dX1_isStop_8 : decode cX1_isStop 8 = .ok (.iconst 3, 1) := by decide +kernel
theorem dX1_isStop_9 : decode cX1_isStop 9 = .ok (.if_icmp .ne 7, 3) := by decide +kernel
theorem dX1_isStop_12 : decode cX1_isStop 12 = .ok (.iconst 1, 1) := by decide +kernel
theorem dX1_isStop_13 : decode cX1_isStop 13 = .ok (.goto 4, 3) := by decide +kernel
theorem dX1_isStop_16 : decode cX1_isStop 16 = .ok (.iconst 0, 1) := by decide +kernel
theorem dX1_isStop_17 : decode cX1_isStop 17 = .ok (.ireturn, 1) := by decide +kernel
theorem dX1_readFreeBit_0 : decode cX1_readFreeBit 0 = .ok (.aload_n 0, 1) := by decide +kernel
theorem dX1_readFreeBit_1 : decode cX1_readFreeBit 1 = .ok (.invokevirtual 39, 3) := by decide +kernel
theorem dX1_readFreeBit_4 : decode cX1_readFreeBit 4 = .ok (.aload_n 0, 1) := by decide +kernel
theorem dX1_readFreeBit_5 : decode cX1_readFreeBit 5 = .ok (.iconst 0, 1) := by decide +kernel
theorem dX1_readFreeBit_6 : decode cX1_readFreeBit 6 = .ok (.aload_n 0, 1) := by decide +kernel
theorem dX1_readFreeBit_7 : decode cX1_readFreeBit 7 = .ok (.getfield 21, 3) := by decide +kernel
theorem dX1_readFreeBit_10 : decode cX1_readFreeBit 10 = .ok (.getfield 74, 3) := by decide +kernel
theorem dX1_readFreeBit_13 : decode cX1_readFreeBit 13 = .ok (.iconst 1, 1) := by decide +kernel
theorem dX1_readFreeBit_14 : decode cX1_readFreeBit 14 = .ok (.isub, 1) := by decide +kernel
theorem dX1_readFreeBit_15 : decode cX1_readFreeBit 15 = .ok (.invokevirtual 70, 3) := by decide +kernel
theorem dX1_readFreeBit_18 : decode cX1_readFreeBit 18 = .ok (.ifCond .ne 5, 3) := by decide +kernel
theorem dX1_readFreeBit_21 : decode cX1_readFreeBit 21 = .ok (.iconst 0, 1) := by decide +kernel
theorem dX1_readFreeBit_22 : decode cX1_readFreeBit 22 = .ok (.ireturn, 1) := by decide +kernel
theorem dX1_readFreeBit_23 : decode cX1_readFreeBit 23 = .ok (.aload_n 0, 1) := by decide +kernel
theorem dX1_readFreeBit_24 : decode cX1_readFreeBit 24 = .ok (.getfield 52, 3) := by decide +kernel
theorem dX1_readFreeBit_27 : decode cX1_readFreeBit 27 = .ok (.istore_n 2, 1) := by decide +kernel
theorem dX1_readFreeBit_28 : decode cX1_readFreeBit 28 = .ok (.aload_n 0, 1) := by decide +kernel
theorem dX1_readFreeBit_29 : decode cX1_readFreeBit 29 = .ok (.invokevirtual 39, 3) := by decide +kernel
theorem dX1_readFreeBit_32 : decode cX1_readFreeBit 32 = .ok (.aload_n 0, 1) := by decide +kernel
theorem dX1_readFreeBit_33 : decode cX1_readFreeBit 33 = .ok (.iconst 0, 1) := by decide +kernel
theorem dX1_readFreeBit_34 : decode cX1_readFreeBit 34 = .ok (.aload_n 0, 1) := by decide +kernel
theorem dX1_readFreeBit_35 : decode cX1_readFreeBit 35 = .ok (.getfield 21, 3) := by decide +kernel
theorem dX1_readFreeBit_38 : decode cX1_readFreeBit 38 = .ok (.getfield 77, 3) := by decide +kernel
theorem dX1_readFreeBit_41 : decode cX1_readFreeBit 41 = .ok (.iconst 1, 1) := by decide +kernel
theorem dX1_readFreeBit_42 : decode cX1_readFreeBit 42 = .ok (.isub, 1) := by decide +kernel
theorem dX1_readFreeBit_43 : decode cX1_readFreeBit 43 = .ok (.invokevirtual 70, 3) := by decide +kernel
theorem dX1_readFreeBit_46 : decode cX1_readFreeBit 46 = .ok (.ifCond .ne 5, 3) := by decide +kernel
theorem dX1_readFreeBit_49 : decode cX1_readFreeBit 49 = .ok (.iconst 0, 1) := by decide +kernel
theorem dX1_readFreeBit_50 : decode cX1_readFreeBit 50 = .ok (.ireturn, 1) := by decide +kernel
theorem dX1_readFreeBit_51 : decode cX1_readFreeBit 51 = .ok (.iload_n 2, 1) := by decide +kernel
theorem dX1_readFreeBit_52 : decode cX1_readFreeBit 52 = .ok (.aload_n 0, 1) := by decide +kernel
theorem dX1_readFreeBit_53 : decode cX1_readFreeBit 53 = .ok (.getfield 52, 3) := by decide +kernel
theorem dX1_readFreeBit_56 : decode cX1_readFreeBit 56 = .ok (.invokestatic 98, 3) := by decide +kernel
theorem dX1_readFreeBit_59 : decode cX1_readFreeBit 59 = .ok (.iload_n 1, 1) := by decide +kernel
theorem dX1_readFreeBit_60 : decode cX1_readFreeBit 60 = .ok (.iconst (-1), 1) := by decide +kernel
theorem dX1_readFreeBit_61 : decode cX1_readFreeBit 61 = .ok (.ixor, 1) := by decide +kernel
theorem dX1_readFreeBit_62 : decode cX1_readFreeBit 62 = .ok (.iand, 1) := by decide +kernel
theorem dX1_readFreeBit_63 : decode cX1_readFreeBit 63 = .ok (.ireturn, 1) := by decide +kernel
theorem dX1_isNumber_0 : decode cX1_isNumber 0 = .ok (.aload_n 0, 1) := by decide +kernel
theorem dX1_isNumber_1 : decode cX1_isNumber 1 = .ok (.getfield 42, 3) := by decide +kernel
theorem dX1_isNumber_4 : decode cX1_isNumber 4 = .ok (.iconst 2, 1) := by decide +kernel
theorem dX1_isNumber_5 : decode cX1_isNumber 5 = .ok (.if_icmp .ne 23, 3) := by decide +kernel
theorem dX1_isNumber_8 : decode cX1_isNumber 8 = .ok (.aload_n 0, 1) := by decide +kernel
theorem dX1_isNumber_9 : decode cX1_isNumber 9 = .ok (.getfield 52, 3) := by decide +kernel
theorem dX1_isNumber_12 : decode cX1_isNumber 12 = .ok (.iload_n 1, 1) := by decide +kernel
theorem dX1_isNumber_13 : decode cX1_isNumber 13 = .ok (.if_icmp .lt 15, 3) := by decide +kernel
theorem dX1_isNumber_16 : decode cX1_isNumber 16 = .ok (.aload_n 0, 1) := by decide +kernel
theorem dX1_isNumber_17 : decode cX1_isNumber 17 = .ok (.getfield 52, 3) := by decide +kernel
theorem dX1_isNumber_20 : decode cX1_isNumber 20 = .ok (.iload_n 2, 1) := by decide +kernel
theorem dX1_isNumber_21 : decode cX1_isNumber 21 = .ok (.if_icmp .gt 7, 3) := by decide +kernel
theorem dX1_isNumber_24 : decode cX1_isNumber 24 = .ok (.iconst 1, 1) := by decide +kernel
theorem dX1_isNumber_25 : decode cX1_isNumber 25 = .ok (.goto 4, 3) := by decide +kernel
theorem dX1_isNumber_28 : decode cX1_isNumber 28 = .ok (.iconst 0, 1) := by decide +kernel
theorem dX1_isNumber_29 : decode cX1_isNumber 29 = .ok (.ireturn, 1) := by decide +kernel
theorem dX1_readToken_0 : decode cX1_readToken 0 = .ok (.iconst 0, 1) := by decide +kernel
theorem dX1_readToken_1 : decode cX1_readToken 1 = .ok (.istore_n 1, 1) := by decide +kernel
theorem dX1_readToken_2 : decode cX1_readToken 2 = .ok (.iload_n 1, 1) := by decide +kernel
theorem dX1_readToken_3 : decode cX1_readToken 3 = .ok (.sipush 150, 3) := by decide +kernel
theorem dX1_readToken_6 : decode cX1_readToken 6 = .ok (.if_icmp .ge 35, 3) := by decide +kernel
theorem dX1_readToken_9 : decode cX1_readToken 9 = .ok (.aload_n 0, 1) := by decide +kernel
theorem dX1_readToken_10 : decode cX1_readToken 10 = .ok (.getfield 12, 3) := by decide +kernel
theorem dX1_readToken_13 : decode cX1_readToken 13 = .ok (.aload_n 0, 1) := by decide +kernel
theorem dX1_readToken_14 : decode cX1_readToken 14 = .ok (.getfield 28, 3) := by decide +kernel
theorem dX1_readToken_17 : decode cX1_readToken 17 = .ok (.invokevirtual 102, 3) := by decide +kernel
theorem dX1_readToken_20 : decode cX1_readToken 20 = .ok (.bipush 32, 2) := by decide +kernel
theorem dX1_readToken_22 : decode cX1_readToken 22 = .ok (.if_icmp .ne 19, 3) := by decide +kernel
theorem dX1_readToken_25 : decode cX1_readToken 25 = .ok (.aload_n 0, 1) := by decide +kernel
theorem dX1_readToken_26 : decode cX1_readToken 26 = .ok (.dup, 1) := by decide +kernel
theorem dX1_readToken_27 : decode cX1_readToken 27 = .ok (.getfield 28, 3) := by decide +kernel
theorem dX1_readToken_30 : decode cX1_readToken 30 = .ok (.iconst 1, 1) := by decide +kernel
theorem dX1_readToken_31 : decode cX1_readToken 31 = .ok (.iadd, 1) := by decide +kernel
theorem dX1_readToken_32 : decode cX1_readToken 32 = .ok (.putfield 28, 3) := by decide +kernel
theorem dX1_readToken_35 : decode cX1_readToken 35 = .ok (.iinc 1 1, 3) := by decide +kernel
theorem dX1_readToken_38 : decode cX1_readToken 38 = .ok (.goto (-36), 3) := by decide +kernel
theorem dX1_readToken_41 : decode cX1_readToken 41 = .ok (.aload_n 0, 1) := by decide +kernel
theorem dX1_readToken_42 : decode cX1_readToken 42 = .ok (.aload_n 0, 1) := by decide +kernel
theorem dX1_readToken_43 : decode cX1_readToken 43 = .ok (.getfield 28, 3) := by decide +kernel
theorem dX1_readToken_46 : decode cX1_readToken 46 = .ok (.putfield 49, 3) := by decide +kernel
theorem dX1_readToken_49 : decode cX1_readToken 49 = .ok (.aload_n 0, 1) := by decide +kernel
theorem dX1_readToken_50 : decode cX1_readToken 50 = .ok (.aload_n 0, 1) := by decide +kernel
theorem dX1_readToken_51 : decode cX1_readToken 51 = .ok (.getfield 12, 3) := by decide +kernel
theorem dX1_readToken_54 : decode cX1_readToken 54 = .ok (.aload_n 0, 1) := by decide +kernel
theorem dX1_readToken_55 : decode cX1_readToken 55 = .ok (.getfield 28, 3) := by decide +kernel
theorem dX1_readToken_58 : decode cX1_readToken 58 = .ok (.invokevirtual 102, 3) := by decide +kernel
theorem dX1_readToken_61 : decode cX1_readToken 61 = .ok (.invokestatic 105, 3) := by decide +kernel
theorem dX1_readToken_64 : decode cX1_readToken 64 = .ok (.putfield 42, 3) := by decide +kernel
theorem dX1_readToken_67 : decode cX1_readToken 67 = .ok (.aload_n 0, 1) := by decide +kernel
theorem dX1_readToken_68 : decode cX1_readToken 68 = .ok (.getfield 42, 3) := by decide +kernel
theorem dX1_readToken_71 : decode cX1_readToken 71 = .ok (.iconst 1, 1) := by decide +kernel
theorem dX1_readToken_72 : decode cX1_readToken 72 = .ok (.if_icmp .eq 11, 3) := by decide +kernel
theorem dX1_readToken_75 : decode cX1_readToken 75 = .ok (.aload_n 0, 1) := by decide +kernel
theorem dX1_readToken_76 : decode cX1_readToken 76 = .ok (.getfield 42, 3) := by decide +kernel
theorem dX1_readToken_79 : decode cX1_readToken 79 = .ok (.iconst 2, 1) := by decide +kernel
theorem dX1_readToken_80 : decode cX1_readToken 80 = .ok (.if_icmp .ne 9, 3) := by decide +kernel
theorem dX1_readToken_83 : decode cX1_readToken 83 = .ok (.sipush 150, 3) := by decide +kernel
theorem dX1_readToken_86 : decode cX1_readToken 86 = .ok (.goto 4, 3) := by decide +kernel
theorem dX1_readToken_89 : decode cX1_readToken 89 = .ok (.iconst 1, 1) := by decide +kernel
theorem dX1_readToken_90 : decode cX1_readToken 90 = .ok (.istore_n 1, 1) := by decide +kernel
theorem dX1_readToken_91 : decode cX1_readToken 91 = .ok (.iconst 0, 1) := by decide +kernel
theorem dX1_readToken_92 : decode cX1_readToken 92 = .ok (.istore_n 2, 1) := by decide +kernel
theorem dX1_readToken_93 : decode cX1_readToken 93 = .ok (.iload_n 2, 1) := by decide +kernel
theorem dX1_readToken_94 : decode cX1_readToken 94 = .ok (.iload_n 1, 1) := by decide +kernel
theorem dX1_readToken_95 : decode cX1_readToken 95 = .ok (.if_icmp .ge 40, 3) := by decide +kernel
theorem dX1_readToken_98 : decode cX1_readToken 98 = .ok (.aload_n 0, 1) := by decide +kernel
theorem dX1_readToken_99 : decode cX1_readToken 99 = .ok (.getfield 12, 3) := by decide +kernel
theorem dX1_readToken_102 : decode cX1_readToken 102 = .ok (.aload_n 0, 1) := by decide +kernel
theorem dX1_readToken_103 : decode cX1_readToken 103 = .ok (.getfield 28, 3) := by decide +kernel
theorem dX1_readToken_106 : decode cX1_readToken 106 = .ok (.invokevirtual 102, 3) := by decide +kernel
theorem dX1_readToken_109 : decode cX1_readToken 109 = .ok (.invokestatic 105, 3) := by decide +kernel
theorem dX1_readToken_112 : decode cX1_readToken 112 = .ok (.aload_n 0, 1) := by decide +kernel
theorem dX1_readToken_113 : decode cX1_readToken 113 = .ok (.getfield 42, 3) := by decide +kernel
theorem dX1_readToken_116 : decode cX1_readToken 116 = .ok (.if_icmp .ne 19, 3) := by decide +kernel
theorem dX1_readToken_119 : decode cX1_readToken 119 = .ok (.aload_n 0, 1) := by decide +kernel
theorem dX1_readToken_120 : decode cX1_readToken 120 = .ok (.dup, 1) := by decide +kernel
theorem dX1_readToken_121 : decode cX1_readToken 121 = .ok (.getfield 28, 3) := by decide +kernel
theorem dX1_readToken_124 : decode cX1_readToken 124 = .ok (.iconst 1, 1) := by decide +kernel
theorem dX1_readToken_125 : decode cX1_readToken 125 = .ok (.iadd, 1) := by decide +kernel
theorem dX1_readToken_126 : decode cX1_readToken 126 = .ok (.putfield 28, 3) := by decide +kernel
theorem dX1_readToken_129 : decode cX1_readToken 129 = .ok (.iinc 2 1, 3) := by decide +kernel
theorem dX1_readToken_132 : decode cX1_readToken 132 = .ok (.goto (-39), 3) := by decide +kernel
theorem dX1_readToken_135 : decode cX1_readToken 135 = .ok (.aload_n 0, 1) := by decide +kernel
theorem dX1_readToken_136 : decode cX1_readToken 136 = .ok (.getfield 12, 3) := by decide +kernel
theorem dX1_readToken_139 : decode cX1_readToken 139 = .ok (.aload_n 0, 1) := by decide +kernel
theorem dX1_readToken_140 : decode cX1_readToken 140 = .ok (.getfield 49, 3) := by decide +kernel
theorem dX1_readToken_143 : decode cX1_readToken 143 = .ok (.invokevirtual 102, 3) := by decide +kernel
theorem dX1_readToken_146 : decode cX1_readToken 146 = .ok (.istore_n 2, 1) := by decide +kernel
theorem dX1_readToken_147 : decode cX1_readToken 147 = .ok (.aload_n 0, 1) := by decide +kernel
theorem dX1_readToken_148 : decode cX1_readToken 148 = .ok (.getfield 42, 3) := by decide +kernel
theorem dX1_readToken_151 : decode cX1_readToken 151 = .ok (.iconst 2, 1) := by decide +kernel
theorem dX1_readToken_152 : decode cX1_readToken 152 = .ok (.if_icmp .ne 10, 3) := by decide +kernel
theorem dX1_readToken_155 : decode cX1_readToken 155 = .ok (.iload_n 2, 1) := by decide +kernel
theorem dX1_readToken_156 : decode cX1_readToken 156 = .ok (.bipush 48, 2) := by decide +kernel
theorem dX1_readToken_158 : decode cX1_readToken 158 = .ok (.isub, 1) := by decide +kernel
theorem dX1_readToken_159 : decode cX1_readToken 159 = .ok (.goto 4, 3) := by decide +kernel
theorem dX1_readToken_162 : decode cX1_readToken 162 = .ok (.iload_n 2, 1) := by decide +kernel
theorem dX1_readToken_163 : decode cX1_readToken 163 = .ok (.istore_n 3, 1) := by decide +kernel
theorem dX1_readToken_164 : decode cX1_readToken 164 = .ok (.aload_n 0, 1) := by decide +kernel
theorem dX1_readToken_165 : decode cX1_readToken 165 = .ok (.aload_n 0, 1) := by decide +kernel
theorem dX1_readToken_166 : decode cX1_readToken 166 = .ok (.getfield 28, 3) := by decide +kernel
theorem dX1_readToken_169 : decode cX1_readToken 169 = .ok (.aload_n 0, 1) := by decide +kernel
theorem dX1_readToken_170 : decode cX1_readToken 170 = .ok (.getfield 49, 3) := by decide +kernel
theorem dX1_readToken_173 : decode cX1_readToken 173 = .ok (.isub, 1) := by decide +kernel
theorem dX1_readToken_174 : decode cX1_readToken 174 = .ok (.iconst 1, 1) := by decide +kernel
theorem dX1_readToken_175 : decode cX1_readToken 175 = .ok (.if_icmp .ne 7, 3) := by decide +kernel
theorem dX1_readToken_178 : decode cX1_readToken 178 = .ok (.iload_n 3, 1) := by decide +kernel
theorem dX1_readToken_179 : decode cX1_readToken 179 = .ok (.goto 4, 3) := by decide +kernel
theorem dX1_readToken_182 : decode cX1_readToken 182 = .ok (.iconst (-1), 1) := by decide +kernel
theorem dX1_readToken_183 : decode cX1_readToken 183 = .ok (.putfield 52, 3) := by decide +kernel
theorem dX1_readToken_186 : decode cX1_readToken 186 = .ok (.return_, 1) := by decide +kernel
theorem dX1_tokenOf_0 : decode cX1_tokenOf 0 = .ok (.iload_n 0, 1) := by decide +kernel
theorem dX1_tokenOf_1 : decode cX1_tokenOf 1 = .ok (.bipush 97, 2) := by decide +kernel
theorem dX1_tokenOf_3 : decode cX1_tokenOf 3 = .ok (.if_icmp .lt 11, 3) := by decide +kernel
theorem dX1_tokenOf_6 : decode cX1_tokenOf 6 = .ok (.iload_n 0, 1) := by decide +kernel
theorem dX1_tokenOf_7 : decode cX1_tokenOf 7 = .ok (.bipush 122, 2) := by decide +kernel
theorem dX1_tokenOf_9 : decode cX1_tokenOf 9 = .ok (.if_icmp .gt 5, 3) := by decide +kernel
theorem dX1_tokenOf_12 : decode cX1_tokenOf 12 = .ok (.iconst 1, 1) := by decide +kernel
theorem dX1_tokenOf_13 : decode cX1_tokenOf 13 = .ok (.ireturn, 1) := by decide +kernel
theorem dX1_tokenOf_14 : decode cX1_tokenOf 14 = .ok (.iload_n 0, 1) := by decide +kernel
theorem dX1_tokenOf_15 : decode cX1_tokenOf 15 = .ok (.bipush 48, 2) := by decide +kernel
theorem dX1_tokenOf_17 : decode cX1_tokenOf 17 = .ok (.if_icmp .lt 11, 3) := by decide +kernel
theorem dX1_tokenOf_20 : decode cX1_tokenOf 20 = .ok (.iload_n 0, 1) := by decide +kernel
theorem dX1_tokenOf_21 : decode cX1_tokenOf 21 = .ok (.bipush 57, 2) := by decide +kernel
theorem dX1_tokenOf_23 : decode cX1_tokenOf 23 = .ok (.if_icmp .gt 5, 3) := by decide +kernel
theorem dX1_tokenOf_26 : decode cX1_tokenOf 26 = .ok (.iconst 2, 1) := by decide +kernel
theorem dX1_tokenOf_27 : decode cX1_tokenOf 27 = .ok (.ireturn, 1) := by decide +kernel
theorem dX1_tokenOf_28 : decode cX1_tokenOf 28 = .ok (.iload_n 0, 1) := by decide +kernel
theorem dX1_tokenOf_29 : decode cX1_tokenOf 29 = .ok (.bipush 59, 2) := by decide +kernel
theorem dX1_tokenOf_31 : decode cX1_tokenOf 31 = .ok (.if_icmp .ne 5, 3) := by decide +kernel
theorem dX1_tokenOf_34 : decode cX1_tokenOf 34 = .ok (.iconst 3, 1) := by decide +kernel
theorem dX1_tokenOf_35 : decode cX1_tokenOf 35 = .ok (.ireturn, 1) := by decide +kernel
theorem dX1_tokenOf_36 : decode cX1_tokenOf 36 = .ok (.iload_n 0, 1) := by decide +kernel
theorem dX1_tokenOf_37 : decode cX1_tokenOf 37 = .ok (.ifCond .ge 7, 3) := by decide +kernel
theorem dX1_tokenOf_40 : decode cX1_tokenOf 40 = .ok (.iconst 0, 1) := by decide +kernel
theorem dX1_tokenOf_41 : decode cX1_tokenOf 41 = .ok (.goto 4, 3) := by decide +kernel
theorem dX1_tokenOf_44 : decode cX1_tokenOf 44 = .ok (.iconst 4, 1) := by decide +kernel
theorem dX1_tokenOf_45 : decode cX1_tokenOf 45 = .ok (.ireturn, 1) := by decide +kernel
theorem dX2_init_0 : decode cX2_init 0 = .ok (.aload_n 0, 1) := by decide +kernel
theorem dX2_init_1 : decode cX2_init 1 = .ok (.invokespecial 3, 3) := by decide +kernel
theorem dX2_init_4 : decode cX2_init 4 = .ok (.return_, 1) := by decide +kernel
theorem dX2_dropAll_0 : decode cX2_dropAll 0 = .ok (.aload_n 0, 1) := by decide +kernel
theorem dX2_dropAll_1 : decode cX2_dropAll 1 = .ok (.iconst 0, 1) := by decide +kernel
theorem dX2_dropAll_2 : decode cX2_dropAll 2 = .ok (.putfield 9, 3) := by decide +kernel
theorem dX2_dropAll_5 : decode cX2_dropAll 5 = .ok (.aload_n 0, 1) := by decide +kernel
theorem dX2_dropAll_6 : decode cX2_dropAll 6 = .ok (.iconst 0, 1) := by decide +kernel
theorem dX2_dropAll_7 : decode cX2_dropAll 7 = .ok (.putfield 15, 3) := by decide +kernel
theorem dX2_dropAll_10 : decode cX2_dropAll 10 = .ok (.aload_n 0, 1) := by decide +kernel
theorem dX2_dropAll_11 : decode cX2_dropAll 11 = .ok (.iconst 0, 1) := by decide +kernel
theorem dX2_dropAll_12 : decode cX2_dropAll 12 = .ok (.putfield 18, 3) := by decide +kernel
theorem dX2_dropAll_15 : decode cX2_dropAll 15 = .ok (.aload_n 0, 1) := by decide +kernel
theorem dX2_dropAll_16 : decode cX2_dropAll 16 = .ok (.iconst 0, 1) := by decide +kernel
theorem dX2_dropAll_17 : decode cX2_dropAll 17 = .ok (.putfield 21, 3) := by decide +kernel
theorem dX2_dropAll_20 : decode cX2_dropAll 20 = .ok (.aload_n 0, 1) := by decide +kernel
theorem dX2_dropAll_21 : decode cX2_dropAll 21 = .ok (.iconst 0, 1) := by decide +kernel
theorem dX2_dropAll_22 : decode cX2_dropAll 22 = .ok (.putfield 24, 3) := by decide +kernel
theorem dX2_dropAll_25 : decode cX2_dropAll 25 = .ok (.return_, 1) := by decide +kernel
theorem dX2_add_0 : decode cX2_add 0 = .ok (.aload_n 0, 1) := by decide +kernel
theorem dX2_add_1 : decode cX2_add 1 = .ok (.getfield 9, 3) := by decide +kernel
theorem dX2_add_4 : decode cX2_add 4 = .ok (.bipush 6, 2) := by decide +kernel
theorem dX2_add_6 : decode cX2_add 6 = .ok (.if_icmp .lt 5, 3) := by decide +kernel
theorem dX2_add_9 : decode cX2_add 9 = .ok (.iconst 0, 1) := by decide +kernel
theorem dX2_add_10 : decode cX2_add 10 = .ok (.ireturn, 1) := by decide +kernel
theorem dX2_add_11 : decode cX2_add 11 = .ok (.aload_n 0, 1) := by decide +kernel
theorem dX2_add_12 : decode cX2_add 12 = .ok (.dup, 1) := by decide +kernel
theorem dX2_add_13 : decode cX2_add 13 = .ok (.getfield 15, 3) := by decide +kernel
theorem dX2_add_16 : decode cX2_add 16 = .ok (.iload_n 2, 1) := by decide +kernel
theorem dX2_add_17 : decode cX2_add 17 = .ok (.ifCond .ne 12, 3) := by decide +kernel
theorem dX2_add_20 : decode cX2_add 20 = .ok (.iload_n 3, 1) := by decide +kernel
theorem dX2_add_21 : decode cX2_add 21 = .ok (.iconst 1, 1) := by decide +kernel
theorem dX2_add_22 : decode cX2_add 22 = .ok (.if_icmp .ne 7, 3) := by decide +kernel
theorem dX2_add_25 : decode cX2_add 25 = .ok (.iload_n 1, 1) := by decide +kernel
theorem dX2_add_26 : decode cX2_add 26 = .ok (.goto 4, 3) := by decide +kernel
theorem dX2_add_29 : decode cX2_add 29 = .ok (.iconst 0, 1) := by decide +kernel
theorem dX2_add_30 : decode cX2_add 30 = .ok (.ior, 1) := by decide +kernel
theorem dX2_add_31 : decode cX2_add 31 = .ok (.putfield 15, 3) := by decide +kernel
theorem dX2_add_34 : decode cX2_add 34 = .ok (.aload_n 0, 1) := by decide +kernel
theorem dX2_add_35 : decode cX2_add 35 = .ok (.dup, 1) := by decide +kernel
theorem dX2_add_36 : decode cX2_add 36 = .ok (.getfield 18, 3) := by decide +kernel
theorem dX2_add_39 : decode cX2_add 39 = .ok (.iload_n 2, 1) := by decide +kernel
theorem dX2_add_40 : decode cX2_add 40 = .ok (.iconst 1, 1) := by decide +kernel
theorem dX2_add_41 : decode cX2_add 41 = .ok (.if_icmp .ne 12, 3) := by decide +kernel
theorem dX2_add_44 : decode cX2_add 44 = .ok (.iload_n 3, 1) := by decide +kernel
theorem dX2_add_45 : decode cX2_add 45 = .ok (.iconst 1, 1) := by decide +kernel
theorem dX2_add_46 : decode cX2_add 46 = .ok (.if_icmp .ne 7, 3) := by decide +kernel
theorem dX2_add_49 : decode cX2_add 49 = .ok (.iload_n 1, 1) := by decide +kernel
theorem dX2_add_50 : decode cX2_add 50 = .ok (.goto 4, 3) := by decide +kernel
theorem dX2_add_53 : decode cX2_add 53 = .ok (.iconst 0, 1) := by decide +kernel
theorem dX2_add_54 : decode cX2_add 54 = .ok (.ior, 1) := by decide +kernel
theorem dX2_add_55 : decode cX2_add 55 = .ok (.putfield 18, 3) := by decide +kernel
theorem dX2_add_58 : decode cX2_add 58 = .ok (.aload_n 0, 1) := by decide +kernel
theorem dX2_add_59 : decode cX2_add 59 = .ok (.dup, 1) := by decide +kernel
theorem dX2_add_60 : decode cX2_add 60 = .ok (.getfield 21, 3) := by decide +kernel
theorem dX2_add_63 : decode cX2_add 63 = .ok (.iload_n 2, 1) := by decide +kernel
theorem dX2_add_64 : decode cX2_add 64 = .ok (.ifCond .ne 11, 3) := by decide +kernel
theorem dX2_add_67 : decode cX2_add 67 = .ok (.iload_n 3, 1) := by decide +kernel
theorem dX2_add_68 : decode cX2_add 68 = .ok (.ifCond .ne 7, 3) := by decide +kernel
theorem dX2_add_71 : decode cX2_add 71 = .ok (.iload_n 1, 1) := by decide +kernel
theorem dX2_add_72 : decode cX2_add 72 = .ok (.goto 4, 3) := by decide +kernel
theorem dX2_add_75 : decode cX2_add 75 = .ok (.iconst 0, 1) := by decide +kernel
theorem dX2_add_76 : decode cX2_add 76 = .ok (.ior, 1) := by decide +kernel
theorem dX2_add_77 : decode cX2_add 77 = .ok (.putfield 21, 3) := by decide +kernel
theorem dX2_add_80 : decode cX2_add 80 = .ok (.aload_n 0, 1) := by decide +kernel
theorem dX2_add_81 : decode cX2_add 81 = .ok (.dup, 1) := by decide +kernel
theorem dX2_add_82 : decode cX2_add 82 = .ok (.getfield 24, 3) := by decide +kernel
theorem dX2_add_85 : decode cX2_add 85 = .ok (.iload_n 2, 1) := by decide +kernel
theorem dX2_add_86 : decode cX2_add 86 = .ok (.iconst 1, 1) := by decide +kernel
theorem dX2_add_87 : decode cX2_add 87 = .ok (.if_icmp .ne 11, 3) := by decide +kernel
theorem dX2_add_90 : decode cX2_add 90 = .ok (.iload_n 3, 1) := by decide +kernel
theorem dX2_add_91 : decode cX2_add 91 = .ok (.ifCond .ne 7, 3) := by decide +kernel
theorem dX2_add_94 : decode cX2_add 94 = .ok (.iload_n 1, 1) := by decide +kernel
theorem dX2_add_95 : decode cX2_add 95 = .ok (.goto 4, 3) := by decide +kernel
theorem dX2_add_98 : decode cX2_add 98 = .ok (.iconst 0, 1) := by decide +kernel
theorem dX2_add_99 : decode cX2_add 99 = .ok (.ior, 1) := by decide +kernel
theorem dX2_add_100 : decode cX2_add 100 = .ok (.putfield 24, 3) := by decide +kernel
theorem dX2_add_103 : decode cX2_add 103 = .ok (.aload_n 0, 1) := by decide +kernel
theorem dX2_add_104 : decode cX2_add 104 = .ok (.dup, 1) := by decide +kernel
theorem dX2_add_105 : decode cX2_add 105 = .ok (.getfield 9, 3) := by decide +kernel
theorem dX2_add_108 : decode cX2_add 108 = .ok (.iconst 1, 1) := by decide +kernel
theorem dX2_add_109 : decode cX2_add 109 = .ok (.iadd, 1) := by decide +kernel
theorem dX2_add_110 : decode cX2_add 110 = .ok (.putfield 9, 3) := by decide +kernel
theorem dX2_add_113 : decode cX2_add 113 = .ok (.iconst 1, 1) := by decide +kernel
theorem dX2_add_114 : decode cX2_add 114 = .ok (.ireturn, 1) := by decide +kernel
theorem dX2_agrees_0 : decode cX2_agrees 0 = .ok (.aload_n 0, 1) := by decide +kernel
theorem dX2_agrees_1 : decode cX2_agrees 1 = .ok (.getfield 15, 3) := by decide +kernel
theorem dX2_agrees_4 : decode cX2_agrees 4 = .ok (.iload_n 1, 1) := by decide +kernel
theorem dX2_agrees_5 : decode cX2_agrees 5 = .ok (.iconst (-1), 1) := by decide +kernel
theorem dX2_agrees_6 : decode cX2_agrees 6 = .ok (.ixor, 1) := by decide +kernel
theorem dX2_agrees_7 : decode cX2_agrees 7 = .ok (.iand, 1) := by decide +kernel
theorem dX2_agrees_8 : decode cX2_agrees 8 = .ok (.ifCond .ne 36, 3) := by decide +kernel
theorem dX2_agrees_11 : decode cX2_agrees 11 = .ok (.aload_n 0, 1) := by decide +kernel
theorem dX2_agrees_12 : decode cX2_agrees 12 = .ok (.getfield 21, 3) := by decide +kernel
theorem dX2_agrees_15 : decode cX2_agrees 15 = .ok (.iload_n 1, 1) := by decide +kernel
theorem dX2_agrees_16 : decode cX2_agrees 16 = .ok (.iand, 1) := by decide +kernel
theorem dX2_agrees_17 : decode cX2_agrees 17 = .ok (.ifCond .ne 27, 3) := by decide +kernel
theorem dX2_agrees_20 : decode cX2_agrees 20 = .ok (.aload_n 0, 1) := by decide +kernel
theorem dX2_agrees_21 : decode cX2_agrees 21 = .ok (.getfield 18, 3) := by decide +kernel
theorem dX2_agrees_24 : decode cX2_agrees 24 = .ok (.iload_n 2, 1) := by decide +kernel
theorem dX2_agrees_25 : decode cX2_agrees 25 = .ok (.iconst (-1), 1) := by decide +kernel
theorem dX2_agrees_26 : decode cX2_agrees 26 = .ok (.ixor, 1) := by decide +kernel
theorem dX2_agrees_27 : decode cX2_agrees 27 = .ok (.iand, 1) := by decide +kernel
theorem dX2_agrees_28 : decode cX2_agrees 28 = .ok (.ifCond .ne 16, 3) := by decide +kernel
theorem dX2_agrees_31 : decode cX2_agrees 31 = .ok (.aload_n 0, 1) := by decide +kernel
theorem dX2_agrees_32 : decode cX2_agrees 32 = .ok (.getfield 24, 3) := by decide +kernel
theorem dX2_agrees_35 : decode cX2_agrees 35 = .ok (.iload_n 2, 1) := by decide +kernel
theorem dX2_agrees_36 : decode cX2_agrees 36 = .ok (.iand, 1) := by decide +kernel
theorem dX2_agrees_37 : decode cX2_agrees 37 = .ok (.ifCond .ne 7, 3) := by decide +kernel
theorem dX2_agrees_40 : decode cX2_agrees 40 = .ok (.iconst 1, 1) := by decide +kernel
theorem dX2_agrees_41 : decode cX2_agrees 41 = .ok (.goto 4, 3) := by decide +kernel
theorem dX2_agrees_44 : decode cX2_agrees 44 = .ok (.iconst 0, 1) := by decide +kernel
theorem dX2_agrees_45 : decode cX2_agrees 45 = .ok (.ireturn, 1) := by decide +kernel
theorem dX3_init_0 : decode cX3_init 0 = .ok (.aload_n 0, 1) := by decide +kernel
theorem dX3_init_1 : decode cX3_init 1 = .ok (.invokespecial 3, 3) := by decide +kernel
theorem dX3_init_4 : decode cX3_init 4 = .ok (.aload_n 0, 1) := by decide +kernel
theorem dX3_init_5 : decode cX3_init 5 = .ok (.new 9, 3) := by decide +kernel
theorem dX3_init_8 : decode cX3_init 8 = .ok (.dup, 1) := by decide +kernel
theorem dX3_init_9 : decode cX3_init 9 = .ok (.invokespecial 11, 3) := by decide +kernel
theorem dX3_init_12 : decode cX3_init 12 = .ok (.putfield 12, 3) := by decide +kernel
theorem dX3_init_15 : decode cX3_init 15 = .ok (.aload_n 0, 1) := by decide +kernel
theorem dX3_init_16 : decode cX3_init 16 = .ok (.bipush 10, 2) := by decide +kernel
theorem dX3_init_18 : decode cX3_init 18 = .ok (.anewarray 9, 3) := by decide +kernel
theorem dX3_init_21 : decode cX3_init 21 = .ok (.putfield 18, 3) := by decide +kernel
theorem dX3_init_24 : decode cX3_init 24 = .ok (.iconst 0, 1) := by decide +kernel
theorem dX3_init_25 : decode cX3_init 25 = .ok (.istore_n 1, 1) := by decide +kernel
theorem dX3_init_26 : decode cX3_init 26 = .ok (.iload_n 1, 1) := by decide +kernel
theorem dX3_init_27 : decode cX3_init 27 = .ok (.aload_n 0, 1) := by decide +kernel
theorem dX3_init_28 : decode cX3_init 28 = .ok (.getfield 18, 3) := by decide +kernel
theorem dX3_init_31 : decode cX3_init 31 = .ok (.arraylength, 1) := by decide +kernel
theorem dX3_init_32 : decode cX3_init 32 = .ok (.if_icmp .ge 22, 3) := by decide +kernel
theorem dX3_init_35 : decode cX3_init 35 = .ok (.aload_n 0, 1) := by decide +kernel
theorem dX3_init_36 : decode cX3_init 36 = .ok (.getfield 18, 3) := by decide +kernel
theorem dX3_init_39 : decode cX3_init 39 = .ok (.iload_n 1, 1) := by decide +kernel
theorem dX3_init_40 : decode cX3_init 40 = .ok (.new 9, 3) := by decide +kernel
theorem dX3_init_43 : decode cX3_init 43 = .ok (.dup, 1) := by decide +kernel
theorem dX3_init_44 : decode cX3_init 44 = .ok (.invokespecial 11, 3) := by decide +kernel
theorem dX3_init_47 : decode cX3_init 47 = .ok (.aastore, 1) := by decide +kernel
theorem dX3_init_48 : decode cX3_init 48 = .ok (.iinc 1 1, 3) := by decide +kernel
theorem dX3_init_51 : decode cX3_init 51 = .ok (.goto (-25), 3) := by decide +kernel
theorem dX3_init_54 : decode cX3_init 54 = .ok (.return_, 1) := by decide +kernel
theorem dX3_remember_0 : decode cX3_remember 0 = .ok (.aload_n 0, 1) := by decide +kernel
theorem dX3_remember_1 : decode cX3_remember 1 = .ok (.getfield 22, 3) := by decide +kernel
theorem dX3_remember_4 : decode cX3_remember 4 = .ok (.aload_n 0, 1) := by decide +kernel
theorem dX3_remember_5 : decode cX3_remember 5 = .ok (.getfield 18, 3) := by decide +kernel
theorem dX3_remember_8 : decode cX3_remember 8 = .ok (.arraylength, 1) := by decide +kernel
theorem dX3_remember_9 : decode cX3_remember 9 = .ok (.if_icmp .lt 7, 3) := by decide +kernel
theorem dX3_remember_12 : decode cX3_remember 12 = .ok (.aload_n 0, 1) := by decide +kernel
theorem dX3_remember_13 : decode cX3_remember 13 = .ok (.invokevirtual 26, 3) := by decide +kernel
theorem dX3_remember_16 : decode cX3_remember 16 = .ok (.aload_n 0, 1) := by decide +kernel
theorem dX3_remember_17 : decode cX3_remember 17 = .ok (.getfield 12, 3) := by decide +kernel
theorem dX3_remember_20 : decode cX3_remember 20 = .ok (.aload_n 0, 1) := by decide +kernel
theorem dX3_remember_21 : decode cX3_remember 21 = .ok (.aload_n 0, 1) := by decide +kernel
theorem dX3_remember_22 : decode cX3_remember 22 = .ok (.getfield 22, 3) := by decide +kernel
theorem dX3_remember_25 : decode cX3_remember 25 = .ok (.invokevirtual 29, 3) := by decide +kernel
theorem dX3_remember_28 : decode cX3_remember 28 = .ok (.invokestatic 33, 3) := by decide +kernel
theorem dX3_remember_31 : decode cX3_remember 31 = .ok (.aload_n 0, 1) := by decide +kernel
theorem dX3_remember_32 : decode cX3_remember 32 = .ok (.dup, 1) := by decide +kernel
theorem dX3_remember_33 : decode cX3_remember 33 = .ok (.getfield 22, 3) := by decide +kernel
theorem dX3_remember_36 : decode cX3_remember 36 = .ok (.iconst 1, 1) := by decide +kernel
theorem dX3_remember_37 : decode cX3_remember 37 = .ok (.iadd, 1) := by decide +kernel
theorem dX3_remember_38 : decode cX3_remember 38 = .ok (.putfield 22, 3) := by decide +kernel
theorem dX3_remember_41 : decode cX3_remember 41 = .ok (.return_, 1) := by decide +kernel
theorem dX3_dropOldest_0 : decode cX3_dropOldest 0 = .ok (.iconst 1, 1) := by decide +kernel
theorem dX3_dropOldest_1 : decode cX3_dropOldest 1 = .ok (.istore_n 1, 1) := by decide +kernel
theorem dX3_dropOldest_2 : decode cX3_dropOldest 2 = .ok (.iload_n 1, 1) := by decide +kernel
theorem dX3_dropOldest_3 : decode cX3_dropOldest 3 = .ok (.aload_n 0, 1) := by decide +kernel
theorem dX3_dropOldest_4 : decode cX3_dropOldest 4 = .ok (.getfield 18, 3) := by decide +kernel
theorem dX3_dropOldest_7 : decode cX3_dropOldest 7 = .ok (.arraylength, 1) := by decide +kernel
theorem dX3_dropOldest_8 : decode cX3_dropOldest 8 = .ok (.if_icmp .ge 24, 3) := by decide +kernel
theorem dX3_dropOldest_11 : decode cX3_dropOldest 11 = .ok (.aload_n 0, 1) := by decide +kernel
theorem dX3_dropOldest_12 : decode cX3_dropOldest 12 = .ok (.iload_n 1, 1) := by decide +kernel
theorem dX3_dropOldest_13 : decode cX3_dropOldest 13 = .ok (.invokevirtual 29, 3) := by decide +kernel
theorem dX3_dropOldest_16 : decode cX3_dropOldest 16 = .ok (.aload_n 0, 1) := by decide +kernel
theorem dX3_dropOldest_17 : decode cX3_dropOldest 17 = .ok (.iload_n 1, 1) := by decide +kernel
theorem dX3_dropOldest_18 : decode cX3_dropOldest 18 = .ok (.iconst 1, 1) := by decide +kernel
theorem dX3_dropOldest_19 : decode cX3_dropOldest 19 = .ok (.isub, 1) := by decide +kernel
theorem dX3_dropOldest_20 : decode cX3_dropOldest 20 = .ok (.invokevirtual 29, 3) := by decide +kernel
theorem dX3_dropOldest_23 : decode cX3_dropOldest 23 = .ok (.invokestatic 33, 3) := by decide +kernel
theorem dX3_dropOldest_26 : decode cX3_dropOldest 26 = .ok (.iinc 1 1, 3) := by decide +kernel
theorem dX3_dropOldest_29 : decode cX3_dropOldest 29 = .ok (.goto (-27), 3) := by decide +kernel
theorem dX3_dropOldest_32 : decode cX3_dropOldest 32 = .ok (.aload_n 0, 1) := by decide +kernel
theorem dX3_dropOldest_33 : decode cX3_dropOldest 33 = .ok (.aload_n 0, 1) := by decide +kernel
theorem dX3_dropOldest_34 : decode cX3_dropOldest 34 = .ok (.getfield 18, 3) := by decide +kernel
theorem dX3_dropOldest_37 : decode cX3_dropOldest 37 = .ok (.arraylength, 1) := by decide +kernel
theorem dX3_dropOldest_38 : decode cX3_dropOldest 38 = .ok (.iconst 1, 1) := by decide +kernel
theorem dX3_dropOldest_39 : decode cX3_dropOldest 39 = .ok (.isub, 1) := by decide +kernel
theorem dX3_dropOldest_40 : decode cX3_dropOldest 40 = .ok (.putfield 22, 3) := by decide +kernel
theorem dX3_dropOldest_43 : decode cX3_dropOldest 43 = .ok (.return_, 1) := by decide +kernel
theorem dX3_goBack_0 : decode cX3_goBack 0 = .ok (.aload_n 0, 1) := by decide +kernel
theorem dX3_goBack_1 : decode cX3_goBack 1 = .ok (.getfield 22, 3) := by decide +kernel
theorem dX3_goBack_4 : decode cX3_goBack 4 = .ok (.ifCond .gt 5, 3) := by decide +kernel
theorem dX3_goBack_7 : decode cX3_goBack 7 = .ok (.iconst 0, 1) := by decide +kernel
theorem dX3_goBack_8 : decode cX3_goBack 8 = .ok (.ireturn, 1) := by decide +kernel
theorem dX3_goBack_9 : decode cX3_goBack 9 = .ok (.aload_n 0, 1) := by decide +kernel
theorem dX3_goBack_10 : decode cX3_goBack 10 = .ok (.dup, 1) := by decide +kernel
theorem dX3_goBack_11 : decode cX3_goBack 11 = .ok (.getfield 22, 3) := by decide +kernel
theorem dX3_goBack_14 : decode cX3_goBack 14 = .ok (.iconst 1, 1) := by decide +kernel
theorem dX3_goBack_15 : decode cX3_goBack 15 = .ok (.isub, 1) := by decide +kernel
theorem dX3_goBack_16 : decode cX3_goBack 16 = .ok (.putfield 22, 3) := by decide +kernel
theorem dX3_goBack_19 : decode cX3_goBack 19 = .ok (.aload_n 0, 1) := by decide +kernel
theorem dX3_goBack_20 : decode cX3_goBack 20 = .ok (.aload_n 0, 1) := by decide +kernel
theorem dX3_goBack_21 : decode cX3_goBack 21 = .ok (.getfield 22, 3) := by decide +kernel
theorem dX3_goBack_24 : decode cX3_goBack 24 = .ok (.invokevirtual 29, 3) := by decide +kernel
theorem dX3_goBack_27 : decode cX3_goBack 27 = .ok (.aload_n 0, 1) := by decide +kernel
theorem dX3_goBack_28 : decode cX3_goBack 28 = .ok (.getfield 12, 3) := by decide +kernel
theorem dX3_goBack_31 : decode cX3_goBack 31 = .ok (.invokestatic 33, 3) := by decide +kernel
theorem dX3_goBack_34 : decode cX3_goBack 34 = .ok (.iconst 1, 1) := by decide +kernel
theorem dX3_goBack_35 : decode cX3_goBack 35 = .ok (.ireturn, 1) := by decide +kernel
theorem dX3_becomes_0 : decode cX3_becomes 0 = .ok (.aload_n 0, 1) := by decide +kernel
theorem dX3_becomes_1 : decode cX3_becomes 1 = .ok (.getfield 12, 3) := by decide +kernel
theorem dX3_becomes_4 : decode cX3_becomes 4 = .ok (.aload_n 1, 1) := by decide +kernel
theorem dX3_becomes_5 : decode cX3_becomes 5 = .ok (.getfield 12, 3) := by decide +kernel
theorem dX3_becomes_8 : decode cX3_becomes 8 = .ok (.invokevirtual 37, 3) := by decide +kernel
theorem dX3_becomes_11 : decode cX3_becomes 11 = .ok (.iconst 0, 1) := by decide +kernel
theorem dX3_becomes_12 : decode cX3_becomes 12 = .ok (.istore_n 2, 1) := by decide +kernel
theorem dX3_becomes_13 : decode cX3_becomes 13 = .ok (.iload_n 2, 1) := by decide +kernel
theorem dX3_becomes_14 : decode cX3_becomes 14 = .ok (.aload_n 0, 1) := by decide +kernel
theorem dX3_becomes_15 : decode cX3_becomes 15 = .ok (.getfield 18, 3) := by decide +kernel
theorem dX3_becomes_18 : decode cX3_becomes 18 = .ok (.arraylength, 1) := by decide +kernel
theorem dX3_becomes_19 : decode cX3_becomes 19 = .ok (.if_icmp .ge 22, 3) := by decide +kernel
theorem dX3_becomes_22 : decode cX3_becomes 22 = .ok (.aload_n 1, 1) := by decide +kernel
theorem dX3_becomes_23 : decode cX3_becomes 23 = .ok (.iload_n 2, 1) := by decide +kernel
theorem dX3_becomes_24 : decode cX3_becomes 24 = .ok (.invokevirtual 29, 3) := by decide +kernel
theorem dX3_becomes_27 : decode cX3_becomes 27 = .ok (.aload_n 0, 1) := by decide +kernel
theorem dX3_becomes_28 : decode cX3_becomes 28 = .ok (.iload_n 2, 1) := by decide +kernel
theorem dX3_becomes_29 : decode cX3_becomes 29 = .ok (.invokevirtual 29, 3) := by decide +kernel
theorem dX3_becomes_32 : decode cX3_becomes 32 = .ok (.invokestatic 33, 3) := by decide +kernel
theorem dX3_becomes_35 : decode cX3_becomes 35 = .ok (.iinc 2 1, 3) := by decide +kernel
theorem dX3_becomes_38 : decode cX3_becomes 38 = .ok (.goto (-25), 3) := by decide +kernel
theorem dX3_becomes_41 : decode cX3_becomes 41 = .ok (.aload_n 0, 1) := by decide +kernel
theorem dX3_becomes_42 : decode cX3_becomes 42 = .ok (.aload_n 1, 1) := by decide +kernel
theorem dX3_becomes_43 : decode cX3_becomes 43 = .ok (.getfield 22, 3) := by decide +kernel
theorem dX3_becomes_46 : decode cX3_becomes 46 = .ok (.putfield 22, 3) := by decide +kernel
theorem dX3_becomes_49 : decode cX3_becomes 49 = .ok (.return_, 1) := by decide +kernel
theorem dX3_beforeAt_0 : decode cX3_beforeAt 0 = .ok (.iload_n 1, 1) := by decide +kernel
theorem dX3_beforeAt_1 : decode cX3_beforeAt 1 = .ok (.ifCond .lt 21, 3) := by decide +kernel
theorem dX3_beforeAt_4 : decode cX3_beforeAt 4 = .ok (.iload_n 1, 1) := by decide +kernel
theorem dX3_beforeAt_5 : decode cX3_beforeAt 5 = .ok (.aload_n 0, 1) := by decide +kernel
theorem dX3_beforeAt_6 : decode cX3_beforeAt 6 = .ok (.getfield 18, 3) := by decide +kernel
theorem dX3_beforeAt_9 : decode cX3_beforeAt 9 = .ok (.arraylength, 1) := by decide +kernel
theorem dX3_beforeAt_10 : decode cX3_beforeAt 10 = .ok (.if_icmp .ge 12, 3) := by decide +kernel
theorem dX3_beforeAt_13 : decode cX3_beforeAt 13 = .ok (.aload_n 0, 1) := by decide +kernel
theorem dX3_beforeAt_14 : decode cX3_beforeAt 14 = .ok (.getfield 18, 3) := by decide +kernel
theorem dX3_beforeAt_17 : decode cX3_beforeAt 17 = .ok (.iload_n 1, 1) := by decide +kernel
theorem dX3_beforeAt_18 : decode cX3_beforeAt 18 = .ok (.aaload, 1) := by decide +kernel
theorem dX3_beforeAt_19 : decode cX3_beforeAt 19 = .ok (.goto 4, 3) := by decide +kernel
theorem dX3_beforeAt_22 : decode cX3_beforeAt 22 = .ok (.aconst_null, 1) := by decide +kernel
theorem dX3_beforeAt_23 : decode cX3_beforeAt 23 = .ok (.areturn, 1) := by decide +kernel
theorem dX3_copy_0 : decode cX3_copy 0 = .ok (.aload_n 0, 1) := by decide +kernel
theorem dX3_copy_1 : decode cX3_copy 1 = .ok (.ifnull 12, 3) := by decide +kernel
theorem dX3_copy_4 : decode cX3_copy 4 = .ok (.aload_n 1, 1) := by decide +kernel
theorem dX3_copy_5 : decode cX3_copy 5 = .ok (.ifnull 8, 3) := by decide +kernel
theorem dX3_copy_8 : decode cX3_copy 8 = .ok (.aload_n 1, 1) := by decide +kernel
theorem dX3_copy_9 : decode cX3_copy 9 = .ok (.aload_n 0, 1) := by decide +kernel
theorem dX3_copy_10 : decode cX3_copy 10 = .ok (.invokevirtual 37, 3) := by decide +kernel
theorem dX3_copy_13 : decode cX3_copy 13 = .ok (.return_, 1) := by decide +kernel
theorem dX4_init_0 : decode cX4_init 0 = .ok (.aload_n 0, 1) := by decide +kernel
theorem dX4_init_1 : decode cX4_init 1 = .ok (.invokespecial 3, 3) := by decide +kernel
theorem dX4_init_4 : decode cX4_init 4 = .ok (.aload_n 0, 1) := by decide +kernel
theorem dX4_init_5 : decode cX4_init 5 = .ok (.iconst 3, 1) := by decide +kernel
theorem dX4_init_6 : decode cX4_init 6 = .ok (.putfield 9, 3) := by decide +kernel
theorem dX4_init_9 : decode cX4_init 9 = .ok (.aload_n 0, 1) := by decide +kernel
theorem dX4_init_10 : decode cX4_init 10 = .ok (.iconst 3, 1) := by decide +kernel
theorem dX4_init_11 : decode cX4_init 11 = .ok (.putfield 15, 3) := by decide +kernel
theorem dX4_init_14 : decode cX4_init 14 = .ok (.aload_n 0, 1) := by decide +kernel
theorem dX4_init_15 : decode cX4_init 15 = .ok (.iconst 5, 1) := by decide +kernel
theorem dX4_init_16 : decode cX4_init 16 = .ok (.newarray .int, 2) := by decide +kernel
theorem dX4_init_18 : decode cX4_init 18 = .ok (.putfield 18, 3) := by decide +kernel
theorem dX4_init_21 : decode cX4_init 21 = .ok (.return_, 1) := by decide +kernel
theorem dX4_startAnew_0 : decode cX4_startAnew 0 = .ok (.aload_n 0, 1) := by decide +kernel
theorem dX4_startAnew_1 : decode cX4_startAnew 1 = .ok (.iconst 3, 1) := by decide +kernel
theorem dX4_startAnew_2 : decode cX4_startAnew 2 = .ok (.putfield 9, 3) := by decide +kernel
theorem dX4_startAnew_5 : decode cX4_startAnew 5 = .ok (.aload_n 0, 1) := by decide +kernel
theorem dX4_startAnew_6 : decode cX4_startAnew 6 = .ok (.iconst 3, 1) := by decide +kernel
theorem dX4_startAnew_7 : decode cX4_startAnew 7 = .ok (.putfield 15, 3) := by decide +kernel
theorem dX4_startAnew_10 : decode cX4_startAnew 10 = .ok (.aload_n 0, 1) := by decide +kernel
theorem dX4_startAnew_11 : decode cX4_startAnew 11 = .ok (.iconst 0, 1) := by decide +kernel
theorem dX4_startAnew_12 : decode cX4_startAnew 12 = .ok (.putfield 22, 3) := by decide +kernel
theorem dX4_startAnew_15 : decode cX4_startAnew 15 = .ok (.aload_n 0, 1) := by decide +kernel
theorem dX4_startAnew_16 : decode cX4_startAnew 16 = .ok (.iconst 0, 1) := by decide +kernel
theorem dX4_startAnew_17 : decode cX4_startAnew 17 = .ok (.putfield 25, 3) := by decide +kernel
theorem dX4_startAnew_20 : decode cX4_startAnew 20 = .ok (.aload_n 0, 1) := by decide +kernel
theorem dX4_startAnew_21 : decode cX4_startAnew 21 = .ok (.iconst 0, 1) := by decide +kernel
theorem dX4_startAnew_22 : decode cX4_startAnew 22 = .ok (.putfield 28, 3) := by decide +kernel
theorem dX4_startAnew_25 : decode cX4_startAnew 25 = .ok (.aload_n 0, 1) := by decide +kernel
theorem dX4_startAnew_26 : decode cX4_startAnew 26 = .ok (.iconst 0, 1) := by decide +kernel
theorem dX4_startAnew_27 : decode cX4_startAnew 27 = .ok (.invokevirtual 31, 3) := by decide +kernel
theorem dX4_startAnew_30 : decode cX4_startAnew 30 = .ok (.return_, 1) := by decide +kernel
theorem dX4_becomes_0 : decode cX4_becomes 0 = .ok (.aload_n 0, 1) := by decide +kernel
theorem dX4_becomes_1 : decode cX4_becomes 1 = .ok (.aload_n 1, 1) := by decide +kernel
theorem dX4_becomes_2 : decode cX4_becomes 2 = .ok (.getfield 9, 3) := by decide +kernel
theorem dX4_becomes_5 : decode cX4_becomes 5 = .ok (.putfield 9, 3) := by decide +kernel
theorem dX4_becomes_8 : decode cX4_becomes 8 = .ok (.aload_n 0, 1) := by decide +kernel
theorem dX4_becomes_9 : decode cX4_becomes 9 = .ok (.aload_n 1, 1) := by decide +kernel
theorem dX4_becomes_10 : decode cX4_becomes 10 = .ok (.getfield 15, 3) := by decide +kernel
theorem dX4_becomes_13 : decode cX4_becomes 13 = .ok (.putfield 15, 3) := by decide +kernel
theorem dX4_becomes_16 : decode cX4_becomes 16 = .ok (.aload_n 0, 1) := by decide +kernel
theorem dX4_becomes_17 : decode cX4_becomes 17 = .ok (.aload_n 1, 1) := by decide +kernel
theorem dX4_becomes_18 : decode cX4_becomes 18 = .ok (.getfield 22, 3) := by decide +kernel
theorem dX4_becomes_21 : decode cX4_becomes 21 = .ok (.putfield 22, 3) := by decide +kernel
theorem dX4_becomes_24 : decode cX4_becomes 24 = .ok (.aload_n 0, 1) := by decide +kernel
theorem dX4_becomes_25 : decode cX4_becomes 25 = .ok (.aload_n 1, 1) := by decide +kernel
theorem dX4_becomes_26 : decode cX4_becomes 26 = .ok (.getfield 25, 3) := by decide +kernel
theorem dX4_becomes_29 : decode cX4_becomes 29 = .ok (.putfield 25, 3) := by decide +kernel
theorem dX4_becomes_32 : decode cX4_becomes 32 = .ok (.aload_n 0, 1) := by decide +kernel
theorem dX4_becomes_33 : decode cX4_becomes 33 = .ok (.aload_n 1, 1) := by decide +kernel
theorem dX4_becomes_34 : decode cX4_becomes 34 = .ok (.getfield 28, 3) := by decide +kernel
theorem dX4_becomes_37 : decode cX4_becomes 37 = .ok (.putfield 28, 3) := by decide +kernel
theorem dX4_becomes_40 : decode cX4_becomes 40 = .ok (.iconst 0, 1) := by decide +kernel
theorem dX4_becomes_41 : decode cX4_becomes 41 = .ok (.istore_n 2, 1) := by decide +kernel
theorem dX4_becomes_42 : decode cX4_becomes 42 = .ok (.iload_n 2, 1) := by decide +kernel
theorem dX4_becomes_43 : decode cX4_becomes 43 = .ok (.aload_n 0, 1) := by decide +kernel
theorem dX4_becomes_44 : decode cX4_becomes 44 = .ok (.getfield 18, 3) := by decide +kernel
theorem dX4_becomes_47 : decode cX4_becomes 47 = .ok (.arraylength, 1) := by decide +kernel
theorem dX4_becomes_48 : decode cX4_becomes 48 = .ok (.if_icmp .ge 20, 3) := by decide +kernel
theorem dX4_becomes_51 : decode cX4_becomes 51 = .ok (.aload_n 0, 1) := by decide +kernel
theorem dX4_becomes_52 : decode cX4_becomes 52 = .ok (.getfield 18, 3) := by decide +kernel
theorem dX4_becomes_55 : decode cX4_becomes 55 = .ok (.iload_n 2, 1) := by decide +kernel
theorem dX4_becomes_56 : decode cX4_becomes 56 = .ok (.aload_n 1, 1) := by decide +kernel
theorem dX4_becomes_57 : decode cX4_becomes 57 = .ok (.iload_n 2, 1) := by decide +kernel
theorem dX4_becomes_58 : decode cX4_becomes 58 = .ok (.invokevirtual 35, 3) := by decide +kernel
theorem dX4_becomes_61 : decode cX4_becomes 61 = .ok (.iastore, 1) := by decide +kernel
theorem dX4_becomes_62 : decode cX4_becomes 62 = .ok (.iinc 2 1, 3) := by decide +kernel
theorem dX4_becomes_65 : decode cX4_becomes 65 = .ok (.goto (-23), 3) := by decide +kernel
theorem dX4_becomes_68 : decode cX4_becomes 68 = .ok (.return_, 1) := by decide +kernel
theorem dX4_isCell_0 : decode cX4_isCell 0 = .ok (.iload_n 1, 1) := by decide +kernel
theorem dX4_isCell_1 : decode cX4_isCell 1 = .ok (.aload_n 0, 1) := by decide +kernel
theorem dX4_isCell_2 : decode cX4_isCell 2 = .ok (.getfield 9, 3) := by decide +kernel
theorem dX4_isCell_5 : decode cX4_isCell 5 = .ok (.iconst 1, 1) := by decide +kernel
theorem dX4_isCell_6 : decode cX4_isCell 6 = .ok (.isub, 1) := by decide +kernel
theorem dX4_isCell_7 : decode cX4_isCell 7 = .ok (.invokestatic 39, 3) := by decide +kernel
theorem dX4_isCell_10 : decode cX4_isCell 10 = .ok (.ifCond .eq 20, 3) := by decide +kernel
theorem dX4_isCell_13 : decode cX4_isCell 13 = .ok (.iload_n 2, 1) := by decide +kernel
theorem dX4_isCell_14 : decode cX4_isCell 14 = .ok (.aload_n 0, 1) := by decide +kernel
theorem dX4_isCell_15 : decode cX4_isCell 15 = .ok (.getfield 15, 3) := by decide +kernel
theorem dX4_isCell_18 : decode cX4_isCell 18 = .ok (.iconst 1, 1) := by decide +kernel
theorem dX4_isCell_19 : decode cX4_isCell 19 = .ok (.isub, 1) := by decide +kernel
theorem dX4_isCell_20 : decode cX4_isCell 20 = .ok (.invokestatic 39, 3) := by decide +kernel
theorem dX4_isCell_23 : decode cX4_isCell 23 = .ok (.ifCond .eq 7, 3) := by decide +kernel
theorem dX4_isCell_26 : decode cX4_isCell 26 = .ok (.iconst 1, 1) := by decide +kernel
theorem dX4_isCell_27 : decode cX4_isCell 27 = .ok (.goto 4, 3) := by decide +kernel
theorem dX4_isCell_30 : decode cX4_isCell 30 = .ok (.iconst 0, 1) := by decide +kernel
theorem dX4_isCell_31 : decode cX4_isCell 31 = .ok (.ireturn, 1) := by decide +kernel
theorem dX4_dryCells_0 : decode cX4_dryCells 0 = .ok (.aload_n 0, 1) := by decide +kernel
theorem dX4_dryCells_1 : decode cX4_dryCells 1 = .ok (.aload_n 0, 1) := by decide +kernel
theorem dX4_dryCells_2 : decode cX4_dryCells 2 = .ok (.getfield 28, 3) := by decide +kernel
theorem dX4_dryCells_5 : decode cX4_dryCells 5 = .ok (.invokevirtual 43, 3) := by decide +kernel
theorem dX4_dryCells_8 : decode cX4_dryCells 8 = .ok (.ireturn, 1) := by decide +kernel
theorem dX4_bareCells_0 : decode cX4_bareCells 0 = .ok (.aload_n 0, 1) := by decide +kernel
theorem dX4_bareCells_1 : decode cX4_bareCells 1 = .ok (.invokevirtual 46, 3) := by decide +kernel
theorem dX4_bareCells_4 : decode cX4_bareCells 4 = .ok (.aload_n 0, 1) := by decide +kernel
theorem dX4_bareCells_5 : decode cX4_bareCells 5 = .ok (.getfield 22, 3) := by decide +kernel
theorem dX4_bareCells_8 : decode cX4_bareCells 8 = .ok (.iconst (-1), 1) := by decide +kernel
theorem dX4_bareCells_9 : decode cX4_bareCells 9 = .ok (.ixor, 1) := by decide +kernel
theorem dX4_bareCells_10 : decode cX4_bareCells 10 = .ok (.iand, 1) := by decide +kernel
theorem dX4_bareCells_11 : decode cX4_bareCells 11 = .ok (.ireturn, 1) := by decide +kernel
theorem dX4_cellsFrom_0 : decode cX4_cellsFrom 0 = .ok (.iconst 0, 1) := by decide +kernel
theorem dX4_cellsFrom_1 : decode cX4_cellsFrom 1 = .ok (.istore_n 2, 1) := by decide +kernel
theorem dX4_cellsFrom_2 : decode cX4_cellsFrom 2 = .ok (.iload_n 1, 1) := by decide +kernel
theorem dX4_cellsFrom_3 : decode cX4_cellsFrom 3 = .ok (.istore_n 3, 1) := by decide +kernel
theorem dX4_cellsFrom_4 : decode cX4_cellsFrom 4 = .ok (.iload_n 3, 1) := by decide +kernel
theorem dX4_cellsFrom_5 : decode cX4_cellsFrom 5 = .ok (.aload_n 0, 1) := by decide +kernel
theorem dX4_cellsFrom_6 : decode cX4_cellsFrom 6 = .ok (.getfield 15, 3) := by decide +kernel
theorem dX4_cellsFrom_9 : decode cX4_cellsFrom 9 = .ok (.if_icmp .ge 17, 3) := by decide +kernel
theorem dX4_cellsFrom_12 : decode cX4_cellsFrom 12 = .ok (.iload_n 2, 1) := by decide +kernel
theorem dX4_cellsFrom_13 : decode cX4_cellsFrom 13 = .ok (.aload_n 0, 1) := by decide +kernel
theorem dX4_cellsFrom_14 : decode cX4_cellsFrom 14 = .ok (.iload_n 3, 1) := by decide +kernel
theorem dX4_cellsFrom_15 : decode cX4_cellsFrom 15 = .ok (.invokevirtual 50, 3) := by decide +kernel
theorem dX4_cellsFrom_18 : decode cX4_cellsFrom 18 = .ok (.ior, 1) := by decide +kernel
theorem dX4_cellsFrom_19 : decode cX4_cellsFrom 19 = .ok (.istore_n 2, 1) := by decide +kernel
theorem dX4_cellsFrom_20 : decode cX4_cellsFrom 20 = .ok (.iinc 3 1, 3) := by decide +kernel
theorem dX4_cellsFrom_23 : decode cX4_cellsFrom 23 = .ok (.goto (-19), 3) := by decide +kernel
theorem dX4_cellsFrom_26 : decode cX4_cellsFrom 26 = .ok (.iload_n 2, 1) := by decide +kernel
theorem dX4_cellsFrom_27 : decode cX4_cellsFrom 27 = .ok (.ireturn, 1) := by decide +kernel
theorem dX4_rowOf_0 : decode cX4_rowOf 0 = .ok (.iconst 1, 1) := by decide +kernel
theorem dX4_rowOf_1 : decode cX4_rowOf 1 = .ok (.aload_n 0, 1) := by decide +kernel
theorem dX4_rowOf_2 : decode cX4_rowOf 2 = .ok (.getfield 9, 3) := by decide +kernel
theorem dX4_rowOf_5 : decode cX4_rowOf 5 = .ok (.ishl, 1) := by decide +kernel
theorem dX4_rowOf_6 : decode cX4_rowOf 6 = .ok (.iconst 1, 1) := by decide +kernel
theorem dX4_rowOf_7 : decode cX4_rowOf 7 = .ok (.isub, 1) := by decide +kernel
theorem dX4_rowOf_8 : decode cX4_rowOf 8 = .ok (.iconst 5, 1) := by decide +kernel
theorem dX4_rowOf_9 : decode cX4_rowOf 9 = .ok (.iload_n 1, 1) := by decide +kernel
theorem dX4_rowOf_10 : decode cX4_rowOf 10 = .ok (.imul, 1) := by decide +kernel
theorem dX4_rowOf_11 : decode cX4_rowOf 11 = .ok (.ishl, 1) := by decide +kernel
theorem dX4_rowOf_12 : decode cX4_rowOf 12 = .ok (.ireturn, 1) := by decide +kernel
theorem dX4_heldBy_0 : decode cX4_heldBy 0 = .ok (.iload_n 1, 1) := by decide +kernel
theorem dX4_heldBy_1 : decode cX4_heldBy 1 = .ok (.ifCond .lt 21, 3) := by decide +kernel
theorem dX4_heldBy_4 : decode cX4_heldBy 4 = .ok (.iload_n 1, 1) := by decide +kernel
theorem dX4_heldBy_5 : decode cX4_heldBy 5 = .ok (.aload_n 0, 1) := by decide +kernel
theorem dX4_heldBy_6 : decode cX4_heldBy 6 = .ok (.getfield 18, 3) := by decide +kernel
theorem dX4_heldBy_9 : decode cX4_heldBy 9 = .ok (.arraylength, 1) := by decide +kernel
theorem dX4_heldBy_10 : decode cX4_heldBy 10 = .ok (.if_icmp .ge 12, 3) := by decide +kernel
theorem dX4_heldBy_13 : decode cX4_heldBy 13 = .ok (.aload_n 0, 1) := by decide +kernel
theorem dX4_heldBy_14 : decode cX4_heldBy 14 = .ok (.getfield 18, 3) := by decide +kernel
theorem dX4_heldBy_17 : decode cX4_heldBy 17 = .ok (.iload_n 1, 1) := by decide +kernel
theorem dX4_heldBy_18 : decode cX4_heldBy 18 = .ok (.iaload, 1) := by decide +kernel
theorem dX4_heldBy_19 : decode cX4_heldBy 19 = .ok (.goto 4, 3) := by decide +kernel
theorem dX4_heldBy_22 : decode cX4_heldBy 22 = .ok (.iconst 0, 1) := by decide +kernel
theorem dX4_heldBy_23 : decode cX4_heldBy 23 = .ok (.ireturn, 1) := by decide +kernel
theorem dX4_heldByAny_0 : decode cX4_heldByAny 0 = .ok (.iconst 0, 1) := by decide +kernel
theorem dX4_heldByAny_1 : decode cX4_heldByAny 1 = .ok (.istore_n 1, 1) := by decide +kernel
theorem dX4_heldByAny_2 : decode cX4_heldByAny 2 = .ok (.iconst 0, 1) := by decide +kernel
theorem dX4_heldByAny_3 : decode cX4_heldByAny 3 = .ok (.istore_n 2, 1) := by decide +kernel
theorem dX4_heldByAny_4 : decode cX4_heldByAny 4 = .ok (.iload_n 2, 1) := by decide +kernel
theorem dX4_heldByAny_5 : decode cX4_heldByAny 5 = .ok (.aload_n 0, 1) := by decide +kernel
theorem dX4_heldByAny_6 : decode cX4_heldByAny 6 = .ok (.getfield 18, 3) := by decide +kernel
theorem dX4_heldByAny_9 : decode cX4_heldByAny 9 = .ok (.arraylength, 1) := by decide +kernel
theorem dX4_heldByAny_10 : decode cX4_heldByAny 10 = .ok (.if_icmp .ge 18, 3) := by decide +kernel
theorem dX4_heldByAny_13 : decode cX4_heldByAny 13 = .ok (.iload_n 1, 1) := by decide +kernel
theorem dX4_heldByAny_14 : decode cX4_heldByAny 14 = .ok (.aload_n 0, 1) := by decide +kernel
theorem dX4_heldByAny_15 : decode cX4_heldByAny 15 = .ok (.getfield 18, 3) := by decide +kernel
theorem dX4_heldByAny_18 : decode cX4_heldByAny 18 = .ok (.iload_n 2, 1) := by decide +kernel
theorem dX4_heldByAny_19 : decode cX4_heldByAny 19 = .ok (.iaload, 1) := by decide +kernel
theorem dX4_heldByAny_20 : decode cX4_heldByAny 20 = .ok (.ior, 1) := by decide +kernel
theorem dX4_heldByAny_21 : decode cX4_heldByAny 21 = .ok (.istore_n 1, 1) := by decide +kernel
theorem dX4_heldByAny_22 : decode cX4_heldByAny 22 = .ok (.iinc 2 1, 3) := by decide +kernel
theorem dX4_heldByAny_25 : decode cX4_heldByAny 25 = .ok (.goto (-21), 3) := by decide +kernel
theorem dX4_heldByAny_28 : decode cX4_heldByAny 28 = .ok (.iload_n 1, 1) := by decide +kernel
theorem dX4_heldByAny_29 : decode cX4_heldByAny 29 = .ok (.ireturn, 1) := by decide +kernel
theorem dX4_holderOf_0 : decode cX4_holderOf 0 = .ok (.iconst 0, 1) := by decide +kernel
theorem dX4_holderOf_1 : decode cX4_holderOf 1 = .ok (.istore_n 2, 1) := by decide +kernel
theorem dX4_holderOf_2 : decode cX4_holderOf 2 = .ok (.iload_n 2, 1) := by decide +kernel
theorem dX4_holderOf_3 : decode cX4_holderOf 3 = .ok (.aload_n 0, 1) := by decide +kernel
theorem dX4_holderOf_4 : decode cX4_holderOf 4 = .ok (.getfield 18, 3) := by decide +kernel
theorem dX4_holderOf_7 : decode cX4_holderOf 7 = .ok (.arraylength, 1) := by decide +kernel
theorem dX4_holderOf_8 : decode cX4_holderOf 8 = .ok (.if_icmp .ge 22, 3) := by decide +kernel
theorem dX4_holderOf_11 : decode cX4_holderOf 11 = .ok (.aload_n 0, 1) := by decide +kernel
theorem dX4_holderOf_12 : decode cX4_holderOf 12 = .ok (.getfield 18, 3) := by decide +kernel
theorem dX4_holderOf_15 : decode cX4_holderOf 15 = .ok (.iload_n 2, 1) := by decide +kernel
theorem dX4_holderOf_16 : decode cX4_holderOf 16 = .ok (.iaload, 1) := by decide +kernel
theorem dX4_holderOf_17 : decode cX4_holderOf 17 = .ok (.iload_n 1, 1) := by decide +kernel
theorem dX4_holderOf_18 : decode cX4_holderOf 18 = .ok (.iand, 1) := by decide +kernel
theorem dX4_holderOf_19 : decode cX4_holderOf 19 = .ok (.ifCond .eq 5, 3) := by decide +kernel
theorem dX4_holderOf_22 : decode cX4_holderOf 22 = .ok (.iload_n 2, 1) := by decide +kernel
theorem dX4_holderOf_23 : decode cX4_holderOf 23 = .ok (.ireturn, 1) := by decide +kernel
theorem dX4_holderOf_24 : decode cX4_holderOf 24 = .ok (.iinc 2 1, 3) := by decide +kernel
theorem dX4_holderOf_27 : decode cX4_holderOf 27 = .ok (.goto (-25), 3) := by decide +kernel
theorem dX4_holderOf_30 : decode cX4_holderOf 30 = .ok (.bipush (-9), 2) := by decide +kernel
theorem dX4_holderOf_32 : decode cX4_holderOf 32 = .ok (.ireturn, 1) := by decide +kernel
theorem dX4_give_0 : decode cX4_give 0 = .ok (.iload_n 1, 1) := by decide +kernel
theorem dX4_give_1 : decode cX4_give 1 = .ok (.ifCond .lt 22, 3) := by decide +kernel
theorem dX4_give_4 : decode cX4_give 4 = .ok (.iload_n 1, 1) := by decide +kernel
theorem dX4_give_5 : decode cX4_give 5 = .ok (.aload_n 0, 1) := by decide +kernel
theorem dX4_give_6 : decode cX4_give 6 = .ok (.getfield 18, 3) := by decide +kernel
theorem dX4_give_9 : decode cX4_give 9 = .ok (.arraylength, 1) := by decide +kernel
theorem dX4_give_10 : decode cX4_give 10 = .ok (.if_icmp .ge 13, 3) := by decide +kernel
theorem dX4_give_13 : decode cX4_give 13 = .ok (.aload_n 0, 1) := by decide +kernel
theorem dX4_give_14 : decode cX4_give 14 = .ok (.getfield 18, 3) := by decide +kernel
theorem dX4_give_17 : decode cX4_give 17 = .ok (.iload_n 1, 1) := by decide +kernel
theorem dX4_give_18 : decode cX4_give 18 = .ok (.dup2, 1) := by decide +kernel
theorem dX4_give_19 : decode cX4_give 19 = .ok (.iaload, 1) := by decide +kernel
theorem dX4_give_20 : decode cX4_give 20 = .ok (.iload_n 2, 1) := by decide +kernel
theorem dX4_give_21 : decode cX4_give 21 = .ok (.ior, 1) := by decide +kernel
theorem dX4_give_22 : decode cX4_give 22 = .ok (.iastore, 1) := by decide +kernel
theorem dX4_give_23 : decode cX4_give 23 = .ok (.return_, 1) := by decide +kernel
theorem dX4_freeAllBut_0 : decode cX4_freeAllBut 0 = .ok (.iconst 0, 1) := by decide +kernel
theorem dX4_freeAllBut_1 : decode cX4_freeAllBut 1 = .ok (.istore_n 2, 1) := by decide +kernel
theorem dX4_freeAllBut_2 : decode cX4_freeAllBut 2 = .ok (.iload_n 2, 1) := by decide +kernel
theorem dX4_freeAllBut_3 : decode cX4_freeAllBut 3 = .ok (.aload_n 0, 1) := by decide +kernel
theorem dX4_freeAllBut_4 : decode cX4_freeAllBut 4 = .ok (.getfield 18, 3) := by decide +kernel
theorem dX4_freeAllBut_7 : decode cX4_freeAllBut 7 = .ok (.arraylength, 1) := by decide +kernel
theorem dX4_freeAllBut_8 : decode cX4_freeAllBut 8 = .ok (.if_icmp .ge 19, 3) := by decide +kernel
theorem dX4_freeAllBut_11 : decode cX4_freeAllBut 11 = .ok (.aload_n 0, 1) := by decide +kernel
theorem dX4_freeAllBut_12 : decode cX4_freeAllBut 12 = .ok (.getfield 18, 3) := by decide +kernel
theorem dX4_freeAllBut_15 : decode cX4_freeAllBut 15 = .ok (.iload_n 2, 1) := by decide +kernel
theorem dX4_freeAllBut_16 : decode cX4_freeAllBut 16 = .ok (.dup2, 1) := by decide +kernel
theorem dX4_freeAllBut_17 : decode cX4_freeAllBut 17 = .ok (.iaload, 1) := by decide +kernel
theorem dX4_freeAllBut_18 : decode cX4_freeAllBut 18 = .ok (.iload_n 1, 1) := by decide +kernel
theorem dX4_freeAllBut_19 : decode cX4_freeAllBut 19 = .ok (.iand, 1) := by decide +kernel
theorem dX4_freeAllBut_20 : decode cX4_freeAllBut 20 = .ok (.iastore, 1) := by decide +kernel
theorem dX4_freeAllBut_21 : decode cX4_freeAllBut 21 = .ok (.iinc 2 1, 3) := by decide +kernel
theorem dX4_freeAllBut_24 : decode cX4_freeAllBut 24 = .ok (.goto (-22), 3) := by decide +kernel
theorem dX4_freeAllBut_27 : decode cX4_freeAllBut 27 = .ok (.return_, 1) := by decide +kernel
theorem dX4_tideBecomes_0 : decode cX4_tideBecomes 0 = .ok (.aload_n 0, 1) := by decide +kernel
theorem dX4_tideBecomes_1 : decode cX4_tideBecomes 1 = .ok (.iload_n 1, 1) := by decide +kernel
theorem dX4_tideBecomes_2 : decode cX4_tideBecomes 2 = .ok (.putfield 28, 3) := by decide +kernel
theorem dX4_tideBecomes_5 : decode cX4_tideBecomes 5 = .ok (.aload_n 0, 1) := by decide +kernel
theorem dX4_tideBecomes_6 : decode cX4_tideBecomes 6 = .ok (.aload_n 0, 1) := by decide +kernel
theorem dX4_tideBecomes_7 : decode cX4_tideBecomes 7 = .ok (.invokevirtual 46, 3) := by decide +kernel
theorem dX4_tideBecomes_10 : decode cX4_tideBecomes 10 = .ok (.invokevirtual 31, 3) := by decide +kernel
theorem dX4_tideBecomes_13 : decode cX4_tideBecomes 13 = .ok (.aload_n 0, 1) := by decide +kernel
theorem dX4_tideBecomes_14 : decode cX4_tideBecomes 14 = .ok (.dup, 1) := by decide +kernel
theorem dX4_tideBecomes_15 : decode cX4_tideBecomes 15 = .ok (.getfield 22, 3) := by decide +kernel
theorem dX4_tideBecomes_18 : decode cX4_tideBecomes 18 = .ok (.aload_n 0, 1) := by decide +kernel
theorem dX4_tideBecomes_19 : decode cX4_tideBecomes 19 = .ok (.invokevirtual 46, 3) := by decide +kernel
theorem dX4_tideBecomes_22 : decode cX4_tideBecomes 22 = .ok (.iand, 1) := by decide +kernel
theorem dX4_tideBecomes_23 : decode cX4_tideBecomes 23 = .ok (.putfield 22, 3) := by decide +kernel
theorem dX4_tideBecomes_26 : decode cX4_tideBecomes 26 = .ok (.return_, 1) := by decide +kernel
theorem dX4_stillBy_0 : decode cX4_stillBy 0 = .ok (.aload_n 0, 1) := by decide +kernel
theorem dX4_stillBy_1 : decode cX4_stillBy 1 = .ok (.aload_n 0, 1) := by decide +kernel
theorem dX4_stillBy_2 : decode cX4_stillBy 2 = .ok (.getfield 22, 3) := by decide +kernel
theorem dX4_stillBy_5 : decode cX4_stillBy 5 = .ok (.iload_n 1, 1) := by decide +kernel
theorem dX4_stillBy_6 : decode cX4_stillBy 6 = .ok (.invokevirtual 53, 3) := by decide +kernel
theorem dX4_stillBy_9 : decode cX4_stillBy 9 = .ok (.ireturn, 1) := by decide +kernel
theorem dX4_stillWith_0 : decode cX4_stillWith 0 = .ok (.iload_n 2, 1) := by decide +kernel
theorem dX4_stillWith_1 : decode cX4_stillWith 1 = .ok (.ifCond .ne 18, 3) := by decide +kernel
theorem dX4_stillWith_4 : decode cX4_stillWith 4 = .ok (.iload_n 1, 1) := by decide +kernel
theorem dX4_stillWith_5 : decode cX4_stillWith 5 = .ok (.invokestatic 57, 3) := by decide +kernel
theorem dX4_stillWith_8 : decode cX4_stillWith 8 = .ok (.iload_n 1, 1) := by decide +kernel
theorem dX4_stillWith_9 : decode cX4_stillWith 9 = .ok (.invokestatic 57, 3) := by decide +kernel
theorem dX4_stillWith_12 : decode cX4_stillWith 12 = .ok (.invokestatic 57, 3) := by decide +kernel
theorem dX4_stillWith_15 : decode cX4_stillWith 15 = .ok (.ior, 1) := by decide +kernel
theorem dX4_stillWith_16 : decode cX4_stillWith 16 = .ok (.goto 9, 3) := by decide +kernel
theorem dX4_stillWith_19 : decode cX4_stillWith 19 = .ok (.iload_n 1, 1) := by decide +kernel
theorem dX4_stillWith_20 : decode cX4_stillWith 20 = .ok (.iload_n 1, 1) := by decide +kernel
theorem dX4_stillWith_21 : decode cX4_stillWith 21 = .ok (.invokestatic 60, 3) := by decide +kernel
theorem dX4_stillWith_24 : decode cX4_stillWith 24 = .ok (.ior, 1) := by decide +kernel
theorem dX4_stillWith_25 : decode cX4_stillWith 25 = .ok (.istore_n 3, 1) := by decide +kernel
theorem dX4_stillWith_26 : decode cX4_stillWith 26 = .ok (.iload_n 3, 1) := by decide +kernel
theorem dX4_stillWith_27 : decode cX4_stillWith 27 = .ok (.aload_n 0, 1) := by decide +kernel
theorem dX4_stillWith_28 : decode cX4_stillWith 28 = .ok (.invokevirtual 46, 3) := by decide +kernel
theorem dX4_stillWith_31 : decode cX4_stillWith 31 = .ok (.iand, 1) := by decide +kernel
theorem dX4_stillWith_32 : decode cX4_stillWith 32 = .ok (.ireturn, 1) := by decide +kernel
theorem dX4_shelterOf_0 : decode cX4_shelterOf 0 = .ok (.aload_n 0, 1) := by decide +kernel
theorem dX4_shelterOf_1 : decode cX4_shelterOf 1 = .ok (.iload_n 1, 1) := by decide +kernel
theorem dX4_shelterOf_2 : decode cX4_shelterOf 2 = .ok (.aload_n 0, 1) := by decide +kernel
theorem dX4_shelterOf_3 : decode cX4_shelterOf 3 = .ok (.getfield 22, 3) := by decide +kernel
theorem dX4_shelterOf_6 : decode cX4_shelterOf 6 = .ok (.invokevirtual 63, 3) := by decide +kernel
theorem dX4_shelterOf_9 : decode cX4_shelterOf 9 = .ok (.ireturn, 1) := by decide +kernel
theorem dX4_shelterWith_0 : decode cX4_shelterWith 0 = .ok (.aload_n 0, 1) := by decide +kernel
theorem dX4_shelterWith_1 : decode cX4_shelterWith 1 = .ok (.iload_n 1, 1) := by decide +kernel
theorem dX4_shelterWith_2 : decode cX4_shelterWith 2 = .ok (.invokevirtual 35, 3) := by decide +kernel
theorem dX4_shelterWith_5 : decode cX4_shelterWith 5 = .ok (.aload_n 0, 1) := by decide +kernel
theorem dX4_shelterWith_6 : decode cX4_shelterWith 6 = .ok (.iload_n 2, 1) := by decide +kernel
theorem dX4_shelterWith_7 : decode cX4_shelterWith 7 = .ok (.aload_n 0, 1) := by decide +kernel
theorem dX4_shelterWith_8 : decode cX4_shelterWith 8 = .ok (.getfield 25, 3) := by decide +kernel
theorem dX4_shelterWith_11 : decode cX4_shelterWith 11 = .ok (.invokevirtual 53, 3) := by decide +kernel
theorem dX4_shelterWith_14 : decode cX4_shelterWith 14 = .ok (.iand, 1) := by decide +kernel
theorem dX4_shelterWith_15 : decode cX4_shelterWith 15 = .ok (.invokestatic 66, 3) := by decide +kernel
theorem dX4_shelterWith_18 : decode cX4_shelterWith 18 = .ok (.ireturn, 1) := by decide +kernel
theorem dX4_borderLength_0 : decode cX4_borderLength 0 = .ok (.aload_n 0, 1) := by decide +kernel
theorem dX4_borderLength_1 : decode cX4_borderLength 1 = .ok (.invokevirtual 46, 3) := by decide +kernel
theorem dX4_borderLength_4 : decode cX4_borderLength 4 = .ok (.aload_n 0, 1) := by decide +kernel
theorem dX4_borderLength_5 : decode cX4_borderLength 5 = .ok (.invokevirtual 71, 3) := by decide +kernel
theorem dX4_borderLength_8 : decode cX4_borderLength 8 = .ok (.iconst (-1), 1) := by decide +kernel
theorem dX4_borderLength_9 : decode cX4_borderLength 9 = .ok (.ixor, 1) := by decide +kernel
theorem dX4_borderLength_10 : decode cX4_borderLength 10 = .ok (.iand, 1) := by decide +kernel
theorem dX4_borderLength_11 : decode cX4_borderLength 11 = .ok (.invokestatic 74, 3) := by decide +kernel
theorem dX4_borderLength_14 : decode cX4_borderLength 14 = .ok (.istore_n 1, 1) := by decide +kernel
theorem dX4_borderLength_15 : decode cX4_borderLength 15 = .ok (.iconst 0, 1) := by decide +kernel
theorem dX4_borderLength_16 : decode cX4_borderLength 16 = .ok (.istore_n 2, 1) := by decide +kernel
theorem dX4_borderLength_17 : decode cX4_borderLength 17 = .ok (.iload_n 2, 1) := by decide +kernel
theorem dX4_borderLength_18 : decode cX4_borderLength 18 = .ok (.iconst 5, 1) := by decide +kernel
theorem dX4_borderLength_19 : decode cX4_borderLength 19 = .ok (.if_icmp .ge 20, 3) := by decide +kernel
theorem dX4_borderLength_22 : decode cX4_borderLength 22 = .ok (.iload_n 1, 1) := by decide +kernel
theorem dX4_borderLength_23 : decode cX4_borderLength 23 = .ok (.aload_n 0, 1) := by decide +kernel
theorem dX4_borderLength_24 : decode cX4_borderLength 24 = .ok (.iload_n 2, 1) := by decide +kernel
theorem dX4_borderLength_25 : decode cX4_borderLength 25 = .ok (.invokevirtual 35, 3) := by decide +kernel
theorem dX4_borderLength_28 : decode cX4_borderLength 28 = .ok (.invokestatic 74, 3) := by decide +kernel
theorem dX4_borderLength_31 : decode cX4_borderLength 31 = .ok (.iadd, 1) := by decide +kernel
theorem dX4_borderLength_32 : decode cX4_borderLength 32 = .ok (.istore_n 1, 1) := by decide +kernel
theorem dX4_borderLength_33 : decode cX4_borderLength 33 = .ok (.iinc 2 1, 3) := by decide +kernel
theorem dX4_borderLength_36 : decode cX4_borderLength 36 = .ok (.goto (-19), 3) := by decide +kernel
theorem dX4_borderLength_39 : decode cX4_borderLength 39 = .ok (.aload_n 0, 1) := by decide +kernel
theorem dX4_borderLength_40 : decode cX4_borderLength 40 = .ok (.invokevirtual 46, 3) := by decide +kernel
theorem dX4_borderLength_43 : decode cX4_borderLength 43 = .ok (.invokestatic 74, 3) := by decide +kernel
theorem dX4_borderLength_46 : decode cX4_borderLength 46 = .ok (.iload_n 1, 1) := by decide +kernel
theorem dX4_borderLength_47 : decode cX4_borderLength 47 = .ok (.isub, 1) := by decide +kernel
theorem dX4_borderLength_48 : decode cX4_borderLength 48 = .ok (.ireturn, 1) := by decide +kernel
theorem dX4_losesAfter_0 : decode cX4_losesAfter 0 = .ok (.aload_n 0, 1) := by decide +kernel
theorem dX4_losesAfter_1 : decode cX4_losesAfter 1 = .ok (.getfield 28, 3) := by decide +kernel
theorem dX4_losesAfter_4 : decode cX4_losesAfter 4 = .ok (.istore_n 2, 1) := by decide +kernel
theorem dX4_losesAfter_5 : decode cX4_losesAfter 5 = .ok (.iload_n 2, 1) := by decide +kernel
theorem dX4_losesAfter_6 : decode cX4_losesAfter 6 = .ok (.aload_n 0, 1) := by decide +kernel
theorem dX4_losesAfter_7 : decode cX4_losesAfter 7 = .ok (.getfield 15, 3) := by decide +kernel
theorem dX4_losesAfter_10 : decode cX4_losesAfter 10 = .ok (.if_icmp .ge 32, 3) := by decide +kernel
theorem dX4_losesAfter_13 : decode cX4_losesAfter 13 = .ok (.aload_n 0, 1) := by decide +kernel
theorem dX4_losesAfter_14 : decode cX4_losesAfter 14 = .ok (.iload_n 1, 1) := by decide +kernel
theorem dX4_losesAfter_15 : decode cX4_losesAfter 15 = .ok (.invokevirtual 35, 3) := by decide +kernel
theorem dX4_losesAfter_18 : decode cX4_losesAfter 18 = .ok (.aload_n 0, 1) := by decide +kernel
theorem dX4_losesAfter_19 : decode cX4_losesAfter 19 = .ok (.iload_n 2, 1) := by decide +kernel
theorem dX4_losesAfter_20 : decode cX4_losesAfter 20 = .ok (.invokevirtual 50, 3) := by decide +kernel
theorem dX4_losesAfter_23 : decode cX4_losesAfter 23 = .ok (.iand, 1) := by decide +kernel
theorem dX4_losesAfter_24 : decode cX4_losesAfter 24 = .ok (.ifCond .eq 12, 3) := by decide +kernel
theorem dX4_losesAfter_27 : decode cX4_losesAfter 27 = .ok (.iload_n 2, 1) := by decide +kernel
theorem dX4_losesAfter_28 : decode cX4_losesAfter 28 = .ok (.iconst 1, 1) := by decide +kernel
theorem dX4_losesAfter_29 : decode cX4_losesAfter 29 = .ok (.iadd, 1) := by decide +kernel
theorem dX4_losesAfter_30 : decode cX4_losesAfter 30 = .ok (.aload_n 0, 1) := by decide +kernel
theorem dX4_losesAfter_31 : decode cX4_losesAfter 31 = .ok (.getfield 28, 3) := by decide +kernel
theorem dX4_losesAfter_34 : decode cX4_losesAfter 34 = .ok (.isub, 1) := by decide +kernel
theorem dX4_losesAfter_35 : decode cX4_losesAfter 35 = .ok (.ireturn, 1) := by decide +kernel
theorem dX4_losesAfter_36 : decode cX4_losesAfter 36 = .ok (.iinc 2 1, 3) := by decide +kernel
theorem dX4_losesAfter_39 : decode cX4_losesAfter 39 = .ok (.goto (-34), 3) := by decide +kernel
theorem dX4_losesAfter_42 : decode cX4_losesAfter 42 = .ok (.bipush (-9), 2) := by decide +kernel
theorem dX4_losesAfter_44 : decode cX4_losesAfter 44 = .ok (.ireturn, 1) := by decide +kernel
theorem dX4_fewestOthers_0 : decode cX4_fewestOthers 0 = .ok (.aload_n 0, 1) := by decide +kernel
theorem dX4_fewestOthers_1 : decode cX4_fewestOthers 1 = .ok (.invokevirtual 46, 3) := by decide +kernel
theorem dX4_fewestOthers_4 : decode cX4_fewestOthers 4 = .ok (.istore_n 3, 1) := by decide +kernel
theorem dX4_fewestOthers_5 : decode cX4_fewestOthers 5 = .ok (.aload_n 0, 1) := by decide +kernel
theorem dX4_fewestOthers_6 : decode cX4_fewestOthers 6 = .ok (.invokevirtual 71, 3) := by decide +kernel
theorem dX4_fewestOthers_9 : decode cX4_fewestOthers 9 = .ok (.aload_n 0, 1) := by decide +kernel
theorem dX4_fewestOthers_10 : decode cX4_fewestOthers 10 = .ok (.iload_n 1, 1) := by decide +kernel
theorem dX4_fewestOthers_11 : decode cX4_fewestOthers 11 = .ok (.invokevirtual 35, 3) := by decide +kernel
theorem dX4_fewestOthers_14 : decode cX4_fewestOthers 14 = .ok (.iconst (-1), 1) := by decide +kernel
theorem dX4_fewestOthers_15 : decode cX4_fewestOthers 15 = .ok (.ixor, 1) := by decide +kernel
theorem dX4_fewestOthers_16 : decode cX4_fewestOthers 16 = .ok (.iand, 1) := by decide +kernel
theorem dX4_fewestOthers_17 : decode cX4_fewestOthers 17 = .ok (.istore 4, 2) := by decide +kernel
theorem dX4_fewestOthers_19 : decode cX4_fewestOthers 19 = .ok (.iload_n 2, 1) := by decide +kernel
theorem dX4_fewestOthers_20 : decode cX4_fewestOthers 20 = .ok (.istore 5, 2) := by decide +kernel
theorem dX4_fewestOthers_22 : decode cX4_fewestOthers 22 = .ok (.iload_n 2, 1) := by decide +kernel
theorem dX4_fewestOthers_23 : decode cX4_fewestOthers 23 = .ok (.iload 4, 2) := by decide +kernel
theorem dX4_fewestOthers_25 : decode cX4_fewestOthers 25 = .ok (.iand, 1) := by decide +kernel
theorem dX4_fewestOthers_26 : decode cX4_fewestOthers 26 = .ok (.ifCond .eq 7, 3) := by decide +kernel
theorem dX4_fewestOthers_29 : decode cX4_fewestOthers 29 = .ok (.iconst 1, 1) := by decide +kernel
theorem dX4_fewestOthers_30 : decode cX4_fewestOthers 30 = .ok (.goto 4, 3) := by decide +kernel
theorem dX4_fewestOthers_33 : decode cX4_fewestOthers 33 = .ok (.iconst 0, 1) := by decide +kernel
theorem dX4_fewestOthers_34 : decode cX4_fewestOthers 34 = .ok (.invokestatic 77, 3) := by decide +kernel
theorem dX4_fewestOthers_37 : decode cX4_fewestOthers 37 = .ok (.istore 6, 2) := by decide +kernel
theorem dX4_fewestOthers_39 : decode cX4_fewestOthers 39 = .ok (.iconst 0, 1) := by decide +kernel
theorem dX4_fewestOthers_40 : decode cX4_fewestOthers 40 = .ok (.istore 7, 2) := by decide +kernel
theorem dX4_fewestOthers_42 : decode cX4_fewestOthers 42 = .ok (.iload 7, 2) := by decide +kernel
theorem dX4_fewestOthers_44 : decode cX4_fewestOthers 44 = .ok (.bipush 20, 2) := by decide +kernel
theorem dX4_fewestOthers_46 : decode cX4_fewestOthers 46 = .ok (.if_icmp .ge 54, 3) := by decide +kernel
theorem dX4_fewestOthers_49 : decode cX4_fewestOthers 49 = .ok (.iload_n 3, 1) := by decide +kernel
theorem dX4_fewestOthers_50 : decode cX4_fewestOthers 50 = .ok (.iload 4, 2) := by decide +kernel
theorem dX4_fewestOthers_52 : decode cX4_fewestOthers 52 = .ok (.iconst (-1), 1) := by decide +kernel
theorem dX4_fewestOthers_53 : decode cX4_fewestOthers 53 = .ok (.ixor, 1) := by decide +kernel
theorem dX4_fewestOthers_54 : decode cX4_fewestOthers 54 = .ok (.iand, 1) := by decide +kernel
theorem dX4_fewestOthers_55 : decode cX4_fewestOthers 55 = .ok (.iload 5, 2) := by decide +kernel
theorem dX4_fewestOthers_57 : decode cX4_fewestOthers 57 = .ok (.invokestatic 81, 3) := by decide +kernel
theorem dX4_fewestOthers_60 : decode cX4_fewestOthers 60 = .ok (.istore 5, 2) := by decide +kernel
theorem dX4_fewestOthers_62 : decode cX4_fewestOthers 62 = .ok (.iload 5, 2) := by decide +kernel
theorem dX4_fewestOthers_64 : decode cX4_fewestOthers 64 = .ok (.aload_n 0, 1) := by decide +kernel
theorem dX4_fewestOthers_65 : decode cX4_fewestOthers 65 = .ok (.aload_n 0, 1) := by decide +kernel
theorem dX4_fewestOthers_66 : decode cX4_fewestOthers 66 = .ok (.getfield 28, 3) := by decide +kernel
theorem dX4_fewestOthers_69 : decode cX4_fewestOthers 69 = .ok (.invokevirtual 50, 3) := by decide +kernel
theorem dX4_fewestOthers_72 : decode cX4_fewestOthers 72 = .ok (.iand, 1) := by decide +kernel
theorem dX4_fewestOthers_73 : decode cX4_fewestOthers 73 = .ok (.ifCond .eq 6, 3) := by decide +kernel
theorem dX4_fewestOthers_76 : decode cX4_fewestOthers 76 = .ok (.iload 6, 2) := by decide +kernel
theorem dX4_fewestOthers_78 : decode cX4_fewestOthers 78 = .ok (.ireturn, 1) := by decide +kernel
theorem dX4_fewestOthers_79 : decode cX4_fewestOthers 79 = .ok (.iload 5, 2) := by decide +kernel
theorem dX4_fewestOthers_81 : decode cX4_fewestOthers 81 = .ok (.iload 5, 2) := by decide +kernel
theorem dX4_fewestOthers_83 : decode cX4_fewestOthers 83 = .ok (.invokestatic 84, 3) := by decide +kernel
theorem dX4_fewestOthers_86 : decode cX4_fewestOthers 86 = .ok (.iload_n 3, 1) := by decide +kernel
theorem dX4_fewestOthers_87 : decode cX4_fewestOthers 87 = .ok (.iand, 1) := by decide +kernel
theorem dX4_fewestOthers_88 : decode cX4_fewestOthers 88 = .ok (.ior, 1) := by decide +kernel
theorem dX4_fewestOthers_89 : decode cX4_fewestOthers 89 = .ok (.istore 5, 2) := by decide +kernel
theorem dX4_fewestOthers_91 : decode cX4_fewestOthers 91 = .ok (.iinc 6 1, 3) := by decide +kernel
theorem dX4_fewestOthers_94 : decode cX4_fewestOthers 94 = .ok (.iinc 7 1, 3) := by decide +kernel
theorem dX4_fewestOthers_97 : decode cX4_fewestOthers 97 = .ok (.goto (-55), 3) := by decide +kernel
theorem dX4_fewestOthers_100 : decode cX4_fewestOthers 100 = .ok (.iload 6, 2) := by decide +kernel
theorem dX4_fewestOthers_102 : decode cX4_fewestOthers 102 = .ok (.ireturn, 1) := by decide +kernel
theorem dX4_floodedOver_0 : decode cX4_floodedOver 0 = .ok (.iload_n 1, 1) := by decide +kernel
theorem dX4_floodedOver_1 : decode cX4_floodedOver 1 = .ok (.istore_n 2, 1) := by decide +kernel
theorem dX4_floodedOver_2 : decode cX4_floodedOver 2 = .ok (.iconst 0, 1) := by decide +kernel
theorem dX4_floodedOver_3 : decode cX4_floodedOver 3 = .ok (.istore_n 3, 1) := by decide +kernel
theorem dX4_floodedOver_4 : decode cX4_floodedOver 4 = .ok (.iload_n 3, 1) := by decide +kernel
theorem dX4_floodedOver_5 : decode cX4_floodedOver 5 = .ok (.bipush 20, 2) := by decide +kernel
theorem dX4_floodedOver_7 : decode cX4_floodedOver 7 = .ok (.if_icmp .ge 18, 3) := by decide +kernel
theorem dX4_floodedOver_10 : decode cX4_floodedOver 10 = .ok (.iload_n 2, 1) := by decide +kernel
theorem dX4_floodedOver_11 : decode cX4_floodedOver 11 = .ok (.iload_n 2, 1) := by decide +kernel
theorem dX4_floodedOver_12 : decode cX4_floodedOver 12 = .ok (.invokestatic 84, 3) := by decide +kernel
theorem dX4_floodedOver_15 : decode cX4_floodedOver 15 = .ok (.iload_n 0, 1) := by decide +kernel
theorem dX4_floodedOver_16 : decode cX4_floodedOver 16 = .ok (.iand, 1) := by decide +kernel
theorem dX4_floodedOver_17 : decode cX4_floodedOver 17 = .ok (.ior, 1) := by decide +kernel
theorem dX4_floodedOver_18 : decode cX4_floodedOver 18 = .ok (.istore_n 2, 1) := by decide +kernel
theorem dX4_floodedOver_19 : decode cX4_floodedOver 19 = .ok (.iinc 3 1, 3) := by decide +kernel
theorem dX4_floodedOver_22 : decode cX4_floodedOver 22 = .ok (.goto (-18), 3) := by decide +kernel
theorem dX4_floodedOver_25 : decode cX4_floodedOver 25 = .ok (.iload_n 2, 1) := by decide +kernel
theorem dX4_floodedOver_26 : decode cX4_floodedOver 26 = .ok (.ireturn, 1) := by decide +kernel
theorem dX4_bestCloth_0 : decode cX4_bestCloth 0 = .ok (.bipush (-9), 2) := by decide +kernel
theorem dX4_bestCloth_2 : decode cX4_bestCloth 2 = .ok (.istore_n 2, 1) := by decide +kernel
theorem dX4_bestCloth_3 : decode cX4_bestCloth 3 = .ok (.iconst (-1), 1) := by decide +kernel
theorem dX4_bestCloth_4 : decode cX4_bestCloth 4 = .ok (.istore_n 3, 1) := by decide +kernel
theorem dX4_bestCloth_5 : decode cX4_bestCloth 5 = .ok (.iconst 0, 1) := by decide +kernel
theorem dX4_bestCloth_6 : decode cX4_bestCloth 6 = .ok (.istore 4, 2) := by decide +kernel
theorem dX4_bestCloth_8 : decode cX4_bestCloth 8 = .ok (.iload 4, 2) := by decide +kernel
theorem dX4_bestCloth_10 : decode cX4_bestCloth 10 = .ok (.bipush 20, 2) := by decide +kernel
theorem dX4_bestCloth_12 : decode cX4_bestCloth 12 = .ok (.if_icmp .ge 51, 3) := by decide +kernel
theorem dX4_bestCloth_15 : decode cX4_bestCloth 15 = .ok (.iconst 1, 1) := by decide +kernel
theorem dX4_bestCloth_16 : decode cX4_bestCloth 16 = .ok (.iload 4, 2) := by decide +kernel
theorem dX4_bestCloth_18 : decode cX4_bestCloth 18 = .ok (.ishl, 1) := by decide +kernel
theorem dX4_bestCloth_19 : decode cX4_bestCloth 19 = .ok (.istore 5, 2) := by decide +kernel
theorem dX4_bestCloth_21 : decode cX4_bestCloth 21 = .ok (.aload_n 0, 1) := by decide +kernel
theorem dX4_bestCloth_22 : decode cX4_bestCloth 22 = .ok (.iload_n 1, 1) := by decide +kernel
theorem dX4_bestCloth_23 : decode cX4_bestCloth 23 = .ok (.aload_n 0, 1) := by decide +kernel
theorem dX4_bestCloth_24 : decode cX4_bestCloth 24 = .ok (.getfield 22, 3) := by decide +kernel
theorem dX4_bestCloth_27 : decode cX4_bestCloth 27 = .ok (.iload 5, 2) := by decide +kernel
theorem dX4_bestCloth_29 : decode cX4_bestCloth 29 = .ok (.ior, 1) := by decide +kernel
theorem dX4_bestCloth_30 : decode cX4_bestCloth 30 = .ok (.invokevirtual 63, 3) := by decide +kernel
theorem dX4_bestCloth_33 : decode cX4_bestCloth 33 = .ok (.istore 6, 2) := by decide +kernel
theorem dX4_bestCloth_35 : decode cX4_bestCloth 35 = .ok (.aload_n 0, 1) := by decide +kernel
theorem dX4_bestCloth_36 : decode cX4_bestCloth 36 = .ok (.invokevirtual 87, 3) := by decide +kernel
theorem dX4_bestCloth_39 : decode cX4_bestCloth 39 = .ok (.iload 5, 2) := by decide +kernel
theorem dX4_bestCloth_41 : decode cX4_bestCloth 41 = .ok (.iand, 1) := by decide +kernel
theorem dX4_bestCloth_42 : decode cX4_bestCloth 42 = .ok (.ifCond .eq 15, 3) := by decide +kernel
theorem dX4_bestCloth_45 : decode cX4_bestCloth 45 = .ok (.iload 6, 2) := by decide +kernel
theorem dX4_bestCloth_47 : decode cX4_bestCloth 47 = .ok (.iload_n 3, 1) := by decide +kernel
theorem dX4_bestCloth_48 : decode cX4_bestCloth 48 = .ok (.if_icmp .le 9, 3) := by decide +kernel
theorem dX4_bestCloth_51 : decode cX4_bestCloth 51 = .ok (.iload 4, 2) := by decide +kernel
theorem dX4_bestCloth_53 : decode cX4_bestCloth 53 = .ok (.istore_n 2, 1) := by decide +kernel
theorem dX4_bestCloth_54 : decode cX4_bestCloth 54 = .ok (.iload 6, 2) := by decide +kernel
theorem dX4_bestCloth_56 : decode cX4_bestCloth 56 = .ok (.istore_n 3, 1) := by decide +kernel
theorem dX4_bestCloth_57 : decode cX4_bestCloth 57 = .ok (.iinc 4 1, 3) := by decide +kernel
theorem dX4_bestCloth_60 : decode cX4_bestCloth 60 = .ok (.goto (-52), 3) := by decide +kernel
theorem dX4_bestCloth_63 : decode cX4_bestCloth 63 = .ok (.iload_n 2, 1) := by decide +kernel
theorem dX4_bestCloth_64 : decode cX4_bestCloth 64 = .ok (.ireturn, 1) := by decide +kernel
theorem dX4_cellsBeside_0 : decode cX4_cellsBeside 0 = .ok (.iload_n 1, 1) := by decide +kernel
theorem dX4_cellsBeside_1 : decode cX4_cellsBeside 1 = .ok (.invokestatic 84, 3) := by decide +kernel
theorem dX4_cellsBeside_4 : decode cX4_cellsBeside 4 = .ok (.aload_n 0, 1) := by decide +kernel
theorem dX4_cellsBeside_5 : decode cX4_cellsBeside 5 = .ok (.iconst 0, 1) := by decide +kernel
theorem dX4_cellsBeside_6 : decode cX4_cellsBeside 6 = .ok (.invokevirtual 43, 3) := by decide +kernel
theorem dX4_cellsBeside_9 : decode cX4_cellsBeside 9 = .ok (.iand, 1) := by decide +kernel
theorem dX4_cellsBeside_10 : decode cX4_cellsBeside 10 = .ok (.invokestatic 66, 3) := by decide +kernel
theorem dX4_cellsBeside_13 : decode cX4_cellsBeside 13 = .ok (.ireturn, 1) := by decide +kernel
theorem dX4_rightOf_0 : decode cX4_rightOf 0 = .ok (.iload_n 0, 1) := by decide +kernel
theorem dX4_rightOf_1 : decode cX4_rightOf 1 = .ok (.ldc 90, 2) := by decide +kernel
theorem dX4_rightOf_3 : decode cX4_rightOf 3 = .ok (.iand, 1) := by decide +kernel
theorem dX4_rightOf_4 : decode cX4_rightOf 4 = .ok (.iconst 1, 1) := by decide +kernel
theorem dX4_rightOf_5 : decode cX4_rightOf 5 = .ok (.ishl, 1) := by decide +kernel
theorem dX4_rightOf_6 : decode cX4_rightOf 6 = .ok (.ireturn, 1) := by decide +kernel
theorem dX4_leftOf_0 : decode cX4_leftOf 0 = .ok (.iload_n 0, 1) := by decide +kernel
theorem dX4_leftOf_1 : decode cX4_leftOf 1 = .ok (.ldc 91, 2) := by decide +kernel
theorem dX4_leftOf_3 : decode cX4_leftOf 3 = .ok (.iand, 1) := by decide +kernel
theorem dX4_leftOf_4 : decode cX4_leftOf 4 = .ok (.iconst 1, 1) := by decide +kernel
theorem dX4_leftOf_5 : decode cX4_leftOf 5 = .ok (.iushr, 1) := by decide +kernel
theorem dX4_leftOf_6 : decode cX4_leftOf 6 = .ok (.ireturn, 1) := by decide +kernel
theorem dX4_besideAny_0 : decode cX4_besideAny 0 = .ok (.iload_n 0, 1) := by decide +kernel
theorem dX4_besideAny_1 : decode cX4_besideAny 1 = .ok (.invokestatic 57, 3) := by decide +kernel
theorem dX4_besideAny_4 : decode cX4_besideAny 4 = .ok (.iload_n 0, 1) := by decide +kernel
theorem dX4_besideAny_5 : decode cX4_besideAny 5 = .ok (.invokestatic 60, 3) := by decide +kernel
theorem dX4_besideAny_8 : decode cX4_besideAny 8 = .ok (.ior, 1) := by decide +kernel
theorem dX4_besideAny_9 : decode cX4_besideAny 9 = .ok (.iload_n 0, 1) := by decide +kernel
theorem dX4_besideAny_10 : decode cX4_besideAny 10 = .ok (.iconst 5, 1) := by decide +kernel
theorem dX4_besideAny_11 : decode cX4_besideAny 11 = .ok (.ishl, 1) := by decide +kernel
theorem dX4_besideAny_12 : decode cX4_besideAny 12 = .ok (.ior, 1) := by decide +kernel
theorem dX4_besideAny_13 : decode cX4_besideAny 13 = .ok (.iload_n 0, 1) := by decide +kernel
theorem dX4_besideAny_14 : decode cX4_besideAny 14 = .ok (.iconst 5, 1) := by decide +kernel
theorem dX4_besideAny_15 : decode cX4_besideAny 15 = .ok (.iushr, 1) := by decide +kernel
theorem dX4_besideAny_16 : decode cX4_besideAny 16 = .ok (.ior, 1) := by decide +kernel
theorem dX4_besideAny_17 : decode cX4_besideAny 17 = .ok (.ireturn, 1) := by decide +kernel
theorem dX4_twosIn_0 : decode cX4_twosIn 0 = .ok (.iload_n 0, 1) := by decide +kernel
theorem dX4_twosIn_1 : decode cX4_twosIn 1 = .ok (.iload_n 0, 1) := by decide +kernel
theorem dX4_twosIn_2 : decode cX4_twosIn 2 = .ok (.invokestatic 60, 3) := by decide +kernel
theorem dX4_twosIn_5 : decode cX4_twosIn 5 = .ok (.iand, 1) := by decide +kernel
theorem dX4_twosIn_6 : decode cX4_twosIn 6 = .ok (.invokestatic 66, 3) := by decide +kernel
theorem dX4_twosIn_9 : decode cX4_twosIn 9 = .ok (.iload_n 0, 1) := by decide +kernel
theorem dX4_twosIn_10 : decode cX4_twosIn 10 = .ok (.iload_n 0, 1) := by decide +kernel
theorem dX4_twosIn_11 : decode cX4_twosIn 11 = .ok (.iconst 5, 1) := by decide +kernel
theorem dX4_twosIn_12 : decode cX4_twosIn 12 = .ok (.iushr, 1) := by decide +kernel
theorem dX4_twosIn_13 : decode cX4_twosIn 13 = .ok (.iand, 1) := by decide +kernel
theorem dX4_twosIn_14 : decode cX4_twosIn 14 = .ok (.invokestatic 66, 3) := by decide +kernel
theorem dX4_twosIn_17 : decode cX4_twosIn 17 = .ok (.iadd, 1) := by decide +kernel
theorem dX4_twosIn_18 : decode cX4_twosIn 18 = .ok (.ireturn, 1) := by decide +kernel
theorem dX5_init_0 : decode cX5_init 0 = .ok (.aload_n 0, 1) := by decide +kernel
theorem dX5_init_1 : decode cX5_init 1 = .ok (.invokespecial 3, 3) := by decide +kernel
theorem dX5_init_4 : decode cX5_init 4 = .ok (.aload_n 0, 1) := by decide +kernel
theorem dX5_init_5 : decode cX5_init 5 = .ok (.sipush 150, 3) := by decide +kernel
theorem dX5_init_8 : decode cX5_init 8 = .ok (.newarray .int, 2) := by decide +kernel
theorem dX5_init_10 : decode cX5_init 10 = .ok (.putfield 9, 3) := by decide +kernel
theorem dX5_init_13 : decode cX5_init 13 = .ok (.return_, 1) := by decide +kernel
theorem dX5_append_0 : decode cX5_append 0 = .ok (.aload_n 0, 1) := by decide +kernel
theorem dX5_append_1 : decode cX5_append 1 = .ok (.getfield 15, 3) := by decide +kernel
theorem dX5_append_4 : decode cX5_append 4 = .ok (.ifCond .lt 15, 3) := by decide +kernel
theorem dX5_append_7 : decode cX5_append 7 = .ok (.aload_n 0, 1) := by decide +kernel
theorem dX5_append_8 : decode cX5_append 8 = .ok (.getfield 15, 3) := by decide +kernel
theorem dX5_append_11 : decode cX5_append 11 = .ok (.aload_n 0, 1) := by decide +kernel
theorem dX5_append_12 : decode cX5_append 12 = .ok (.getfield 9, 3) := by decide +kernel
theorem dX5_append_15 : decode cX5_append 15 = .ok (.arraylength, 1) := by decide +kernel
theorem dX5_append_16 : decode cX5_append 16 = .ok (.if_icmp .lt 5, 3) := by decide +kernel
theorem dX5_append_19 : decode cX5_append 19 = .ok (.iconst 0, 1) := by decide +kernel
theorem dX5_append_20 : decode cX5_append 20 = .ok (.ireturn, 1) := by decide +kernel
theorem dX5_append_21 : decode cX5_append 21 = .ok (.aload_n 0, 1) := by decide +kernel
theorem dX5_append_22 : decode cX5_append 22 = .ok (.getfield 9, 3) := by decide +kernel
theorem dX5_append_25 : decode cX5_append 25 = .ok (.aload_n 0, 1) := by decide +kernel
theorem dX5_append_26 : decode cX5_append 26 = .ok (.getfield 15, 3) := by decide +kernel
theorem dX5_append_29 : decode cX5_append 29 = .ok (.iload_n 1, 1) := by decide +kernel
theorem dX5_append_30 : decode cX5_append 30 = .ok (.iastore, 1) := by decide +kernel
theorem dX5_append_31 : decode cX5_append 31 = .ok (.aload_n 0, 1) := by decide +kernel
theorem dX5_append_32 : decode cX5_append 32 = .ok (.dup, 1) := by decide +kernel
theorem dX5_append_33 : decode cX5_append 33 = .ok (.getfield 15, 3) := by decide +kernel
theorem dX5_append_36 : decode cX5_append 36 = .ok (.iconst 1, 1) := by decide +kernel
theorem dX5_append_37 : decode cX5_append 37 = .ok (.iadd, 1) := by decide +kernel
theorem dX5_append_38 : decode cX5_append 38 = .ok (.putfield 15, 3) := by decide +kernel
theorem dX5_append_41 : decode cX5_append 41 = .ok (.iconst 1, 1) := by decide +kernel
theorem dX5_append_42 : decode cX5_append 42 = .ok (.ireturn, 1) := by decide +kernel
theorem dX5_byteAt_0 : decode cX5_byteAt 0 = .ok (.iload_n 1, 1) := by decide +kernel
theorem dX5_byteAt_1 : decode cX5_byteAt 1 = .ok (.ifCond .lt 29, 3) := by decide +kernel
theorem dX5_byteAt_4 : decode cX5_byteAt 4 = .ok (.iload_n 1, 1) := by decide +kernel
theorem dX5_byteAt_5 : decode cX5_byteAt 5 = .ok (.aload_n 0, 1) := by decide +kernel
theorem dX5_byteAt_6 : decode cX5_byteAt 6 = .ok (.getfield 15, 3) := by decide +kernel
theorem dX5_byteAt_9 : decode cX5_byteAt 9 = .ok (.if_icmp .ge 21, 3) := by decide +kernel
theorem dX5_byteAt_12 : decode cX5_byteAt 12 = .ok (.iload_n 1, 1) := by decide +kernel
theorem dX5_byteAt_13 : decode cX5_byteAt 13 = .ok (.aload_n 0, 1) := by decide +kernel
theorem dX5_byteAt_14 : decode cX5_byteAt 14 = .ok (.getfield 9, 3) := by decide +kernel
theorem dX5_byteAt_17 : decode cX5_byteAt 17 = .ok (.arraylength, 1) := by decide +kernel
theorem dX5_byteAt_18 : decode cX5_byteAt 18 = .ok (.if_icmp .ge 12, 3) := by decide +kernel
theorem dX5_byteAt_21 : decode cX5_byteAt 21 = .ok (.aload_n 0, 1) := by decide +kernel
theorem dX5_byteAt_22 : decode cX5_byteAt 22 = .ok (.getfield 9, 3) := by decide +kernel
theorem dX5_byteAt_25 : decode cX5_byteAt 25 = .ok (.iload_n 1, 1) := by decide +kernel
theorem dX5_byteAt_26 : decode cX5_byteAt 26 = .ok (.iaload, 1) := by decide +kernel
theorem dX5_byteAt_27 : decode cX5_byteAt 27 = .ok (.goto 4, 3) := by decide +kernel
theorem dX5_byteAt_30 : decode cX5_byteAt 30 = .ok (.iconst (-1), 1) := by decide +kernel
theorem dX5_byteAt_31 : decode cX5_byteAt 31 = .ok (.ireturn, 1) := by decide +kernel
theorem dX6_init_0 : decode cX6_init 0 = .ok (.aload_n 0, 1) := by decide +kernel
theorem dX6_init_1 : decode cX6_init 1 = .ok (.invokespecial 3, 3) := by decide +kernel
theorem dX6_init_4 : decode cX6_init 4 = .ok (.aload_n 0, 1) := by decide +kernel
theorem dX6_init_5 : decode cX6_init 5 = .ok (.new 9, 3) := by decide +kernel
theorem dX6_init_8 : decode cX6_init 8 = .ok (.dup, 1) := by decide +kernel
theorem dX6_init_9 : decode cX6_init 9 = .ok (.invokespecial 11, 3) := by decide +kernel
theorem dX6_init_12 : decode cX6_init 12 = .ok (.putfield 12, 3) := by decide +kernel
theorem dX6_init_15 : decode cX6_init 15 = .ok (.aload_n 0, 1) := by decide +kernel
theorem dX6_init_16 : decode cX6_init 16 = .ok (.aload_n 0, 1) := by decide +kernel
theorem dX6_init_17 : decode cX6_init 17 = .ok (.getfield 12, 3) := by decide +kernel
theorem dX6_init_20 : decode cX6_init 20 = .ok (.getfield 16, 3) := by decide +kernel
theorem dX6_init_23 : decode cX6_init 23 = .ok (.putfield 20, 3) := by decide +kernel
theorem dX6_init_26 : decode cX6_init 26 = .ok (.aload_n 0, 1) := by decide +kernel
theorem dX6_init_27 : decode cX6_init 27 = .ok (.new 21, 3) := by decide +kernel
theorem dX6_init_30 : decode cX6_init 30 = .ok (.dup, 1) := by decide +kernel
theorem dX6_init_31 : decode cX6_init 31 = .ok (.invokespecial 23, 3) := by decide +kernel
theorem dX6_init_34 : decode cX6_init 34 = .ok (.putfield 24, 3) := by decide +kernel
theorem dX6_init_37 : decode cX6_init 37 = .ok (.aload_n 0, 1) := by decide +kernel
theorem dX6_init_38 : decode cX6_init 38 = .ok (.aload_n 0, 1) := by decide +kernel
theorem dX6_init_39 : decode cX6_init 39 = .ok (.getfield 24, 3) := by decide +kernel
theorem dX6_init_42 : decode cX6_init 42 = .ok (.getfield 28, 3) := by decide +kernel
theorem dX6_init_45 : decode cX6_init 45 = .ok (.putfield 32, 3) := by decide +kernel
theorem dX6_init_48 : decode cX6_init 48 = .ok (.aload_n 0, 1) := by decide +kernel
theorem dX6_init_49 : decode cX6_init 49 = .ok (.new 21, 3) := by decide +kernel
theorem dX6_init_52 : decode cX6_init 52 = .ok (.dup, 1) := by decide +kernel
theorem dX6_init_53 : decode cX6_init 53 = .ok (.invokespecial 23, 3) := by decide +kernel
theorem dX6_init_56 : decode cX6_init 56 = .ok (.putfield 35, 3) := by decide +kernel
theorem dX6_init_59 : decode cX6_init 59 = .ok (.aload_n 0, 1) := by decide +kernel
theorem dX6_init_60 : decode cX6_init 60 = .ok (.new 21, 3) := by decide +kernel
theorem dX6_init_63 : decode cX6_init 63 = .ok (.dup, 1) := by decide +kernel
theorem dX6_init_64 : decode cX6_init 64 = .ok (.invokespecial 23, 3) := by decide +kernel
theorem dX6_init_67 : decode cX6_init 67 = .ok (.putfield 38, 3) := by decide +kernel
theorem dX6_init_70 : decode cX6_init 70 = .ok (.aload_n 0, 1) := by decide +kernel
theorem dX6_init_71 : decode cX6_init 71 = .ok (.new 41, 3) := by decide +kernel
theorem dX6_init_74 : decode cX6_init 74 = .ok (.dup, 1) := by decide +kernel
theorem dX6_init_75 : decode cX6_init 75 = .ok (.invokespecial 43, 3) := by decide +kernel
theorem dX6_init_78 : decode cX6_init 78 = .ok (.putfield 44, 3) := by decide +kernel
theorem dX6_init_81 : decode cX6_init 81 = .ok (.aload_n 0, 1) := by decide +kernel
theorem dX6_init_82 : decode cX6_init 82 = .ok (.new 48, 3) := by decide +kernel
theorem dX6_init_85 : decode cX6_init 85 = .ok (.dup, 1) := by decide +kernel
theorem dX6_init_86 : decode cX6_init 86 = .ok (.invokespecial 50, 3) := by decide +kernel
theorem dX6_init_89 : decode cX6_init 89 = .ok (.putfield 51, 3) := by decide +kernel
theorem dX6_init_92 : decode cX6_init 92 = .ok (.return_, 1) := by decide +kernel
theorem dX6_type_0 : decode cX6_type 0 = .ok (.iload_n 1, 1) := by decide +kernel
theorem dX6_type_1 : decode cX6_type 1 = .ok (.sipush 255, 3) := by decide +kernel
theorem dX6_type_4 : decode cX6_type 4 = .ok (.invokestatic 55, 3) := by decide +kernel
theorem dX6_type_7 : decode cX6_type 7 = .ok (.ifCond .ne 5, 3) := by decide +kernel
theorem dX6_type_10 : decode cX6_type 10 = .ok (.iconst (-1), 1) := by decide +kernel
theorem dX6_type_11 : decode cX6_type 11 = .ok (.ireturn, 1) := by decide +kernel
theorem dX6_type_12 : decode cX6_type 12 = .ok (.aload_n 0, 1) := by decide +kernel
theorem dX6_type_13 : decode cX6_type 13 = .ok (.getfield 20, 3) := by decide +kernel
theorem dX6_type_16 : decode cX6_type 16 = .ok (.iload_n 1, 1) := by decide +kernel
theorem dX6_type_17 : decode cX6_type 17 = .ok (.invokevirtual 59, 3) := by decide +kernel
theorem dX6_type_20 : decode cX6_type 20 = .ok (.ifCond .eq 13, 3) := by decide +kernel
theorem dX6_type_23 : decode cX6_type 23 = .ok (.aload_n 0, 1) := by decide +kernel
theorem dX6_type_24 : decode cX6_type 24 = .ok (.getfield 20, 3) := by decide +kernel
theorem dX6_type_27 : decode cX6_type 27 = .ok (.getfield 65, 3) := by decide +kernel
theorem dX6_type_30 : decode cX6_type 30 = .ok (.goto 5, 3) := by decide +kernel
theorem dX6_type_33 : decode cX6_type 33 = .ok (.bipush (-3), 2) := by decide +kernel
theorem dX6_type_35 : decode cX6_type 35 = .ok (.ireturn, 1) := by decide +kernel
theorem dX6_clear_0 : decode cX6_clear 0 = .ok (.aload_n 0, 1) := by decide +kernel
theorem dX6_clear_1 : decode cX6_clear 1 = .ok (.getfield 20, 3) := by decide +kernel
theorem dX6_clear_4 : decode cX6_clear 4 = .ok (.getfield 65, 3) := by decide +kernel
theorem dX6_clear_7 : decode cX6_clear 7 = .ok (.istore_n 1, 1) := by decide +kernel
theorem dX6_clear_8 : decode cX6_clear 8 = .ok (.aload_n 0, 1) := by decide +kernel
theorem dX6_clear_9 : decode cX6_clear 9 = .ok (.getfield 20, 3) := by decide +kernel
theorem dX6_clear_12 : decode cX6_clear 12 = .ok (.iconst 0, 1) := by decide +kernel
theorem dX6_clear_13 : decode cX6_clear 13 = .ok (.putfield 65, 3) := by decide +kernel
theorem dX6_clear_16 : decode cX6_clear 16 = .ok (.iload_n 1, 1) := by decide +kernel
theorem dX6_clear_17 : decode cX6_clear 17 = .ok (.ireturn, 1) := by decide +kernel
theorem dX6_strand_0 : decode cX6_strand 0 = .ok (.aload_n 0, 1) := by decide +kernel
theorem dX6_strand_1 : decode cX6_strand 1 = .ok (.getfield 12, 3) := by decide +kernel
theorem dX6_strand_4 : decode cX6_strand 4 = .ok (.invokevirtual 69, 3) := by decide +kernel
theorem dX6_strand_7 : decode cX6_strand 7 = .ok (.istore_n 1, 1) := by decide +kernel
theorem dX6_strand_8 : decode cX6_strand 8 = .ok (.iload_n 1, 1) := by decide +kernel
theorem dX6_strand_9 : decode cX6_strand 9 = .ok (.ifCond .lt 56, 3) := by decide +kernel
theorem dX6_strand_12 : decode cX6_strand 12 = .ok (.aload_n 0, 1) := by decide +kernel
theorem dX6_strand_13 : decode cX6_strand 13 = .ok (.getfield 32, 3) := by decide +kernel
theorem dX6_strand_16 : decode cX6_strand 16 = .ok (.aload_n 0, 1) := by decide +kernel
theorem dX6_strand_17 : decode cX6_strand 17 = .ok (.getfield 12, 3) := by decide +kernel
theorem dX6_strand_20 : decode cX6_strand 20 = .ok (.getfield 73, 3) := by decide +kernel
theorem dX6_strand_23 : decode cX6_strand 23 = .ok (.invokevirtual 76, 3) := by decide +kernel
theorem dX6_strand_26 : decode cX6_strand 26 = .ok (.aload_n 0, 1) := by decide +kernel
theorem dX6_strand_27 : decode cX6_strand 27 = .ok (.getfield 24, 3) := by decide +kernel
theorem dX6_strand_30 : decode cX6_strand 30 = .ok (.iconst 0, 1) := by decide +kernel
theorem dX6_strand_31 : decode cX6_strand 31 = .ok (.putfield 82, 3) := by decide +kernel
theorem dX6_strand_34 : decode cX6_strand 34 = .ok (.aload_n 0, 1) := by decide +kernel
theorem dX6_strand_35 : decode cX6_strand 35 = .ok (.getfield 35, 3) := by decide +kernel
theorem dX6_strand_38 : decode cX6_strand 38 = .ok (.iconst 0, 1) := by decide +kernel
theorem dX6_strand_39 : decode cX6_strand 39 = .ok (.putfield 85, 3) := by decide +kernel
theorem dX6_strand_42 : decode cX6_strand 42 = .ok (.aload_n 0, 1) := by decide +kernel
theorem dX6_strand_43 : decode cX6_strand 43 = .ok (.getfield 38, 3) := by decide +kernel
theorem dX6_strand_46 : decode cX6_strand 46 = .ok (.iconst 0, 1) := by decide +kernel
theorem dX6_strand_47 : decode cX6_strand 47 = .ok (.putfield 85, 3) := by decide +kernel
theorem dX6_strand_50 : decode cX6_strand 50 = .ok (.aload_n 0, 1) := by decide +kernel
theorem dX6_strand_51 : decode cX6_strand 51 = .ok (.getfield 44, 3) := by decide +kernel
theorem dX6_strand_54 : decode cX6_strand 54 = .ok (.invokevirtual 89, 3) := by decide +kernel
theorem dX6_strand_57 : decode cX6_strand 57 = .ok (.aload_n 0, 1) := by decide +kernel
theorem dX6_strand_58 : decode cX6_strand 58 = .ok (.getfield 20, 3) := by decide +kernel
theorem dX6_strand_61 : decode cX6_strand 61 = .ok (.iconst 0, 1) := by decide +kernel
theorem dX6_strand_62 : decode cX6_strand 62 = .ok (.putfield 65, 3) := by decide +kernel
theorem dX6_strand_65 : decode cX6_strand 65 = .ok (.iload_n 1, 1) := by decide +kernel
theorem dX6_strand_66 : decode cX6_strand 66 = .ok (.ireturn, 1) := by decide +kernel
theorem dX6_cell_0 : decode cX6_cell 0 = .ok (.aload_n 0, 1) := by decide +kernel
theorem dX6_cell_1 : decode cX6_cell 1 = .ok (.getfield 32, 3) := by decide +kernel
theorem dX6_cell_4 : decode cX6_cell 4 = .ok (.iload_n 1, 1) := by decide +kernel
theorem dX6_cell_5 : decode cX6_cell 5 = .ok (.iload_n 2, 1) := by decide +kernel
theorem dX6_cell_6 : decode cX6_cell 6 = .ok (.invokevirtual 92, 3) := by decide +kernel
theorem dX6_cell_9 : decode cX6_cell 9 = .ok (.ifCond .ne 5, 3) := by decide +kernel
theorem dX6_cell_12 : decode cX6_cell 12 = .ok (.iconst (-1), 1) := by decide +kernel
theorem dX6_cell_13 : decode cX6_cell 13 = .ok (.ireturn, 1) := by decide +kernel
theorem dX6_cell_14 : decode cX6_cell 14 = .ok (.iload_n 1, 1) := by decide +kernel
theorem dX6_cell_15 : decode cX6_cell 15 = .ok (.iload_n 2, 1) := by decide +kernel
theorem dX6_cell_16 : decode cX6_cell 16 = .ok (.invokestatic 95, 3) := by decide +kernel
theorem dX6_cell_19 : decode cX6_cell 19 = .ok (.istore 4, 2) := by decide +kernel
theorem dX6_cell_21 : decode cX6_cell 21 = .ok (.iload_n 3, 1) := by decide +kernel
theorem dX6_cell_22 : decode cX6_cell 22 = .ok (.tableswitch 134 0 4 #[34, 44, 66, 88, 111], 34) := by decide +kernel
theorem dX6_cell_56 : decode cX6_cell 56 = .ok (.aload_n 0, 1) := by decide +kernel
theorem dX6_cell_57 : decode cX6_cell 57 = .ok (.getfield 32, 3) := by decide +kernel
theorem dX6_cell_60 : decode cX6_cell 60 = .ok (.iload 4, 2) := by decide +kernel
theorem dX6_cell_62 : decode cX6_cell 62 = .ok (.invokevirtual 99, 3) := by decide +kernel
theorem dX6_cell_65 : decode cX6_cell 65 = .ok (.ireturn, 1) := by decide +kernel
theorem dX6_cell_66 : decode cX6_cell 66 = .ok (.aload_n 0, 1) := by decide +kernel
theorem dX6_cell_67 : decode cX6_cell 67 = .ok (.getfield 32, 3) := by decide +kernel
theorem dX6_cell_70 : decode cX6_cell 70 = .ok (.getfield 103, 3) := by decide +kernel
theorem dX6_cell_73 : decode cX6_cell 73 = .ok (.iload 4, 2) := by decide +kernel
theorem dX6_cell_75 : decode cX6_cell 75 = .ok (.iand, 1) := by decide +kernel
theorem dX6_cell_76 : decode cX6_cell 76 = .ok (.ifCond .eq 7, 3) := by decide +kernel
theorem dX6_cell_79 : decode cX6_cell 79 = .ok (.iconst 1, 1) := by decide +kernel
theorem dX6_cell_80 : decode cX6_cell 80 = .ok (.goto 4, 3) := by decide +kernel
theorem dX6_cell_83 : decode cX6_cell 83 = .ok (.iconst 0, 1) := by decide +kernel
theorem dX6_cell_84 : decode cX6_cell 84 = .ok (.invokestatic 106, 3) := by decide +kernel
theorem dX6_cell_87 : decode cX6_cell 87 = .ok (.ireturn, 1) := by decide +kernel
theorem dX6_cell_88 : decode cX6_cell 88 = .ok (.aload_n 0, 1) := by decide +kernel
theorem dX6_cell_89 : decode cX6_cell 89 = .ok (.getfield 32, 3) := by decide +kernel
theorem dX6_cell_92 : decode cX6_cell 92 = .ok (.invokevirtual 110, 3) := by decide +kernel
theorem dX6_cell_95 : decode cX6_cell 95 = .ok (.iload 4, 2) := by decide +kernel
theorem dX6_cell_97 : decode cX6_cell 97 = .ok (.iand, 1) := by decide +kernel
theorem dX6_cell_98 : decode cX6_cell 98 = .ok (.ifCond .eq 7, 3) := by decide +kernel
theorem dX6_cell_101 : decode cX6_cell 101 = .ok (.iconst 1, 1) := by decide +kernel
theorem dX6_cell_102 : decode cX6_cell 102 = .ok (.goto 4, 3) := by decide +kernel
theorem dX6_cell_105 : decode cX6_cell 105 = .ok (.iconst 0, 1) := by decide +kernel
theorem dX6_cell_106 : decode cX6_cell 106 = .ok (.invokestatic 106, 3) := by decide +kernel
theorem dX6_cell_109 : decode cX6_cell 109 = .ok (.ireturn, 1) := by decide +kernel
theorem dX6_cell_110 : decode cX6_cell 110 = .ok (.aload_n 0, 1) := by decide +kernel
theorem dX6_cell_111 : decode cX6_cell 111 = .ok (.getfield 32, 3) := by decide +kernel
theorem dX6_cell_114 : decode cX6_cell 114 = .ok (.iconst 0, 1) := by decide +kernel
theorem dX6_cell_115 : decode cX6_cell 115 = .ok (.invokevirtual 113, 3) := by decide +kernel
theorem dX6_cell_118 : decode cX6_cell 118 = .ok (.iload 4, 2) := by decide +kernel
theorem dX6_cell_120 : decode cX6_cell 120 = .ok (.iand, 1) := by decide +kernel
theorem dX6_cell_121 : decode cX6_cell 121 = .ok (.ifCond .eq 7, 3) := by decide +kernel
theorem dX6_cell_124 : decode cX6_cell 124 = .ok (.iconst 1, 1) := by decide +kernel
theorem dX6_cell_125 : decode cX6_cell 125 = .ok (.goto 4, 3) := by decide +kernel
theorem dX6_cell_128 : decode cX6_cell 128 = .ok (.iconst 0, 1) := by decide +kernel
theorem dX6_cell_129 : decode cX6_cell 129 = .ok (.invokestatic 106, 3) := by decide +kernel
theorem dX6_cell_132 : decode cX6_cell 132 = .ok (.ireturn, 1) := by decide +kernel
theorem dX6_cell_133 : decode cX6_cell 133 = .ok (.aload_n 0, 1) := by decide +kernel
theorem dX6_cell_134 : decode cX6_cell 134 = .ok (.getfield 32, 3) := by decide +kernel
theorem dX6_cell_137 : decode cX6_cell 137 = .ok (.iconst 1, 1) := by decide +kernel
theorem dX6_cell_138 : decode cX6_cell 138 = .ok (.invokevirtual 113, 3) := by decide +kernel
theorem dX6_cell_141 : decode cX6_cell 141 = .ok (.iload 4, 2) := by decide +kernel
theorem dX6_cell_143 : decode cX6_cell 143 = .ok (.iand, 1) := by decide +kernel
theorem dX6_cell_144 : decode cX6_cell 144 = .ok (.ifCond .eq 7, 3) := by decide +kernel
theorem dX6_cell_147 : decode cX6_cell 147 = .ok (.iconst 1, 1) := by decide +kernel
theorem dX6_cell_148 : decode cX6_cell 148 = .ok (.goto 4, 3) := by decide +kernel
theorem dX6_cell_151 : decode cX6_cell 151 = .ok (.iconst 0, 1) := by decide +kernel
theorem dX6_cell_152 : decode cX6_cell 152 = .ok (.invokestatic 106, 3) := by decide +kernel
theorem dX6_cell_155 : decode cX6_cell 155 = .ok (.ireturn, 1) := by decide +kernel
theorem dX6_cell_156 : decode cX6_cell 156 = .ok (.iconst (-1), 1) := by decide +kernel
theorem dX6_cell_157 : decode cX6_cell 157 = .ok (.ireturn, 1) := by decide +kernel
theorem dX6_family_0 : decode cX6_family 0 = .ok (.iload_n 1, 1) := by decide +kernel
theorem dX6_family_1 : decode cX6_family 1 = .ok (.invokestatic 116, 3) := by decide +kernel
theorem dX6_family_4 : decode cX6_family 4 = .ok (.ifCond .ne 5, 3) := by decide +kernel
theorem dX6_family_7 : decode cX6_family 7 = .ok (.iconst (-1), 1) := by decide +kernel
theorem dX6_family_8 : decode cX6_family 8 = .ok (.ireturn, 1) := by decide +kernel
theorem dX6_family_9 : decode cX6_family 9 = .ok (.iload_n 2, 1) := by decide +kernel
theorem dX6_family_10 : decode cX6_family 10 = .ok (.tableswitch 53 0 2 #[26, 35, 44], 26) := by decide +kernel
theorem dX6_family_36 : decode cX6_family 36 = .ok (.aload_n 0, 1) := by decide +kernel
theorem dX6_family_37 : decode cX6_family 37 = .ok (.getfield 32, 3) := by decide +kernel
theorem dX6_family_40 : decode cX6_family 40 = .ok (.iload_n 1, 1) := by decide +kernel
theorem dX6_family_41 : decode cX6_family 41 = .ok (.invokevirtual 119, 3) := by decide +kernel
theorem dX6_family_44 : decode cX6_family 44 = .ok (.ireturn, 1) := by decide +kernel
theorem dX6_family_45 : decode cX6_family 45 = .ok (.aload_n 0, 1) := by decide +kernel
theorem dX6_family_46 : decode cX6_family 46 = .ok (.getfield 32, 3) := by decide +kernel
theorem dX6_family_49 : decode cX6_family 49 = .ok (.iload_n 1, 1) := by decide +kernel
theorem dX6_family_50 : decode cX6_family 50 = .ok (.invokevirtual 122, 3) := by decide +kernel
theorem dX6_family_53 : decode cX6_family 53 = .ok (.ireturn, 1) := by decide +kernel
theorem dX6_family_54 : decode cX6_family 54 = .ok (.aload_n 0, 1) := by decide +kernel
theorem dX6_family_55 : decode cX6_family 55 = .ok (.getfield 32, 3) := by decide +kernel
theorem dX6_family_58 : decode cX6_family 58 = .ok (.iload_n 1, 1) := by decide +kernel
theorem dX6_family_59 : decode cX6_family 59 = .ok (.invokevirtual 125, 3) := by decide +kernel
theorem dX6_family_62 : decode cX6_family 62 = .ok (.ireturn, 1) := by decide +kernel
theorem dX6_family_63 : decode cX6_family 63 = .ok (.iconst (-1), 1) := by decide +kernel
theorem dX6_family_64 : decode cX6_family 64 = .ok (.ireturn, 1) := by decide +kernel
theorem dX6_takes_0 : decode cX6_takes 0 = .ok (.iload_n 1, 1) := by decide +kernel
theorem dX6_takes_1 : decode cX6_takes 1 = .ok (.invokestatic 116, 3) := by decide +kernel
theorem dX6_takes_4 : decode cX6_takes 4 = .ok (.ifCond .eq 15, 3) := by decide +kernel
theorem dX6_takes_7 : decode cX6_takes 7 = .ok (.aload_n 0, 1) := by decide +kernel
theorem dX6_takes_8 : decode cX6_takes 8 = .ok (.getfield 32, 3) := by decide +kernel
theorem dX6_takes_11 : decode cX6_takes 11 = .ok (.iload_n 2, 1) := by decide +kernel
theorem dX6_takes_12 : decode cX6_takes 12 = .ok (.iload_n 3, 1) := by decide +kernel
theorem dX6_takes_13 : decode cX6_takes 13 = .ok (.invokevirtual 92, 3) := by decide +kernel
theorem dX6_takes_16 : decode cX6_takes 16 = .ok (.ifCond .ne 5, 3) := by decide +kernel
theorem dX6_takes_19 : decode cX6_takes 19 = .ok (.iconst (-1), 1) := by decide +kernel
theorem dX6_takes_20 : decode cX6_takes 20 = .ok (.ireturn, 1) := by decide +kernel
theorem dX6_takes_21 : decode cX6_takes 21 = .ok (.iload_n 2, 1) := by decide +kernel
theorem dX6_takes_22 : decode cX6_takes 22 = .ok (.iload_n 3, 1) := by decide +kernel
theorem dX6_takes_23 : decode cX6_takes 23 = .ok (.invokestatic 95, 3) := by decide +kernel
theorem dX6_takes_26 : decode cX6_takes 26 = .ok (.istore 4, 2) := by decide +kernel
theorem dX6_takes_28 : decode cX6_takes 28 = .ok (.aload_n 0, 1) := by decide +kernel
theorem dX6_takes_29 : decode cX6_takes 29 = .ok (.getfield 32, 3) := by decide +kernel
theorem dX6_takes_32 : decode cX6_takes 32 = .ok (.invokevirtual 110, 3) := by decide +kernel
theorem dX6_takes_35 : decode cX6_takes 35 = .ok (.iload 4, 2) := by decide +kernel
theorem dX6_takes_37 : decode cX6_takes 37 = .ok (.iand, 1) := by decide +kernel
theorem dX6_takes_38 : decode cX6_takes 38 = .ok (.ifCond .eq 17, 3) := by decide +kernel
theorem dX6_takes_41 : decode cX6_takes 41 = .ok (.aload_n 0, 1) := by decide +kernel
theorem dX6_takes_42 : decode cX6_takes 42 = .ok (.getfield 32, 3) := by decide +kernel
theorem dX6_takes_45 : decode cX6_takes 45 = .ok (.iload 4, 2) := by decide +kernel
theorem dX6_takes_47 : decode cX6_takes 47 = .ok (.invokevirtual 99, 3) := by decide +kernel
theorem dX6_takes_50 : decode cX6_takes 50 = .ok (.bipush (-9), 2) := by decide +kernel
theorem dX6_takes_52 : decode cX6_takes 52 = .ok (.if_icmp .eq 6, 3) := by decide +kernel
theorem dX6_takes_55 : decode cX6_takes 55 = .ok (.bipush (-2), 2) := by decide +kernel
theorem dX6_takes_57 : decode cX6_takes 57 = .ok (.ireturn, 1) := by decide +kernel
theorem dX6_takes_58 : decode cX6_takes 58 = .ok (.aload_n 0, 1) := by decide +kernel
theorem dX6_takes_59 : decode cX6_takes 59 = .ok (.getfield 24, 3) := by decide +kernel
theorem dX6_takes_62 : decode cX6_takes 62 = .ok (.invokevirtual 128, 3) := by decide +kernel
theorem dX6_takes_65 : decode cX6_takes 65 = .ok (.aload_n 0, 1) := by decide +kernel
theorem dX6_takes_66 : decode cX6_takes 66 = .ok (.getfield 32, 3) := by decide +kernel
theorem dX6_takes_69 : decode cX6_takes 69 = .ok (.iload_n 1, 1) := by decide +kernel
theorem dX6_takes_70 : decode cX6_takes 70 = .ok (.iload 4, 2) := by decide +kernel
theorem dX6_takes_72 : decode cX6_takes 72 = .ok (.invokevirtual 131, 3) := by decide +kernel
theorem dX6_takes_75 : decode cX6_takes 75 = .ok (.aload_n 0, 1) := by decide +kernel
theorem dX6_takes_76 : decode cX6_takes 76 = .ok (.getfield 32, 3) := by decide +kernel
theorem dX6_takes_79 : decode cX6_takes 79 = .ok (.iload_n 1, 1) := by decide +kernel
theorem dX6_takes_80 : decode cX6_takes 80 = .ok (.invokevirtual 119, 3) := by decide +kernel
theorem dX6_takes_83 : decode cX6_takes 83 = .ok (.invokestatic 135, 3) := by decide +kernel
theorem dX6_takes_86 : decode cX6_takes 86 = .ok (.ireturn, 1) := by decide +kernel
theorem dX6_leaves_0 : decode cX6_leaves 0 = .ok (.aload_n 0, 1) := by decide +kernel
theorem dX6_leaves_1 : decode cX6_leaves 1 = .ok (.getfield 32, 3) := by decide +kernel
theorem dX6_leaves_4 : decode cX6_leaves 4 = .ok (.iload_n 1, 1) := by decide +kernel
theorem dX6_leaves_5 : decode cX6_leaves 5 = .ok (.iload_n 2, 1) := by decide +kernel
theorem dX6_leaves_6 : decode cX6_leaves 6 = .ok (.invokevirtual 92, 3) := by decide +kernel
theorem dX6_leaves_9 : decode cX6_leaves 9 = .ok (.ifCond .ne 5, 3) := by decide +kernel
theorem dX6_leaves_12 : decode cX6_leaves 12 = .ok (.iconst (-1), 1) := by decide +kernel
theorem dX6_leaves_13 : decode cX6_leaves 13 = .ok (.ireturn, 1) := by decide +kernel
theorem dX6_leaves_14 : decode cX6_leaves 14 = .ok (.iload_n 1, 1) := by decide +kernel
theorem dX6_leaves_15 : decode cX6_leaves 15 = .ok (.iload_n 2, 1) := by decide +kernel
theorem dX6_leaves_16 : decode cX6_leaves 16 = .ok (.invokestatic 95, 3) := by decide +kernel
theorem dX6_leaves_19 : decode cX6_leaves 19 = .ok (.istore_n 3, 1) := by decide +kernel
theorem dX6_leaves_20 : decode cX6_leaves 20 = .ok (.aload_n 0, 1) := by decide +kernel
theorem dX6_leaves_21 : decode cX6_leaves 21 = .ok (.getfield 32, 3) := by decide +kernel
theorem dX6_leaves_24 : decode cX6_leaves 24 = .ok (.iload_n 3, 1) := by decide +kernel
theorem dX6_leaves_25 : decode cX6_leaves 25 = .ok (.invokevirtual 99, 3) := by decide +kernel
theorem dX6_leaves_28 : decode cX6_leaves 28 = .ok (.istore 4, 2) := by decide +kernel
theorem dX6_leaves_30 : decode cX6_leaves 30 = .ok (.iload 4, 2) := by decide +kernel
theorem dX6_leaves_32 : decode cX6_leaves 32 = .ok (.bipush (-9), 2) := by decide +kernel
theorem dX6_leaves_34 : decode cX6_leaves 34 = .ok (.if_icmp .ne 6, 3) := by decide +kernel
theorem dX6_leaves_37 : decode cX6_leaves 37 = .ok (.bipush (-2), 2) := by decide +kernel
theorem dX6_leaves_39 : decode cX6_leaves 39 = .ok (.ireturn, 1) := by decide +kernel
theorem dX6_leaves_40 : decode cX6_leaves 40 = .ok (.aload_n 0, 1) := by decide +kernel
theorem dX6_leaves_41 : decode cX6_leaves 41 = .ok (.getfield 24, 3) := by decide +kernel
theorem dX6_leaves_44 : decode cX6_leaves 44 = .ok (.invokevirtual 128, 3) := by decide +kernel
theorem dX6_leaves_47 : decode cX6_leaves 47 = .ok (.aload_n 0, 1) := by decide +kernel
theorem dX6_leaves_48 : decode cX6_leaves 48 = .ok (.getfield 32, 3) := by decide +kernel
theorem dX6_leaves_51 : decode cX6_leaves 51 = .ok (.iload_n 3, 1) := by decide +kernel
theorem dX6_leaves_52 : decode cX6_leaves 52 = .ok (.iconst (-1), 1) := by decide +kernel
theorem dX6_leaves_53 : decode cX6_leaves 53 = .ok (.ixor, 1) := by decide +kernel
theorem dX6_leaves_54 : decode cX6_leaves 54 = .ok (.invokevirtual 140, 3) := by decide +kernel
theorem dX6_leaves_57 : decode cX6_leaves 57 = .ok (.iload 4, 2) := by decide +kernel
theorem dX6_leaves_59 : decode cX6_leaves 59 = .ok (.ireturn, 1) := by decide +kernel
theorem dX6_puts_0 : decode cX6_puts 0 = .ok (.aload_n 0, 1) := by decide +kernel
theorem dX6_puts_1 : decode cX6_puts 1 = .ok (.getfield 32, 3) := by decide +kernel
theorem dX6_puts_4 : decode cX6_puts 4 = .ok (.iload_n 1, 1) := by decide +kernel
theorem dX6_puts_5 : decode cX6_puts 5 = .ok (.iload_n 2, 1) := by decide +kernel
theorem dX6_puts_6 : decode cX6_puts 6 = .ok (.invokevirtual 92, 3) := by decide +kernel
theorem dX6_puts_9 : decode cX6_puts 9 = .ok (.ifCond .eq 11, 3) := by decide +kernel
theorem dX6_puts_12 : decode cX6_puts 12 = .ok (.iload_n 3, 1) := by decide +kernel
theorem dX6_puts_13 : decode cX6_puts 13 = .ok (.iconst 1, 1) := by decide +kernel
theorem dX6_puts_14 : decode cX6_puts 14 = .ok (.invokestatic 55, 3) := by decide +kernel
theorem dX6_puts_17 : decode cX6_puts 17 = .ok (.ifCond .ne 5, 3) := by decide +kernel
theorem dX6_puts_20 : decode cX6_puts 20 = .ok (.iconst (-1), 1) := by decide +kernel
theorem dX6_puts_21 : decode cX6_puts 21 = .ok (.ireturn, 1) := by decide +kernel
theorem dX6_puts_22 : decode cX6_puts 22 = .ok (.iload_n 1, 1) := by decide +kernel
theorem dX6_puts_23 : decode cX6_puts 23 = .ok (.iload_n 2, 1) := by decide +kernel
theorem dX6_puts_24 : decode cX6_puts 24 = .ok (.invokestatic 95, 3) := by decide +kernel
theorem dX6_puts_27 : decode cX6_puts 27 = .ok (.istore 4, 2) := by decide +kernel
theorem dX6_puts_29 : decode cX6_puts 29 = .ok (.aload_n 0, 1) := by decide +kernel
theorem dX6_puts_30 : decode cX6_puts 30 = .ok (.getfield 32, 3) := by decide +kernel
theorem dX6_puts_33 : decode cX6_puts 33 = .ok (.invokevirtual 110, 3) := by decide +kernel
theorem dX6_puts_36 : decode cX6_puts 36 = .ok (.iload 4, 2) := by decide +kernel
theorem dX6_puts_38 : decode cX6_puts 38 = .ok (.iand, 1) := by decide +kernel
theorem dX6_puts_39 : decode cX6_puts 39 = .ok (.ifCond .eq 28, 3) := by decide +kernel
theorem dX6_puts_42 : decode cX6_puts 42 = .ok (.aload_n 0, 1) := by decide +kernel
theorem dX6_puts_43 : decode cX6_puts 43 = .ok (.getfield 32, 3) := by decide +kernel
theorem dX6_puts_46 : decode cX6_puts 46 = .ok (.getfield 103, 3) := by decide +kernel
theorem dX6_puts_49 : decode cX6_puts 49 = .ok (.iload 4, 2) := by decide +kernel
theorem dX6_puts_51 : decode cX6_puts 51 = .ok (.iand, 1) := by decide +kernel
theorem dX6_puts_52 : decode cX6_puts 52 = .ok (.ifCond .eq 7, 3) := by decide +kernel
theorem dX6_puts_55 : decode cX6_puts 55 = .ok (.iconst 1, 1) := by decide +kernel
theorem dX6_puts_56 : decode cX6_puts 56 = .ok (.goto 4, 3) := by decide +kernel
theorem dX6_puts_59 : decode cX6_puts 59 = .ok (.iconst 0, 1) := by decide +kernel
theorem dX6_puts_60 : decode cX6_puts 60 = .ok (.invokestatic 106, 3) := by decide +kernel
theorem dX6_puts_63 : decode cX6_puts 63 = .ok (.iload_n 3, 1) := by decide +kernel
theorem dX6_puts_64 : decode cX6_puts 64 = .ok (.if_icmp .ne 6, 3) := by decide +kernel
theorem dX6_puts_67 : decode cX6_puts 67 = .ok (.bipush (-2), 2) := by decide +kernel
theorem dX6_puts_69 : decode cX6_puts 69 = .ok (.ireturn, 1) := by decide +kernel
theorem dX6_puts_70 : decode cX6_puts 70 = .ok (.aload_n 0, 1) := by decide +kernel
theorem dX6_puts_71 : decode cX6_puts 71 = .ok (.getfield 24, 3) := by decide +kernel
theorem dX6_puts_74 : decode cX6_puts 74 = .ok (.invokevirtual 128, 3) := by decide +kernel
theorem dX6_puts_77 : decode cX6_puts 77 = .ok (.aload_n 0, 1) := by decide +kernel
theorem dX6_puts_78 : decode cX6_puts 78 = .ok (.getfield 32, 3) := by decide +kernel
theorem dX6_puts_81 : decode cX6_puts 81 = .ok (.dup, 1) := by decide +kernel
theorem dX6_puts_82 : decode cX6_puts 82 = .ok (.getfield 103, 3) := by decide +kernel
theorem dX6_puts_85 : decode cX6_puts 85 = .ok (.iload 4, 2) := by decide +kernel
theorem dX6_puts_87 : decode cX6_puts 87 = .ok (.ixor, 1) := by decide +kernel
theorem dX6_puts_88 : decode cX6_puts 88 = .ok (.putfield 103, 3) := by decide +kernel
theorem dX6_puts_91 : decode cX6_puts 91 = .ok (.aload_n 0, 1) := by decide +kernel
theorem dX6_puts_92 : decode cX6_puts 92 = .ok (.getfield 32, 3) := by decide +kernel
theorem dX6_puts_95 : decode cX6_puts 95 = .ok (.getfield 103, 3) := by decide +kernel
theorem dX6_puts_98 : decode cX6_puts 98 = .ok (.invokestatic 135, 3) := by decide +kernel
theorem dX6_puts_101 : decode cX6_puts 101 = .ok (.ireturn, 1) := by decide +kernel
theorem dX6_veers_0 : decode cX6_veers 0 = .ok (.aload_n 0, 1) := by decide +kernel
theorem dX6_veers_1 : decode cX6_veers 1 = .ok (.getfield 24, 3) := by decide +kernel
theorem dX6_veers_4 : decode cX6_veers 4 = .ok (.invokevirtual 128, 3) := by decide +kernel
theorem dX6_veers_7 : decode cX6_veers 7 = .ok (.aload_n 0, 1) := by decide +kernel
theorem dX6_veers_8 : decode cX6_veers 8 = .ok (.getfield 32, 3) := by decide +kernel
theorem dX6_veers_11 : decode cX6_veers 11 = .ok (.iconst 1, 1) := by decide +kernel
theorem dX6_veers_12 : decode cX6_veers 12 = .ok (.aload_n 0, 1) := by decide +kernel
theorem dX6_veers_13 : decode cX6_veers 13 = .ok (.getfield 32, 3) := by decide +kernel
theorem dX6_veers_16 : decode cX6_veers 16 = .ok (.getfield 144, 3) := by decide +kernel
theorem dX6_veers_19 : decode cX6_veers 19 = .ok (.isub, 1) := by decide +kernel
theorem dX6_veers_20 : decode cX6_veers 20 = .ok (.putfield 144, 3) := by decide +kernel
theorem dX6_veers_23 : decode cX6_veers 23 = .ok (.aload_n 0, 1) := by decide +kernel
theorem dX6_veers_24 : decode cX6_veers 24 = .ok (.getfield 32, 3) := by decide +kernel
theorem dX6_veers_27 : decode cX6_veers 27 = .ok (.getfield 144, 3) := by decide +kernel
theorem dX6_veers_30 : decode cX6_veers 30 = .ok (.ireturn, 1) := by decide +kernel
theorem dX6_tide_0 : decode cX6_tide 0 = .ok (.iload_n 1, 1) := by decide +kernel
theorem dX6_tide_1 : decode cX6_tide 1 = .ok (.iconst 1, 1) := by decide +kernel
theorem dX6_tide_2 : decode cX6_tide 2 = .ok (.invokestatic 55, 3) := by decide +kernel
theorem dX6_tide_5 : decode cX6_tide 5 = .ok (.ifCond .ne 5, 3) := by decide +kernel
theorem dX6_tide_8 : decode cX6_tide 8 = .ok (.iconst (-1), 1) := by decide +kernel
theorem dX6_tide_9 : decode cX6_tide 9 = .ok (.ireturn, 1) := by decide +kernel
theorem dX6_tide_10 : decode cX6_tide 10 = .ok (.iload_n 1, 1) := by decide +kernel
theorem dX6_tide_11 : decode cX6_tide 11 = .ok (.iconst 1, 1) := by decide +kernel
theorem dX6_tide_12 : decode cX6_tide 12 = .ok (.if_icmp .ne 15, 3) := by decide +kernel
theorem dX6_tide_15 : decode cX6_tide 15 = .ok (.aload_n 0, 1) := by decide +kernel
theorem dX6_tide_16 : decode cX6_tide 16 = .ok (.getfield 32, 3) := by decide +kernel
theorem dX6_tide_19 : decode cX6_tide 19 = .ok (.getfield 147, 3) := by decide +kernel
theorem dX6_tide_22 : decode cX6_tide 22 = .ok (.iconst 1, 1) := by decide +kernel
theorem dX6_tide_23 : decode cX6_tide 23 = .ok (.iadd, 1) := by decide +kernel
theorem dX6_tide_24 : decode cX6_tide 24 = .ok (.goto 12, 3) := by decide +kernel
theorem dX6_tide_27 : decode cX6_tide 27 = .ok (.aload_n 0, 1) := by decide +kernel
theorem dX6_tide_28 : decode cX6_tide 28 = .ok (.getfield 32, 3) := by decide +kernel
theorem dX6_tide_31 : decode cX6_tide 31 = .ok (.getfield 147, 3) := by decide +kernel
theorem dX6_tide_34 : decode cX6_tide 34 = .ok (.iconst 1, 1) := by decide +kernel
theorem dX6_tide_35 : decode cX6_tide 35 = .ok (.isub, 1) := by decide +kernel
theorem dX6_tide_36 : decode cX6_tide 36 = .ok (.istore_n 2, 1) := by decide +kernel
theorem dX6_tide_37 : decode cX6_tide 37 = .ok (.iload_n 2, 1) := by decide +kernel
theorem dX6_tide_38 : decode cX6_tide 38 = .ok (.aload_n 0, 1) := by decide +kernel
theorem dX6_tide_39 : decode cX6_tide 39 = .ok (.getfield 32, 3) := by decide +kernel
theorem dX6_tide_42 : decode cX6_tide 42 = .ok (.getfield 150, 3) := by decide +kernel
theorem dX6_tide_45 : decode cX6_tide 45 = .ok (.invokestatic 55, 3) := by decide +kernel
theorem dX6_tide_48 : decode cX6_tide 48 = .ok (.ifCond .ne 6, 3) := by decide +kernel
theorem dX6_tide_51 : decode cX6_tide 51 = .ok (.bipush (-2), 2) := by decide +kernel
theorem dX6_tide_53 : decode cX6_tide 53 = .ok (.ireturn, 1) := by decide +kernel
theorem dX6_tide_54 : decode cX6_tide 54 = .ok (.aload_n 0, 1) := by decide +kernel
theorem dX6_tide_55 : decode cX6_tide 55 = .ok (.getfield 24, 3) := by decide +kernel
theorem dX6_tide_58 : decode cX6_tide 58 = .ok (.invokevirtual 128, 3) := by decide +kernel
theorem dX6_tide_61 : decode cX6_tide 61 = .ok (.aload_n 0, 1) := by decide +kernel
theorem dX6_tide_62 : decode cX6_tide 62 = .ok (.getfield 32, 3) := by decide +kernel
theorem dX6_tide_65 : decode cX6_tide 65 = .ok (.iload_n 2, 1) := by decide +kernel
theorem dX6_tide_66 : decode cX6_tide 66 = .ok (.invokevirtual 153, 3) := by decide +kernel
theorem dX6_tide_69 : decode cX6_tide 69 = .ok (.iload_n 2, 1) := by decide +kernel
theorem dX6_tide_70 : decode cX6_tide 70 = .ok (.ireturn, 1) := by decide +kernel
theorem dX6_undo_0 : decode cX6_undo 0 = .ok (.aload_n 0, 1) := by decide +kernel
theorem dX6_undo_1 : decode cX6_undo 1 = .ok (.getfield 24, 3) := by decide +kernel
theorem dX6_undo_4 : decode cX6_undo 4 = .ok (.invokevirtual 156, 3) := by decide +kernel
theorem dX6_undo_7 : decode cX6_undo 7 = .ok (.ifCond .eq 13, 3) := by decide +kernel
theorem dX6_undo_10 : decode cX6_undo 10 = .ok (.aload_n 0, 1) := by decide +kernel
theorem dX6_undo_11 : decode cX6_undo 11 = .ok (.getfield 24, 3) := by decide +kernel
theorem dX6_undo_14 : decode cX6_undo 14 = .ok (.getfield 82, 3) := by decide +kernel
theorem dX6_undo_17 : decode cX6_undo 17 = .ok (.goto 5, 3) := by decide +kernel
theorem dX6_undo_20 : decode cX6_undo 20 = .ok (.bipush (-2), 2) := by decide +kernel
theorem dX6_undo_22 : decode cX6_undo 22 = .ok (.ireturn, 1) := by decide +kernel
theorem dX6_now_0 : decode cX6_now 0 = .ok (.iload_n 1, 1) := by decide +kernel
theorem dX6_now_1 : decode cX6_now 1 = .ok (.tableswitch 94 0 5 #[39, 47, 55, 63, 71, 86], 39) := by decide +kernel
theorem dX6_now_40 : decode cX6_now 40 = .ok (.aload_n 0, 1) := by decide +kernel
theorem dX6_now_41 : decode cX6_now 41 = .ok (.getfield 32, 3) := by decide +kernel
theorem dX6_now_44 : decode cX6_now 44 = .ok (.getfield 144, 3) := by decide +kernel
theorem dX6_now_47 : decode cX6_now 47 = .ok (.ireturn, 1) := by decide +kernel
theorem dX6_now_48 : decode cX6_now 48 = .ok (.aload_n 0, 1) := by decide +kernel
theorem dX6_now_49 : decode cX6_now 49 = .ok (.getfield 32, 3) := by decide +kernel
theorem dX6_now_52 : decode cX6_now 52 = .ok (.getfield 147, 3) := by decide +kernel
theorem dX6_now_55 : decode cX6_now 55 = .ok (.ireturn, 1) := by decide +kernel
theorem dX6_now_56 : decode cX6_now 56 = .ok (.aload_n 0, 1) := by decide +kernel
theorem dX6_now_57 : decode cX6_now 57 = .ok (.getfield 32, 3) := by decide +kernel
theorem dX6_now_60 : decode cX6_now 60 = .ok (.getfield 103, 3) := by decide +kernel
theorem dX6_now_63 : decode cX6_now 63 = .ok (.ireturn, 1) := by decide +kernel
theorem dX6_now_64 : decode cX6_now 64 = .ok (.aload_n 0, 1) := by decide +kernel
theorem dX6_now_65 : decode cX6_now 65 = .ok (.getfield 32, 3) := by decide +kernel
theorem dX6_now_68 : decode cX6_now 68 = .ok (.invokevirtual 160, 3) := by decide +kernel
theorem dX6_now_71 : decode cX6_now 71 = .ok (.ireturn, 1) := by decide +kernel
theorem dX6_now_72 : decode cX6_now 72 = .ok (.aload_n 0, 1) := by decide +kernel
theorem dX6_now_73 : decode cX6_now 73 = .ok (.getfield 32, 3) := by decide +kernel
theorem dX6_now_76 : decode cX6_now 76 = .ok (.aload_n 0, 1) := by decide +kernel
theorem dX6_now_77 : decode cX6_now 77 = .ok (.getfield 32, 3) := by decide +kernel
theorem dX6_now_80 : decode cX6_now 80 = .ok (.getfield 144, 3) := by decide +kernel
theorem dX6_now_83 : decode cX6_now 83 = .ok (.invokevirtual 113, 3) := by decide +kernel
theorem dX6_now_86 : decode cX6_now 86 = .ok (.ireturn, 1) := by decide +kernel
theorem dX6_now_87 : decode cX6_now 87 = .ok (.aload_n 0, 1) := by decide +kernel
theorem dX6_now_88 : decode cX6_now 88 = .ok (.getfield 32, 3) := by decide +kernel
theorem dX6_now_91 : decode cX6_now 91 = .ok (.invokevirtual 163, 3) := by decide +kernel
theorem dX6_now_94 : decode cX6_now 94 = .ok (.ireturn, 1) := by decide +kernel
theorem dX6_now_95 : decode cX6_now 95 = .ok (.iconst (-1), 1) := by decide +kernel
theorem dX6_now_96 : decode cX6_now 96 = .ok (.ireturn, 1) := by decide +kernel
theorem dX6_water_0 : decode cX6_water 0 = .ok (.iload_n 1, 1) := by decide +kernel
theorem dX6_water_1 : decode cX6_water 1 = .ok (.invokestatic 116, 3) := by decide +kernel
theorem dX6_water_4 : decode cX6_water 4 = .ok (.ifCond .eq 15, 3) := by decide +kernel
theorem dX6_water_7 : decode cX6_water 7 = .ok (.aload_n 0, 1) := by decide +kernel
theorem dX6_water_8 : decode cX6_water 8 = .ok (.getfield 32, 3) := by decide +kernel
theorem dX6_water_11 : decode cX6_water 11 = .ok (.iload_n 2, 1) := by decide +kernel
theorem dX6_water_12 : decode cX6_water 12 = .ok (.iload_n 3, 1) := by decide +kernel
theorem dX6_water_13 : decode cX6_water 13 = .ok (.invokevirtual 92, 3) := by decide +kernel
theorem dX6_water_16 : decode cX6_water 16 = .ok (.ifCond .ne 5, 3) := by decide +kernel
theorem dX6_water_19 : decode cX6_water 19 = .ok (.iconst (-1), 1) := by decide +kernel
theorem dX6_water_20 : decode cX6_water 20 = .ok (.ireturn, 1) := by decide +kernel
theorem dX6_water_21 : decode cX6_water 21 = .ok (.iload_n 2, 1) := by decide +kernel
theorem dX6_water_22 : decode cX6_water 22 = .ok (.iload_n 3, 1) := by decide +kernel
theorem dX6_water_23 : decode cX6_water 23 = .ok (.invokestatic 95, 3) := by decide +kernel
theorem dX6_water_26 : decode cX6_water 26 = .ok (.istore 4, 2) := by decide +kernel
theorem dX6_water_28 : decode cX6_water 28 = .ok (.aload_n 0, 1) := by decide +kernel
theorem dX6_water_29 : decode cX6_water 29 = .ok (.getfield 32, 3) := by decide +kernel
theorem dX6_water_32 : decode cX6_water 32 = .ok (.invokevirtual 110, 3) := by decide +kernel
theorem dX6_water_35 : decode cX6_water 35 = .ok (.iload 4, 2) := by decide +kernel
theorem dX6_water_37 : decode cX6_water 37 = .ok (.iand, 1) := by decide +kernel
theorem dX6_water_38 : decode cX6_water 38 = .ok (.ifCond .ne 7, 3) := by decide +kernel
theorem dX6_water_41 : decode cX6_water 41 = .ok (.iconst (-1), 1) := by decide +kernel
theorem dX6_water_42 : decode cX6_water 42 = .ok (.goto 13, 3) := by decide +kernel
theorem dX6_water_45 : decode cX6_water 45 = .ok (.aload_n 0, 1) := by decide +kernel
theorem dX6_water_46 : decode cX6_water 46 = .ok (.getfield 32, 3) := by decide +kernel
theorem dX6_water_49 : decode cX6_water 49 = .ok (.iload_n 1, 1) := by decide +kernel
theorem dX6_water_50 : decode cX6_water 50 = .ok (.iload 4, 2) := by decide +kernel
theorem dX6_water_52 : decode cX6_water 52 = .ok (.invokevirtual 166, 3) := by decide +kernel
theorem dX6_water_55 : decode cX6_water 55 = .ok (.ireturn, 1) := by decide +kernel
theorem dX6_help_0 : decode cX6_help 0 = .ok (.iload_n 1, 1) := by decide +kernel
theorem dX6_help_1 : decode cX6_help 1 = .ok (.invokestatic 116, 3) := by decide +kernel
theorem dX6_help_4 : decode cX6_help 4 = .ok (.ifCond .eq 11, 3) := by decide +kernel
theorem dX6_help_7 : decode cX6_help 7 = .ok (.iload_n 2, 1) := by decide +kernel
theorem dX6_help_8 : decode cX6_help 8 = .ok (.iconst 1, 1) := by decide +kernel
theorem dX6_help_9 : decode cX6_help 9 = .ok (.invokestatic 55, 3) := by decide +kernel
theorem dX6_help_12 : decode cX6_help 12 = .ok (.ifCond .ne 5, 3) := by decide +kernel
theorem dX6_help_15 : decode cX6_help 15 = .ok (.iconst (-1), 1) := by decide +kernel
theorem dX6_help_16 : decode cX6_help 16 = .ok (.ireturn, 1) := by decide +kernel
theorem dX6_help_17 : decode cX6_help 17 = .ok (.aload_n 0, 1) := by decide +kernel
theorem dX6_help_18 : decode cX6_help 18 = .ok (.getfield 32, 3) := by decide +kernel
theorem dX6_help_21 : decode cX6_help 21 = .ok (.iload_n 1, 1) := by decide +kernel
theorem dX6_help_22 : decode cX6_help 22 = .ok (.invokevirtual 169, 3) := by decide +kernel
theorem dX6_help_25 : decode cX6_help 25 = .ok (.istore_n 3, 1) := by decide +kernel
theorem dX6_help_26 : decode cX6_help 26 = .ok (.iload_n 3, 1) := by decide +kernel
theorem dX6_help_27 : decode cX6_help 27 = .ok (.bipush (-9), 2) := by decide +kernel
theorem dX6_help_29 : decode cX6_help 29 = .ok (.if_icmp .eq 7, 3) := by decide +kernel
theorem dX6_help_32 : decode cX6_help 32 = .ok (.iload_n 2, 1) := by decide +kernel
theorem dX6_help_33 : decode cX6_help 33 = .ok (.ifCond .ne 5, 3) := by decide +kernel
theorem dX6_help_36 : decode cX6_help 36 = .ok (.iload_n 3, 1) := by decide +kernel
theorem dX6_help_37 : decode cX6_help 37 = .ok (.ireturn, 1) := by decide +kernel
theorem dX6_help_38 : decode cX6_help 38 = .ok (.aload_n 0, 1) := by decide +kernel
theorem dX6_help_39 : decode cX6_help 39 = .ok (.getfield 32, 3) := by decide +kernel
theorem dX6_help_42 : decode cX6_help 42 = .ok (.iload_n 1, 1) := by decide +kernel
theorem dX6_help_43 : decode cX6_help 43 = .ok (.aload_n 0, 1) := by decide +kernel
theorem dX6_help_44 : decode cX6_help 44 = .ok (.getfield 32, 3) := by decide +kernel
theorem dX6_help_47 : decode cX6_help 47 = .ok (.getfield 103, 3) := by decide +kernel
theorem dX6_help_50 : decode cX6_help 50 = .ok (.iconst 1, 1) := by decide +kernel
theorem dX6_help_51 : decode cX6_help 51 = .ok (.iload_n 3, 1) := by decide +kernel
theorem dX6_help_52 : decode cX6_help 52 = .ok (.ishl, 1) := by decide +kernel
theorem dX6_help_53 : decode cX6_help 53 = .ok (.ior, 1) := by decide +kernel
theorem dX6_help_54 : decode cX6_help 54 = .ok (.invokevirtual 172, 3) := by decide +kernel
theorem dX6_help_57 : decode cX6_help 57 = .ok (.aload_n 0, 1) := by decide +kernel
theorem dX6_help_58 : decode cX6_help 58 = .ok (.getfield 32, 3) := by decide +kernel
theorem dX6_help_61 : decode cX6_help 61 = .ok (.iload_n 1, 1) := by decide +kernel
theorem dX6_help_62 : decode cX6_help 62 = .ok (.invokevirtual 122, 3) := by decide +kernel
theorem dX6_help_65 : decode cX6_help 65 = .ok (.isub, 1) := by decide +kernel
theorem dX6_help_66 : decode cX6_help 66 = .ok (.ireturn, 1) := by decide +kernel
theorem dX6_odds_0 : decode cX6_odds 0 = .ok (.aload_n 0, 1) := by decide +kernel
theorem dX6_odds_1 : decode cX6_odds 1 = .ok (.getfield 32, 3) := by decide +kernel
theorem dX6_odds_4 : decode cX6_odds 4 = .ok (.iload_n 1, 1) := by decide +kernel
theorem dX6_odds_5 : decode cX6_odds 5 = .ok (.iload_n 2, 1) := by decide +kernel
theorem dX6_odds_6 : decode cX6_odds 6 = .ok (.invokevirtual 92, 3) := by decide +kernel
theorem dX6_odds_9 : decode cX6_odds 9 = .ok (.ifCond .eq 31, 3) := by decide +kernel
theorem dX6_odds_12 : decode cX6_odds 12 = .ok (.iload_n 3, 1) := by decide +kernel
theorem dX6_odds_13 : decode cX6_odds 13 = .ok (.bipush 10, 2) := by decide +kernel
theorem dX6_odds_15 : decode cX6_odds 15 = .ok (.invokestatic 55, 3) := by decide +kernel
theorem dX6_odds_18 : decode cX6_odds 18 = .ok (.ifCond .eq 22, 3) := by decide +kernel
theorem dX6_odds_21 : decode cX6_odds 21 = .ok (.iload 4, 2) := by decide +kernel
theorem dX6_odds_23 : decode cX6_odds 23 = .ok (.bipush 6, 2) := by decide +kernel
theorem dX6_odds_25 : decode cX6_odds 25 = .ok (.invokestatic 55, 3) := by decide +kernel
theorem dX6_odds_28 : decode cX6_odds 28 = .ok (.ifCond .eq 12, 3) := by decide +kernel
theorem dX6_odds_31 : decode cX6_odds 31 = .ok (.iload 5, 2) := by decide +kernel
theorem dX6_odds_33 : decode cX6_odds 33 = .ok (.iconst 1, 1) := by decide +kernel
theorem dX6_odds_34 : decode cX6_odds 34 = .ok (.invokestatic 55, 3) := by decide +kernel
theorem dX6_odds_37 : decode cX6_odds 37 = .ok (.ifCond .ne 5, 3) := by decide +kernel
theorem dX6_odds_40 : decode cX6_odds 40 = .ok (.iconst (-1), 1) := by decide +kernel
theorem dX6_odds_41 : decode cX6_odds 41 = .ok (.ireturn, 1) := by decide +kernel
theorem dX6_odds_42 : decode cX6_odds 42 = .ok (.iconst 1, 1) := by decide +kernel
theorem dX6_odds_43 : decode cX6_odds 43 = .ok (.istore 6, 2) := by decide +kernel
theorem dX6_odds_45 : decode cX6_odds 45 = .ok (.iconst 0, 1) := by decide +kernel
theorem dX6_odds_46 : decode cX6_odds 46 = .ok (.istore 7, 2) := by decide +kernel
theorem dX6_odds_48 : decode cX6_odds 48 = .ok (.iconst 1, 1) := by decide +kernel
theorem dX6_odds_49 : decode cX6_odds 49 = .ok (.istore 8, 2) := by decide +kernel
theorem dX6_odds_51 : decode cX6_odds 51 = .ok (.iconst 0, 1) := by decide +kernel
theorem dX6_odds_52 : decode cX6_odds 52 = .ok (.istore 9, 2) := by decide +kernel
theorem dX6_odds_54 : decode cX6_odds 54 = .ok (.iload 9, 2) := by decide +kernel
theorem dX6_odds_56 : decode cX6_odds 56 = .ok (.iload 4, 2) := by decide +kernel
theorem dX6_odds_58 : decode cX6_odds 58 = .ok (.if_icmp .ge 48, 3) := by decide +kernel
theorem dX6_odds_61 : decode cX6_odds 61 = .ok (.iload 6, 2) := by decide +kernel
theorem dX6_odds_63 : decode cX6_odds 63 = .ok (.istore 10, 2) := by decide +kernel
theorem dX6_odds_65 : decode cX6_odds 65 = .ok (.iload 10, 2) := by decide +kernel
theorem dX6_odds_67 : decode cX6_odds 67 = .ok (.bipush 10, 2) := by decide +kernel
theorem dX6_odds_69 : decode cX6_odds 69 = .ok (.iload_n 3, 1) := by decide +kernel
theorem dX6_odds_70 : decode cX6_odds 70 = .ok (.isub, 1) := by decide +kernel
theorem dX6_odds_71 : decode cX6_odds 71 = .ok (.imul, 1) := by decide +kernel
theorem dX6_odds_72 : decode cX6_odds 72 = .ok (.iload 7, 2) := by decide +kernel
theorem dX6_odds_74 : decode cX6_odds 74 = .ok (.iload_n 3, 1) := by decide +kernel
theorem dX6_odds_75 : decode cX6_odds 75 = .ok (.imul, 1) := by decide +kernel
theorem dX6_odds_76 : decode cX6_odds 76 = .ok (.iadd, 1) := by decide +kernel
theorem dX6_odds_77 : decode cX6_odds 77 = .ok (.istore 6, 2) := by decide +kernel
theorem dX6_odds_79 : decode cX6_odds 79 = .ok (.iload 7, 2) := by decide +kernel
theorem dX6_odds_81 : decode cX6_odds 81 = .ok (.bipush 10, 2) := by decide +kernel
theorem dX6_odds_83 : decode cX6_odds 83 = .ok (.iload_n 3, 1) := by decide +kernel
theorem dX6_odds_84 : decode cX6_odds 84 = .ok (.isub, 1) := by decide +kernel
theorem dX6_odds_85 : decode cX6_odds 85 = .ok (.imul, 1) := by decide +kernel
theorem dX6_odds_86 : decode cX6_odds 86 = .ok (.iload 10, 2) := by decide +kernel
theorem dX6_odds_88 : decode cX6_odds 88 = .ok (.iload_n 3, 1) := by decide +kernel
theorem dX6_odds_89 : decode cX6_odds 89 = .ok (.imul, 1) := by decide +kernel
theorem dX6_odds_90 : decode cX6_odds 90 = .ok (.iadd, 1) := by decide +kernel
theorem dX6_odds_91 : decode cX6_odds 91 = .ok (.istore 7, 2) := by decide +kernel
theorem dX6_odds_93 : decode cX6_odds 93 = .ok (.iload 8, 2) := by decide +kernel
theorem dX6_odds_95 : decode cX6_odds 95 = .ok (.bipush 10, 2) := by decide +kernel
theorem dX6_odds_97 : decode cX6_odds 97 = .ok (.imul, 1) := by decide +kernel
theorem dX6_odds_98 : decode cX6_odds 98 = .ok (.istore 8, 2) := by decide +kernel
theorem dX6_odds_100 : decode cX6_odds 100 = .ok (.iinc 9 1, 3) := by decide +kernel
theorem dX6_odds_103 : decode cX6_odds 103 = .ok (.goto (-49), 3) := by decide +kernel
theorem dX6_odds_106 : decode cX6_odds 106 = .ok (.iload_n 1, 1) := by decide +kernel
theorem dX6_odds_107 : decode cX6_odds 107 = .ok (.iload_n 2, 1) := by decide +kernel
theorem dX6_odds_108 : decode cX6_odds 108 = .ok (.invokestatic 95, 3) := by decide +kernel
theorem dX6_odds_111 : decode cX6_odds 111 = .ok (.istore 9, 2) := by decide +kernel
theorem dX6_odds_113 : decode cX6_odds 113 = .ok (.aload_n 0, 1) := by decide +kernel
theorem dX6_odds_114 : decode cX6_odds 114 = .ok (.getfield 32, 3) := by decide +kernel
theorem dX6_odds_117 : decode cX6_odds 117 = .ok (.aload_n 0, 1) := by decide +kernel
theorem dX6_odds_118 : decode cX6_odds 118 = .ok (.getfield 32, 3) := by decide +kernel
theorem dX6_odds_121 : decode cX6_odds 121 = .ok (.getfield 144, 3) := by decide +kernel
theorem dX6_odds_124 : decode cX6_odds 124 = .ok (.invokevirtual 113, 3) := by decide +kernel
theorem dX6_odds_127 : decode cX6_odds 127 = .ok (.iload 9, 2) := by decide +kernel
theorem dX6_odds_129 : decode cX6_odds 129 = .ok (.iand, 1) := by decide +kernel
theorem dX6_odds_130 : decode cX6_odds 130 = .ok (.ifCond .eq 8, 3) := by decide +kernel
theorem dX6_odds_133 : decode cX6_odds 133 = .ok (.iload 6, 2) := by decide +kernel
theorem dX6_odds_135 : decode cX6_odds 135 = .ok (.goto 4, 3) := by decide +kernel
theorem dX6_odds_138 : decode cX6_odds 138 = .ok (.iconst 0, 1) := by decide +kernel
theorem dX6_odds_139 : decode cX6_odds 139 = .ok (.istore 10, 2) := by decide +kernel
theorem dX6_odds_141 : decode cX6_odds 141 = .ok (.iload 10, 2) := by decide +kernel
theorem dX6_odds_143 : decode cX6_odds 143 = .ok (.aload_n 0, 1) := by decide +kernel
theorem dX6_odds_144 : decode cX6_odds 144 = .ok (.getfield 32, 3) := by decide +kernel
theorem dX6_odds_147 : decode cX6_odds 147 = .ok (.iconst 1, 1) := by decide +kernel
theorem dX6_odds_148 : decode cX6_odds 148 = .ok (.aload_n 0, 1) := by decide +kernel
theorem dX6_odds_149 : decode cX6_odds 149 = .ok (.getfield 32, 3) := by decide +kernel
theorem dX6_odds_152 : decode cX6_odds 152 = .ok (.getfield 144, 3) := by decide +kernel
theorem dX6_odds_155 : decode cX6_odds 155 = .ok (.isub, 1) := by decide +kernel
theorem dX6_odds_156 : decode cX6_odds 156 = .ok (.invokevirtual 113, 3) := by decide +kernel
theorem dX6_odds_159 : decode cX6_odds 159 = .ok (.iload 9, 2) := by decide +kernel
theorem dX6_odds_161 : decode cX6_odds 161 = .ok (.iand, 1) := by decide +kernel
theorem dX6_odds_162 : decode cX6_odds 162 = .ok (.ifCond .eq 8, 3) := by decide +kernel
theorem dX6_odds_165 : decode cX6_odds 165 = .ok (.iload 7, 2) := by decide +kernel
theorem dX6_odds_167 : decode cX6_odds 167 = .ok (.goto 4, 3) := by decide +kernel
theorem dX6_odds_170 : decode cX6_odds 170 = .ok (.iconst 0, 1) := by decide +kernel
theorem dX6_odds_171 : decode cX6_odds 171 = .ok (.iadd, 1) := by decide +kernel
theorem dX6_odds_172 : decode cX6_odds 172 = .ok (.istore 10, 2) := by decide +kernel
theorem dX6_odds_174 : decode cX6_odds 174 = .ok (.iload 10, 2) := by decide +kernel
theorem dX6_odds_176 : decode cX6_odds 176 = .ok (.iload 8, 2) := by decide +kernel
theorem dX6_odds_178 : decode cX6_odds 178 = .ok (.iload 5, 2) := by decide +kernel
theorem dX6_odds_180 : decode cX6_odds 180 = .ok (.invokestatic 175, 3) := by decide +kernel
theorem dX6_odds_183 : decode cX6_odds 183 = .ok (.ireturn, 1) := by decide +kernel
theorem dX6_saw_0 : decode cX6_saw 0 = .ok (.aload_n 0, 1) := by decide +kernel
theorem dX6_saw_1 : decode cX6_saw 1 = .ok (.getfield 32, 3) := by decide +kernel
theorem dX6_saw_4 : decode cX6_saw 4 = .ok (.iload_n 1, 1) := by decide +kernel
theorem dX6_saw_5 : decode cX6_saw 5 = .ok (.iload_n 2, 1) := by decide +kernel
theorem dX6_saw_6 : decode cX6_saw 6 = .ok (.invokevirtual 92, 3) := by decide +kernel
theorem dX6_saw_9 : decode cX6_saw 9 = .ok (.ifCond .eq 20, 3) := by decide +kernel
theorem dX6_saw_12 : decode cX6_saw 12 = .ok (.iload_n 3, 1) := by decide +kernel
theorem dX6_saw_13 : decode cX6_saw 13 = .ok (.iconst 1, 1) := by decide +kernel
theorem dX6_saw_14 : decode cX6_saw 14 = .ok (.invokestatic 55, 3) := by decide +kernel
theorem dX6_saw_17 : decode cX6_saw 17 = .ok (.ifCond .eq 12, 3) := by decide +kernel
theorem dX6_saw_20 : decode cX6_saw 20 = .ok (.iload 4, 2) := by decide +kernel
theorem dX6_saw_22 : decode cX6_saw 22 = .ok (.iconst 1, 1) := by decide +kernel
theorem dX6_saw_23 : decode cX6_saw 23 = .ok (.invokestatic 55, 3) := by decide +kernel
theorem dX6_saw_26 : decode cX6_saw 26 = .ok (.ifCond .ne 5, 3) := by decide +kernel
theorem dX6_saw_29 : decode cX6_saw 29 = .ok (.iconst (-1), 1) := by decide +kernel
theorem dX6_saw_30 : decode cX6_saw 30 = .ok (.ireturn, 1) := by decide +kernel
theorem dX6_saw_31 : decode cX6_saw 31 = .ok (.aload_n 0, 1) := by decide +kernel
theorem dX6_saw_32 : decode cX6_saw 32 = .ok (.getfield 44, 3) := by decide +kernel
theorem dX6_saw_35 : decode cX6_saw 35 = .ok (.iload_n 1, 1) := by decide +kernel
theorem dX6_saw_36 : decode cX6_saw 36 = .ok (.iload_n 2, 1) := by decide +kernel
theorem dX6_saw_37 : decode cX6_saw 37 = .ok (.invokestatic 95, 3) := by decide +kernel
theorem dX6_saw_40 : decode cX6_saw 40 = .ok (.iload_n 3, 1) := by decide +kernel
theorem dX6_saw_41 : decode cX6_saw 41 = .ok (.iload 4, 2) := by decide +kernel
theorem dX6_saw_43 : decode cX6_saw 43 = .ok (.invokevirtual 179, 3) := by decide +kernel
theorem dX6_saw_46 : decode cX6_saw 46 = .ok (.ifCond .eq 13, 3) := by decide +kernel
theorem dX6_saw_49 : decode cX6_saw 49 = .ok (.aload_n 0, 1) := by decide +kernel
theorem dX6_saw_50 : decode cX6_saw 50 = .ok (.getfield 44, 3) := by decide +kernel
theorem dX6_saw_53 : decode cX6_saw 53 = .ok (.getfield 183, 3) := by decide +kernel
theorem dX6_saw_56 : decode cX6_saw 56 = .ok (.goto 5, 3) := by decide +kernel
theorem dX6_saw_59 : decode cX6_saw 59 = .ok (.bipush (-3), 2) := by decide +kernel
theorem dX6_saw_61 : decode cX6_saw 61 = .ok (.ireturn, 1) := by decide +kernel
theorem dX6_forget_0 : decode cX6_forget 0 = .ok (.aload_n 0, 1) := by decide +kernel
theorem dX6_forget_1 : decode cX6_forget 1 = .ok (.getfield 44, 3) := by decide +kernel
theorem dX6_forget_4 : decode cX6_forget 4 = .ok (.getfield 183, 3) := by decide +kernel
theorem dX6_forget_7 : decode cX6_forget 7 = .ok (.istore_n 1, 1) := by decide +kernel
theorem dX6_forget_8 : decode cX6_forget 8 = .ok (.aload_n 0, 1) := by decide +kernel
theorem dX6_forget_9 : decode cX6_forget 9 = .ok (.getfield 44, 3) := by decide +kernel
theorem dX6_forget_12 : decode cX6_forget 12 = .ok (.invokevirtual 89, 3) := by decide +kernel
theorem dX6_forget_15 : decode cX6_forget 15 = .ok (.iload_n 1, 1) := by decide +kernel
theorem dX6_forget_16 : decode cX6_forget 16 = .ok (.ireturn, 1) := by decide +kernel
theorem dX6_moved_0 : decode cX6_moved 0 = .ok (.iload_n 1, 1) := by decide +kernel
theorem dX6_moved_1 : decode cX6_moved 1 = .ok (.iconst 1, 1) := by decide +kernel
theorem dX6_moved_2 : decode cX6_moved 2 = .ok (.invokestatic 55, 3) := by decide +kernel
theorem dX6_moved_5 : decode cX6_moved 5 = .ok (.ifCond .ne 5, 3) := by decide +kernel
theorem dX6_moved_8 : decode cX6_moved 8 = .ok (.iconst (-1), 1) := by decide +kernel
theorem dX6_moved_9 : decode cX6_moved 9 = .ok (.ireturn, 1) := by decide +kernel
theorem dX6_moved_10 : decode cX6_moved 10 = .ok (.iconst 0, 1) := by decide +kernel
theorem dX6_moved_11 : decode cX6_moved 11 = .ok (.istore_n 2, 1) := by decide +kernel
theorem dX6_moved_12 : decode cX6_moved 12 = .ok (.bipush (-9), 2) := by decide +kernel
theorem dX6_moved_14 : decode cX6_moved 14 = .ok (.istore_n 3, 1) := by decide +kernel
theorem dX6_moved_15 : decode cX6_moved 15 = .ok (.iconst 0, 1) := by decide +kernel
theorem dX6_moved_16 : decode cX6_moved 16 = .ok (.istore 4, 2) := by decide +kernel
theorem dX6_moved_18 : decode cX6_moved 18 = .ok (.iload 4, 2) := by decide +kernel
theorem dX6_moved_20 : decode cX6_moved 20 = .ok (.bipush 20, 2) := by decide +kernel
theorem dX6_moved_22 : decode cX6_moved 22 = .ok (.if_icmp .ge 56, 3) := by decide +kernel
theorem dX6_moved_25 : decode cX6_moved 25 = .ok (.iconst 0, 1) := by decide +kernel
theorem dX6_moved_26 : decode cX6_moved 26 = .ok (.istore 5, 2) := by decide +kernel
theorem dX6_moved_28 : decode cX6_moved 28 = .ok (.iload 5, 2) := by decide +kernel
theorem dX6_moved_30 : decode cX6_moved 30 = .ok (.bipush 20, 2) := by decide +kernel
theorem dX6_moved_32 : decode cX6_moved 32 = .ok (.if_icmp .ge 40, 3) := by decide +kernel
theorem dX6_moved_35 : decode cX6_moved 35 = .ok (.aload_n 0, 1) := by decide +kernel
theorem dX6_moved_36 : decode cX6_moved 36 = .ok (.iload 4, 2) := by decide +kernel
theorem dX6_moved_38 : decode cX6_moved 38 = .ok (.iload 5, 2) := by decide +kernel
theorem dX6_moved_40 : decode cX6_moved 40 = .ok (.invokevirtual 186, 3) := by decide +kernel
theorem dX6_moved_43 : decode cX6_moved 43 = .ok (.ifCond .eq 23, 3) := by decide +kernel
theorem dX6_moved_46 : decode cX6_moved 46 = .ok (.iload_n 2, 1) := by decide +kernel
theorem dX6_moved_47 : decode cX6_moved 47 = .ok (.ifCond .ne 14, 3) := by decide +kernel
theorem dX6_moved_50 : decode cX6_moved 50 = .ok (.bipush 100, 2) := by decide +kernel
theorem dX6_moved_52 : decode cX6_moved 52 = .ok (.iload 4, 2) := by decide +kernel
theorem dX6_moved_54 : decode cX6_moved 54 = .ok (.imul, 1) := by decide +kernel
theorem dX6_moved_55 : decode cX6_moved 55 = .ok (.iload 5, 2) := by decide +kernel
theorem dX6_moved_57 : decode cX6_moved 57 = .ok (.iadd, 1) := by decide +kernel
theorem dX6_moved_58 : decode cX6_moved 58 = .ok (.goto 4, 3) := by decide +kernel
theorem dX6_moved_61 : decode cX6_moved 61 = .ok (.iload_n 3, 1) := by decide +kernel
theorem dX6_moved_62 : decode cX6_moved 62 = .ok (.istore_n 3, 1) := by decide +kernel
theorem dX6_moved_63 : decode cX6_moved 63 = .ok (.iinc 2 1, 3) := by decide +kernel
theorem dX6_moved_66 : decode cX6_moved 66 = .ok (.iinc 5 1, 3) := by decide +kernel
theorem dX6_moved_69 : decode cX6_moved 69 = .ok (.goto (-41), 3) := by decide +kernel
theorem dX6_moved_72 : decode cX6_moved 72 = .ok (.iinc 4 1, 3) := by decide +kernel
theorem dX6_moved_75 : decode cX6_moved 75 = .ok (.goto (-57), 3) := by decide +kernel
theorem dX6_moved_78 : decode cX6_moved 78 = .ok (.iload_n 1, 1) := by decide +kernel
theorem dX6_moved_79 : decode cX6_moved 79 = .ok (.ifCond .ne 7, 3) := by decide +kernel
theorem dX6_moved_82 : decode cX6_moved 82 = .ok (.iload_n 2, 1) := by decide +kernel
theorem dX6_moved_83 : decode cX6_moved 83 = .ok (.goto 4, 3) := by decide +kernel
theorem dX6_moved_86 : decode cX6_moved 86 = .ok (.iload_n 3, 1) := by decide +kernel
theorem dX6_moved_87 : decode cX6_moved 87 = .ok (.ireturn, 1) := by decide +kernel
theorem dX6_mark_0 : decode cX6_mark 0 = .ok (.aload_n 0, 1) := by decide +kernel
theorem dX6_mark_1 : decode cX6_mark 1 = .ok (.getfield 32, 3) := by decide +kernel
theorem dX6_mark_4 : decode cX6_mark 4 = .ok (.iload_n 2, 1) := by decide +kernel
theorem dX6_mark_5 : decode cX6_mark 5 = .ok (.iload_n 3, 1) := by decide +kernel
theorem dX6_mark_6 : decode cX6_mark 6 = .ok (.invokevirtual 92, 3) := by decide +kernel
theorem dX6_mark_9 : decode cX6_mark 9 = .ok (.ifCond .eq 20, 3) := by decide +kernel
theorem dX6_mark_12 : decode cX6_mark 12 = .ok (.aload_n 0, 1) := by decide +kernel
theorem dX6_mark_13 : decode cX6_mark 13 = .ok (.getfield 51, 3) := by decide +kernel
theorem dX6_mark_16 : decode cX6_mark 16 = .ok (.iload_n 1, 1) := by decide +kernel
theorem dX6_mark_17 : decode cX6_mark 17 = .ok (.aload_n 0, 1) := by decide +kernel
theorem dX6_mark_18 : decode cX6_mark 18 = .ok (.getfield 32, 3) := by decide +kernel
theorem dX6_mark_21 : decode cX6_mark 21 = .ok (.iload_n 2, 1) := by decide +kernel
theorem dX6_mark_22 : decode cX6_mark 22 = .ok (.iload_n 3, 1) := by decide +kernel
theorem dX6_mark_23 : decode cX6_mark 23 = .ok (.invokevirtual 189, 3) := by decide +kernel
theorem dX6_mark_26 : decode cX6_mark 26 = .ok (.goto 5, 3) := by decide +kernel
theorem dX6_mark_29 : decode cX6_mark 29 = .ok (.ldc 193, 2) := by decide +kernel
theorem dX6_mark_31 : decode cX6_mark 31 = .ok (.ireturn, 1) := by decide +kernel
theorem dX6_keep_0 : decode cX6_keep 0 = .ok (.aload_n 0, 1) := by decide +kernel
theorem dX6_keep_1 : decode cX6_keep 1 = .ok (.iload_n 1, 1) := by decide +kernel
theorem dX6_keep_2 : decode cX6_keep 2 = .ok (.invokevirtual 194, 3) := by decide +kernel
theorem dX6_keep_5 : decode cX6_keep 5 = .ok (.astore_n 2, 1) := by decide +kernel
theorem dX6_keep_6 : decode cX6_keep 6 = .ok (.aload_n 2, 1) := by decide +kernel
theorem dX6_keep_7 : decode cX6_keep 7 = .ok (.ifnonnull 5, 3) := by decide +kernel
theorem dX6_keep_10 : decode cX6_keep 10 = .ok (.iconst (-1), 1) := by decide +kernel
theorem dX6_keep_11 : decode cX6_keep 11 = .ok (.ireturn, 1) := by decide +kernel
theorem dX6_keep_12 : decode cX6_keep 12 = .ok (.aload_n 2, 1) := by decide +kernel
theorem dX6_keep_13 : decode cX6_keep 13 = .ok (.aload_n 0, 1) := by decide +kernel
theorem dX6_keep_14 : decode cX6_keep 14 = .ok (.getfield 24, 3) := by decide +kernel
theorem dX6_keep_17 : decode cX6_keep 17 = .ok (.invokevirtual 198, 3) := by decide +kernel
theorem dX6_keep_20 : decode cX6_keep 20 = .ok (.aload_n 2, 1) := by decide +kernel
theorem dX6_keep_21 : decode cX6_keep 21 = .ok (.iconst 1, 1) := by decide +kernel
theorem dX6_keep_22 : decode cX6_keep 22 = .ok (.putfield 85, 3) := by decide +kernel
theorem dX6_keep_25 : decode cX6_keep 25 = .ok (.aload_n 0, 1) := by decide +kernel
theorem dX6_keep_26 : decode cX6_keep 26 = .ok (.getfield 32, 3) := by decide +kernel
theorem dX6_keep_29 : decode cX6_keep 29 = .ok (.getfield 147, 3) := by decide +kernel
theorem dX6_keep_32 : decode cX6_keep 32 = .ok (.ireturn, 1) := by decide +kernel
theorem dX6_back_0 : decode cX6_back 0 = .ok (.aload_n 0, 1) := by decide +kernel
theorem dX6_back_1 : decode cX6_back 1 = .ok (.iload_n 1, 1) := by decide +kernel
theorem dX6_back_2 : decode cX6_back 2 = .ok (.invokevirtual 194, 3) := by decide +kernel
theorem dX6_back_5 : decode cX6_back 5 = .ok (.astore_n 2, 1) := by decide +kernel
theorem dX6_back_6 : decode cX6_back 6 = .ok (.aload_n 2, 1) := by decide +kernel
theorem dX6_back_7 : decode cX6_back 7 = .ok (.ifnonnull 5, 3) := by decide +kernel
theorem dX6_back_10 : decode cX6_back 10 = .ok (.iconst (-1), 1) := by decide +kernel
theorem dX6_back_11 : decode cX6_back 11 = .ok (.ireturn, 1) := by decide +kernel
theorem dX6_back_12 : decode cX6_back 12 = .ok (.aload_n 2, 1) := by decide +kernel
theorem dX6_back_13 : decode cX6_back 13 = .ok (.getfield 85, 3) := by decide +kernel
theorem dX6_back_16 : decode cX6_back 16 = .ok (.ifCond .ne 6, 3) := by decide +kernel
theorem dX6_back_19 : decode cX6_back 19 = .ok (.bipush (-2), 2) := by decide +kernel
theorem dX6_back_21 : decode cX6_back 21 = .ok (.ireturn, 1) := by decide +kernel
theorem dX6_back_22 : decode cX6_back 22 = .ok (.aload_n 0, 1) := by decide +kernel
theorem dX6_back_23 : decode cX6_back 23 = .ok (.getfield 24, 3) := by decide +kernel
theorem dX6_back_26 : decode cX6_back 26 = .ok (.aload_n 2, 1) := by decide +kernel
theorem dX6_back_27 : decode cX6_back 27 = .ok (.invokevirtual 198, 3) := by decide +kernel
theorem dX6_back_30 : decode cX6_back 30 = .ok (.aload_n 0, 1) := by decide +kernel
theorem dX6_back_31 : decode cX6_back 31 = .ok (.getfield 32, 3) := by decide +kernel
theorem dX6_back_34 : decode cX6_back 34 = .ok (.getfield 147, 3) := by decide +kernel
theorem dX6_back_37 : decode cX6_back 37 = .ok (.ireturn, 1) := by decide +kernel
theorem dX6_count_0 : decode cX6_count 0 = .ok (.iload_n 1, 1) := by decide +kernel
theorem dX6_count_1 : decode cX6_count 1 = .ok (.tableswitch 75 0 4 #[35, 43, 51, 59, 67], 35) := by decide +kernel
theorem dX6_count_36 : decode cX6_count 36 = .ok (.aload_n 0, 1) := by decide +kernel
theorem dX6_count_37 : decode cX6_count 37 = .ok (.getfield 32, 3) := by decide +kernel
theorem dX6_count_40 : decode cX6_count 40 = .ok (.getfield 201, 3) := by decide +kernel
theorem dX6_count_43 : decode cX6_count 43 = .ok (.ireturn, 1) := by decide +kernel
theorem dX6_count_44 : decode cX6_count 44 = .ok (.aload_n 0, 1) := by decide +kernel
theorem dX6_count_45 : decode cX6_count 45 = .ok (.getfield 32, 3) := by decide +kernel
theorem dX6_count_48 : decode cX6_count 48 = .ok (.getfield 150, 3) := by decide +kernel
theorem dX6_count_51 : decode cX6_count 51 = .ok (.ireturn, 1) := by decide +kernel
theorem dX6_count_52 : decode cX6_count 52 = .ok (.aload_n 0, 1) := by decide +kernel
theorem dX6_count_53 : decode cX6_count 53 = .ok (.getfield 44, 3) := by decide +kernel
theorem dX6_count_56 : decode cX6_count 56 = .ok (.getfield 183, 3) := by decide +kernel
theorem dX6_count_59 : decode cX6_count 59 = .ok (.ireturn, 1) := by decide +kernel
theorem dX6_count_60 : decode cX6_count 60 = .ok (.aload_n 0, 1) := by decide +kernel
theorem dX6_count_61 : decode cX6_count 61 = .ok (.getfield 24, 3) := by decide +kernel
theorem dX6_count_64 : decode cX6_count 64 = .ok (.getfield 82, 3) := by decide +kernel
theorem dX6_count_67 : decode cX6_count 67 = .ok (.ireturn, 1) := by decide +kernel
theorem dX6_count_68 : decode cX6_count 68 = .ok (.aload_n 0, 1) := by decide +kernel
theorem dX6_count_69 : decode cX6_count 69 = .ok (.getfield 20, 3) := by decide +kernel
theorem dX6_count_72 : decode cX6_count 72 = .ok (.getfield 65, 3) := by decide +kernel
theorem dX6_count_75 : decode cX6_count 75 = .ok (.ireturn, 1) := by decide +kernel
theorem dX6_count_76 : decode cX6_count 76 = .ok (.iconst (-1), 1) := by decide +kernel
theorem dX6_count_77 : decode cX6_count 77 = .ok (.ireturn, 1) := by decide +kernel
theorem dX6_trace_0 : decode cX6_trace 0 = .ok (.aload_n 0, 1) := by decide +kernel
theorem dX6_trace_1 : decode cX6_trace 1 = .ok (.getfield 51, 3) := by decide +kernel
theorem dX6_trace_4 : decode cX6_trace 4 = .ok (.getfield 204, 3) := by decide +kernel
theorem dX6_trace_7 : decode cX6_trace 7 = .ok (.lreturn, 1) := by decide +kernel
theorem dX6_mayHaveMoved_0 : decode cX6_mayHaveMoved 0 = .ok (.iconst 1, 1) := by decide +kernel
theorem dX6_mayHaveMoved_1 : decode cX6_mayHaveMoved 1 = .ok (.iload_n 1, 1) := by decide +kernel
theorem dX6_mayHaveMoved_2 : decode cX6_mayHaveMoved 2 = .ok (.ishl, 1) := by decide +kernel
theorem dX6_mayHaveMoved_3 : decode cX6_mayHaveMoved 3 = .ok (.istore_n 3, 1) := by decide +kernel
theorem dX6_mayHaveMoved_4 : decode cX6_mayHaveMoved 4 = .ok (.iconst 1, 1) := by decide +kernel
theorem dX6_mayHaveMoved_5 : decode cX6_mayHaveMoved 5 = .ok (.iload_n 2, 1) := by decide +kernel
theorem dX6_mayHaveMoved_6 : decode cX6_mayHaveMoved 6 = .ok (.ishl, 1) := by decide +kernel
theorem dX6_mayHaveMoved_7 : decode cX6_mayHaveMoved 7 = .ok (.istore 4, 2) := by decide +kernel
theorem dX6_mayHaveMoved_9 : decode cX6_mayHaveMoved 9 = .ok (.aload_n 0, 1) := by decide +kernel
theorem dX6_mayHaveMoved_10 : decode cX6_mayHaveMoved 10 = .ok (.getfield 32, 3) := by decide +kernel
theorem dX6_mayHaveMoved_13 : decode cX6_mayHaveMoved 13 = .ok (.getfield 103, 3) := by decide +kernel
theorem dX6_mayHaveMoved_16 : decode cX6_mayHaveMoved 16 = .ok (.iload_n 3, 1) := by decide +kernel
theorem dX6_mayHaveMoved_17 : decode cX6_mayHaveMoved 17 = .ok (.iand, 1) := by decide +kernel
theorem dX6_mayHaveMoved_18 : decode cX6_mayHaveMoved 18 = .ok (.ifCond .eq 16, 3) := by decide +kernel
theorem dX6_mayHaveMoved_21 : decode cX6_mayHaveMoved 21 = .ok (.aload_n 0, 1) := by decide +kernel
theorem dX6_mayHaveMoved_22 : decode cX6_mayHaveMoved 22 = .ok (.getfield 32, 3) := by decide +kernel
theorem dX6_mayHaveMoved_25 : decode cX6_mayHaveMoved 25 = .ok (.invokevirtual 208, 3) := by decide +kernel
theorem dX6_mayHaveMoved_28 : decode cX6_mayHaveMoved 28 = .ok (.iload 4, 2) := by decide +kernel
theorem dX6_mayHaveMoved_30 : decode cX6_mayHaveMoved 30 = .ok (.iand, 1) := by decide +kernel
theorem dX6_mayHaveMoved_31 : decode cX6_mayHaveMoved 31 = .ok (.ifCond .ne 5, 3) := by decide +kernel
theorem dX6_mayHaveMoved_34 : decode cX6_mayHaveMoved 34 = .ok (.iconst 0, 1) := by decide +kernel
theorem dX6_mayHaveMoved_35 : decode cX6_mayHaveMoved 35 = .ok (.ireturn, 1) := by decide +kernel
theorem dX6_mayHaveMoved_36 : decode cX6_mayHaveMoved 36 = .ok (.aload_n 0, 1) := by decide +kernel
theorem dX6_mayHaveMoved_37 : decode cX6_mayHaveMoved 37 = .ok (.getfield 32, 3) := by decide +kernel
theorem dX6_mayHaveMoved_40 : decode cX6_mayHaveMoved 40 = .ok (.getfield 103, 3) := by decide +kernel
theorem dX6_mayHaveMoved_43 : decode cX6_mayHaveMoved 43 = .ok (.iload_n 3, 1) := by decide +kernel
theorem dX6_mayHaveMoved_44 : decode cX6_mayHaveMoved 44 = .ok (.ixor, 1) := by decide +kernel
theorem dX6_mayHaveMoved_45 : decode cX6_mayHaveMoved 45 = .ok (.iload 4, 2) := by decide +kernel
theorem dX6_mayHaveMoved_47 : decode cX6_mayHaveMoved 47 = .ok (.ixor, 1) := by decide +kernel
theorem dX6_mayHaveMoved_48 : decode cX6_mayHaveMoved 48 = .ok (.istore 5, 2) := by decide +kernel
theorem dX6_mayHaveMoved_50 : decode cX6_mayHaveMoved 50 = .ok (.aload_n 0, 1) := by decide +kernel
theorem dX6_mayHaveMoved_51 : decode cX6_mayHaveMoved 51 = .ok (.getfield 44, 3) := by decide +kernel
theorem dX6_mayHaveMoved_54 : decode cX6_mayHaveMoved 54 = .ok (.aload_n 0, 1) := by decide +kernel
theorem dX6_mayHaveMoved_55 : decode cX6_mayHaveMoved 55 = .ok (.getfield 32, 3) := by decide +kernel
theorem dX6_mayHaveMoved_58 : decode cX6_mayHaveMoved 58 = .ok (.iload 5, 2) := by decide +kernel
theorem dX6_mayHaveMoved_60 : decode cX6_mayHaveMoved 60 = .ok (.iconst 0, 1) := by decide +kernel
theorem dX6_mayHaveMoved_61 : decode cX6_mayHaveMoved 61 = .ok (.invokevirtual 211, 3) := by decide +kernel
theorem dX6_mayHaveMoved_64 : decode cX6_mayHaveMoved 64 = .ok (.aload_n 0, 1) := by decide +kernel
theorem dX6_mayHaveMoved_65 : decode cX6_mayHaveMoved 65 = .ok (.getfield 32, 3) := by decide +kernel
theorem dX6_mayHaveMoved_68 : decode cX6_mayHaveMoved 68 = .ok (.iload 5, 2) := by decide +kernel
theorem dX6_mayHaveMoved_70 : decode cX6_mayHaveMoved 70 = .ok (.iconst 1, 1) := by decide +kernel
theorem dX6_mayHaveMoved_71 : decode cX6_mayHaveMoved 71 = .ok (.invokevirtual 211, 3) := by decide +kernel
theorem dX6_mayHaveMoved_74 : decode cX6_mayHaveMoved 74 = .ok (.invokevirtual 214, 3) := by decide +kernel
theorem dX6_mayHaveMoved_77 : decode cX6_mayHaveMoved 77 = .ok (.ireturn, 1) := by decide +kernel
theorem dX6_imageOf_0 : decode cX6_imageOf 0 = .ok (.iload_n 1, 1) := by decide +kernel
theorem dX6_imageOf_1 : decode cX6_imageOf 1 = .ok (.lookupswitch 37 #[(0, 27), (1, 32)], 27) := by decide +kernel
theorem dX6_imageOf_28 : decode cX6_imageOf 28 = .ok (.aload_n 0, 1) := by decide +kernel
theorem dX6_imageOf_29 : decode cX6_imageOf 29 = .ok (.getfield 35, 3) := by decide +kernel
theorem dX6_imageOf_32 : decode cX6_imageOf 32 = .ok (.areturn, 1) := by decide +kernel
theorem dX6_imageOf_33 : decode cX6_imageOf 33 = .ok (.aload_n 0, 1) := by decide +kernel
theorem dX6_imageOf_34 : decode cX6_imageOf 34 = .ok (.getfield 38, 3) := by decide +kernel
theorem dX6_imageOf_37 : decode cX6_imageOf 37 = .ok (.areturn, 1) := by decide +kernel
theorem dX6_imageOf_38 : decode cX6_imageOf 38 = .ok (.aconst_null, 1) := by decide +kernel
theorem dX6_imageOf_39 : decode cX6_imageOf 39 = .ok (.areturn, 1) := by decide +kernel
theorem dX6_isWithin_0 : decode cX6_isWithin 0 = .ok (.iload_n 0, 1) := by decide +kernel
theorem dX6_isWithin_1 : decode cX6_isWithin 1 = .ok (.ifCond .lt 12, 3) := by decide +kernel
theorem dX6_isWithin_4 : decode cX6_isWithin 4 = .ok (.iload_n 0, 1) := by decide +kernel
theorem dX6_isWithin_5 : decode cX6_isWithin 5 = .ok (.iload_n 1, 1) := by decide +kernel
theorem dX6_isWithin_6 : decode cX6_isWithin 6 = .ok (.if_icmp .gt 7, 3) := by decide +kernel
theorem dX6_isWithin_9 : decode cX6_isWithin 9 = .ok (.iconst 1, 1) := by decide +kernel
theorem dX6_isWithin_10 : decode cX6_isWithin 10 = .ok (.goto 4, 3) := by decide +kernel
theorem dX6_isWithin_13 : decode cX6_isWithin 13 = .ok (.iconst 0, 1) := by decide +kernel
theorem dX6_isWithin_14 : decode cX6_isWithin 14 = .ok (.ireturn, 1) := by decide +kernel
theorem dX6_isFamily_0 : decode cX6_isFamily 0 = .ok (.iload_n 0, 1) := by decide +kernel
theorem dX6_isFamily_1 : decode cX6_isFamily 1 = .ok (.iconst 4, 1) := by decide +kernel
theorem dX6_isFamily_2 : decode cX6_isFamily 2 = .ok (.invokestatic 55, 3) := by decide +kernel
theorem dX6_isFamily_5 : decode cX6_isFamily 5 = .ok (.ireturn, 1) := by decide +kernel
theorem dX6_oneIf_0 : decode cX6_oneIf 0 = .ok (.iload_n 0, 1) := by decide +kernel
theorem dX6_oneIf_1 : decode cX6_oneIf 1 = .ok (.ifCond .eq 7, 3) := by decide +kernel
theorem dX6_oneIf_4 : decode cX6_oneIf 4 = .ok (.iconst 1, 1) := by decide +kernel
theorem dX6_oneIf_5 : decode cX6_oneIf 5 = .ok (.goto 4, 3) := by decide +kernel
theorem dX6_oneIf_8 : decode cX6_oneIf 8 = .ok (.iconst 0, 1) := by decide +kernel
theorem dX6_oneIf_9 : decode cX6_oneIf 9 = .ok (.ireturn, 1) := by decide +kernel
theorem dX6_bitOf_0 : decode cX6_bitOf 0 = .ok (.iconst 1, 1) := by decide +kernel
theorem dX6_bitOf_1 : decode cX6_bitOf 1 = .ok (.iconst 5, 1) := by decide +kernel
theorem dX6_bitOf_2 : decode cX6_bitOf 2 = .ok (.iload_n 1, 1) := by decide +kernel
theorem dX6_bitOf_3 : decode cX6_bitOf 3 = .ok (.imul, 1) := by decide +kernel
theorem dX6_bitOf_4 : decode cX6_bitOf 4 = .ok (.iload_n 0, 1) := by decide +kernel
theorem dX6_bitOf_5 : decode cX6_bitOf 5 = .ok (.iadd, 1) := by decide +kernel
theorem dX6_bitOf_6 : decode cX6_bitOf 6 = .ok (.ishl, 1) := by decide +kernel
theorem dX6_bitOf_7 : decode cX6_bitOf 7 = .ok (.ireturn, 1) := by decide +kernel
theorem dX6_inLeastTerms_0 : decode cX6_inLeastTerms 0 = .ok (.iload_n 0, 1) := by decide +kernel
theorem dX6_inLeastTerms_1 : decode cX6_inLeastTerms 1 = .ok (.istore_n 3, 1) := by decide +kernel
theorem dX6_inLeastTerms_2 : decode cX6_inLeastTerms 2 = .ok (.iload_n 1, 1) := by decide +kernel
theorem dX6_inLeastTerms_3 : decode cX6_inLeastTerms 3 = .ok (.istore 4, 2) := by decide +kernel
theorem dX6_inLeastTerms_5 : decode cX6_inLeastTerms 5 = .ok (.iconst 0, 1) := by decide +kernel
theorem dX6_inLeastTerms_6 : decode cX6_inLeastTerms 6 = .ok (.istore 5, 2) := by decide +kernel
theorem dX6_inLeastTerms_8 : decode cX6_inLeastTerms 8 = .ok (.iload 5, 2) := by decide +kernel
theorem dX6_inLeastTerms_10 : decode cX6_inLeastTerms 10 = .ok (.bipush 6, 2) := by decide +kernel
theorem dX6_inLeastTerms_12 : decode cX6_inLeastTerms 12 = .ok (.if_icmp .ge 55, 3) := by decide +kernel
theorem dX6_inLeastTerms_15 : decode cX6_inLeastTerms 15 = .ok (.iload_n 3, 1) := by decide +kernel
theorem dX6_inLeastTerms_16 : decode cX6_inLeastTerms 16 = .ok (.iconst 2, 1) := by decide +kernel
theorem dX6_inLeastTerms_17 : decode cX6_inLeastTerms 17 = .ok (.irem, 1) := by decide +kernel
theorem dX6_inLeastTerms_18 : decode cX6_inLeastTerms 18 = .ok (.ifCond .ne 20, 3) := by decide +kernel
theorem dX6_inLeastTerms_21 : decode cX6_inLeastTerms 21 = .ok (.iload 4, 2) := by decide +kernel
theorem dX6_inLeastTerms_23 : decode cX6_inLeastTerms 23 = .ok (.iconst 2, 1) := by decide +kernel
theorem dX6_inLeastTerms_24 : decode cX6_inLeastTerms 24 = .ok (.irem, 1) := by decide +kernel
theorem dX6_inLeastTerms_25 : decode cX6_inLeastTerms 25 = .ok (.ifCond .ne 13, 3) := by decide +kernel
theorem dX6_inLeastTerms_28 : decode cX6_inLeastTerms 28 = .ok (.iload_n 3, 1) := by decide +kernel
theorem dX6_inLeastTerms_29 : decode cX6_inLeastTerms 29 = .ok (.iconst 2, 1) := by decide +kernel
theorem dX6_inLeastTerms_30 : decode cX6_inLeastTerms 30 = .ok (.idiv, 1) := by decide +kernel
theorem dX6_inLeastTerms_31 : decode cX6_inLeastTerms 31 = .ok (.istore_n 3, 1) := by decide +kernel
theorem dX6_inLeastTerms_32 : decode cX6_inLeastTerms 32 = .ok (.iload 4, 2) := by decide +kernel
theorem dX6_inLeastTerms_34 : decode cX6_inLeastTerms 34 = .ok (.iconst 2, 1) := by decide +kernel
theorem dX6_inLeastTerms_35 : decode cX6_inLeastTerms 35 = .ok (.idiv, 1) := by decide +kernel
theorem dX6_inLeastTerms_36 : decode cX6_inLeastTerms 36 = .ok (.istore 4, 2) := by decide +kernel
theorem dX6_inLeastTerms_38 : decode cX6_inLeastTerms 38 = .ok (.iload_n 3, 1) := by decide +kernel
theorem dX6_inLeastTerms_39 : decode cX6_inLeastTerms 39 = .ok (.iconst 5, 1) := by decide +kernel
theorem dX6_inLeastTerms_40 : decode cX6_inLeastTerms 40 = .ok (.irem, 1) := by decide +kernel
theorem dX6_inLeastTerms_41 : decode cX6_inLeastTerms 41 = .ok (.ifCond .ne 20, 3) := by decide +kernel
theorem dX6_inLeastTerms_44 : decode cX6_inLeastTerms 44 = .ok (.iload 4, 2) := by decide +kernel
theorem dX6_inLeastTerms_46 : decode cX6_inLeastTerms 46 = .ok (.iconst 5, 1) := by decide +kernel
theorem dX6_inLeastTerms_47 : decode cX6_inLeastTerms 47 = .ok (.irem, 1) := by decide +kernel
theorem dX6_inLeastTerms_48 : decode cX6_inLeastTerms 48 = .ok (.ifCond .ne 13, 3) := by decide +kernel
theorem dX6_inLeastTerms_51 : decode cX6_inLeastTerms 51 = .ok (.iload_n 3, 1) := by decide +kernel
theorem dX6_inLeastTerms_52 : decode cX6_inLeastTerms 52 = .ok (.iconst 5, 1) := by decide +kernel
theorem dX6_inLeastTerms_53 : decode cX6_inLeastTerms 53 = .ok (.idiv, 1) := by decide +kernel
theorem dX6_inLeastTerms_54 : decode cX6_inLeastTerms 54 = .ok (.istore_n 3, 1) := by decide +kernel
theorem dX6_inLeastTerms_55 : decode cX6_inLeastTerms 55 = .ok (.iload 4, 2) := by decide +kernel
theorem dX6_inLeastTerms_57 : decode cX6_inLeastTerms 57 = .ok (.iconst 5, 1) := by decide +kernel
theorem dX6_inLeastTerms_58 : decode cX6_inLeastTerms 58 = .ok (.idiv, 1) := by decide +kernel
theorem dX6_inLeastTerms_59 : decode cX6_inLeastTerms 59 = .ok (.istore 4, 2) := by decide +kernel
theorem dX6_inLeastTerms_61 : decode cX6_inLeastTerms 61 = .ok (.iinc 5 1, 3) := by decide +kernel
theorem dX6_inLeastTerms_64 : decode cX6_inLeastTerms 64 = .ok (.goto (-56), 3) := by decide +kernel
theorem dX6_inLeastTerms_67 : decode cX6_inLeastTerms 67 = .ok (.iload_n 2, 1) := by decide +kernel
theorem dX6_inLeastTerms_68 : decode cX6_inLeastTerms 68 = .ok (.ifCond .ne 7, 3) := by decide +kernel
theorem dX6_inLeastTerms_71 : decode cX6_inLeastTerms 71 = .ok (.iload_n 3, 1) := by decide +kernel
theorem dX6_inLeastTerms_72 : decode cX6_inLeastTerms 72 = .ok (.goto 5, 3) := by decide +kernel
theorem dX6_inLeastTerms_75 : decode cX6_inLeastTerms 75 = .ok (.iload 4, 2) := by decide +kernel
theorem dX6_inLeastTerms_77 : decode cX6_inLeastTerms 77 = .ok (.ireturn, 1) := by decide +kernel
theorem dX7_init_0 : decode cX7_init 0 = .ok (.aload_n 0, 1) := by decide +kernel
theorem dX7_init_1 : decode cX7_init 1 = .ok (.invokespecial 1, 3) := by decide +kernel
theorem dX7_init_4 : decode cX7_init 4 = .ok (.aload_n 0, 1) := by decide +kernel
theorem dX7_init_5 : decode cX7_init 5 = .ok (.iconst 3, 1) := by decide +kernel
theorem dX7_init_6 : decode cX7_init 6 = .ok (.putfield 7, 3) := by decide +kernel
theorem dX7_init_9 : decode cX7_init 9 = .ok (.aload_n 0, 1) := by decide +kernel
theorem dX7_init_10 : decode cX7_init 10 = .ok (.iconst 3, 1) := by decide +kernel
theorem dX7_init_11 : decode cX7_init 11 = .ok (.putfield 13, 3) := by decide +kernel
theorem dX7_init_14 : decode cX7_init 14 = .ok (.aload_n 0, 1) := by decide +kernel
theorem dX7_init_15 : decode cX7_init 15 = .ok (.sipush 254, 3) := by decide +kernel
theorem dX7_init_18 : decode cX7_init 18 = .ok (.newarray .int, 2) := by decide +kernel
theorem dX7_init_20 : decode cX7_init 20 = .ok (.putfield 16, 3) := by decide +kernel
theorem dX7_init_23 : decode cX7_init 23 = .ok (.aload_n 0, 1) := by decide +kernel
theorem dX7_init_24 : decode cX7_init 24 = .ok (.sipush 508, 3) := by decide +kernel
theorem dX7_init_27 : decode cX7_init 27 = .ok (.newarray .int, 2) := by decide +kernel
theorem dX7_init_29 : decode cX7_init 29 = .ok (.putfield 20, 3) := by decide +kernel
theorem dX7_init_32 : decode cX7_init 32 = .ok (.aload_n 0, 1) := by decide +kernel
theorem dX7_init_33 : decode cX7_init 33 = .ok (.iconst 2, 1) := by decide +kernel
theorem dX7_init_34 : decode cX7_init 34 = .ok (.newarray .boolean, 2) := by decide +kernel
theorem dX7_init_36 : decode cX7_init 36 = .ok (.putfield 23, 3) := by decide +kernel
theorem dX7_init_39 : decode cX7_init 39 = .ok (.aload_n 0, 1) := by decide +kernel
theorem dX7_init_40 : decode cX7_init 40 = .ok (.bipush 18, 2) := by decide +kernel
theorem dX7_init_42 : decode cX7_init 42 = .ok (.newarray .int, 2) := by decide +kernel
theorem dX7_init_44 : decode cX7_init 44 = .ok (.putfield 27, 3) := by decide +kernel
theorem dX7_init_47 : decode cX7_init 47 = .ok (.aload_n 0, 1) := by decide +kernel
theorem dX7_init_48 : decode cX7_init 48 = .ok (.sipush 150, 3) := by decide +kernel
theorem dX7_init_51 : decode cX7_init 51 = .ok (.newarray .int, 2) := by decide +kernel
theorem dX7_init_53 : decode cX7_init 53 = .ok (.putfield 30, 3) := by decide +kernel
theorem dX7_init_56 : decode cX7_init 56 = .ok (.aload_n 0, 1) := by decide +kernel
theorem dX7_init_57 : decode cX7_init 57 = .ok (.bipush 20, 2) := by decide +kernel
theorem dX7_init_59 : decode cX7_init 59 = .ok (.newarray .int, 2) := by decide +kernel
theorem dX7_init_61 : decode cX7_init 61 = .ok (.putfield 33, 3) := by decide +kernel
theorem dX7_init_64 : decode cX7_init 64 = .ok (.aload_n 0, 1) := by decide +kernel
theorem dX7_init_65 : decode cX7_init 65 = .ok (.bipush 20, 2) := by decide +kernel
theorem dX7_init_67 : decode cX7_init 67 = .ok (.newarray .int, 2) := by decide +kernel
theorem dX7_init_69 : decode cX7_init 69 = .ok (.putfield 36, 3) := by decide +kernel
theorem dX7_init_72 : decode cX7_init 72 = .ok (.return_, 1) := by decide +kernel
theorem dX7_in_0 : decode cX7_in 0 = .ok (.iload_n 0, 1) := by decide +kernel
theorem dX7_in_1 : decode cX7_in 1 = .ok (.iload_n 1, 1) := by decide +kernel
theorem dX7_in_2 : decode cX7_in 2 = .ok (.if_icmp .lt 12, 3) := by decide +kernel
theorem dX7_in_5 : decode cX7_in 5 = .ok (.iload_n 0, 1) := by decide +kernel
theorem dX7_in_6 : decode cX7_in 6 = .ok (.iload_n 2, 1) := by decide +kernel
theorem dX7_in_7 : decode cX7_in 7 = .ok (.if_icmp .gt 7, 3) := by decide +kernel
theorem dX7_in_10 : decode cX7_in 10 = .ok (.iconst 1, 1) := by decide +kernel
theorem dX7_in_11 : decode cX7_in 11 = .ok (.goto 4, 3) := by decide +kernel
theorem dX7_in_14 : decode cX7_in 14 = .ok (.iconst 0, 1) := by decide +kernel
theorem dX7_in_15 : decode cX7_in 15 = .ok (.ireturn, 1) := by decide +kernel
theorem dX7_has_0 : decode cX7_has 0 = .ok (.iload_n 0, 1) := by decide +kernel
theorem dX7_has_1 : decode cX7_has 1 = .ok (.iload_n 1, 1) := by decide +kernel
theorem dX7_has_2 : decode cX7_has 2 = .ok (.ishr, 1) := by decide +kernel
theorem dX7_has_3 : decode cX7_has 3 = .ok (.iconst 1, 1) := by decide +kernel
theorem dX7_has_4 : decode cX7_has 4 = .ok (.iand, 1) := by decide +kernel
theorem dX7_has_5 : decode cX7_has 5 = .ok (.iconst 1, 1) := by decide +kernel
theorem dX7_has_6 : decode cX7_has 6 = .ok (.if_icmp .ne 7, 3) := by decide +kernel
theorem dX7_has_9 : decode cX7_has 9 = .ok (.iconst 1, 1) := by decide +kernel
theorem dX7_has_10 : decode cX7_has 10 = .ok (.goto 4, 3) := by decide +kernel
theorem dX7_has_13 : decode cX7_has 13 = .ok (.iconst 0, 1) := by decide +kernel
theorem dX7_has_14 : decode cX7_has 14 = .ok (.ireturn, 1) := by decide +kernel
theorem dX7_bits_0 : decode cX7_bits 0 = .ok (.iconst 0, 1) := by decide +kernel
theorem dX7_bits_1 : decode cX7_bits 1 = .ok (.istore_n 1, 1) := by decide +kernel
theorem dX7_bits_2 : decode cX7_bits 2 = .ok (.iconst 0, 1) := by decide +kernel
theorem dX7_bits_3 : decode cX7_bits 3 = .ok (.istore_n 2, 1) := by decide +kernel
theorem dX7_bits_4 : decode cX7_bits 4 = .ok (.iload_n 2, 1) := by decide +kernel
theorem dX7_bits_5 : decode cX7_bits 5 = .ok (.bipush 20, 2) := by decide +kernel
theorem dX7_bits_7 : decode cX7_bits 7 = .ok (.if_icmp .ge 17, 3) := by decide +kernel
theorem dX7_bits_10 : decode cX7_bits 10 = .ok (.iload_n 1, 1) := by decide +kernel
theorem dX7_bits_11 : decode cX7_bits 11 = .ok (.iload_n 0, 1) := by decide +kernel
theorem dX7_bits_12 : decode cX7_bits 12 = .ok (.iload_n 2, 1) := by decide +kernel
theorem dX7_bits_13 : decode cX7_bits 13 = .ok (.ishr, 1) := by decide +kernel
theorem dX7_bits_14 : decode cX7_bits 14 = .ok (.iconst 1, 1) := by decide +kernel
theorem dX7_bits_15 : decode cX7_bits 15 = .ok (.iand, 1) := by decide +kernel
theorem dX7_bits_16 : decode cX7_bits 16 = .ok (.iadd, 1) := by decide +kernel
theorem dX7_bits_17 : decode cX7_bits 17 = .ok (.istore_n 1, 1) := by decide +kernel
theorem dX7_bits_18 : decode cX7_bits 18 = .ok (.iinc 2 1, 3) := by decide +kernel
theorem dX7_bits_21 : decode cX7_bits 21 = .ok (.goto (-17), 3) := by decide +kernel
theorem dX7_bits_24 : decode cX7_bits 24 = .ok (.iload_n 1, 1) := by decide +kernel
theorem dX7_bits_25 : decode cX7_bits 25 = .ok (.ireturn, 1) := by decide +kernel
theorem dX7_isCell_0 : decode cX7_isCell 0 = .ok (.iload_n 1, 1) := by decide +kernel
theorem dX7_isCell_1 : decode cX7_isCell 1 = .ok (.iconst 0, 1) := by decide +kernel
theorem dX7_isCell_2 : decode cX7_isCell 2 = .ok (.aload_n 0, 1) := by decide +kernel
theorem dX7_isCell_3 : decode cX7_isCell 3 = .ok (.getfield 7, 3) := by decide +kernel
theorem dX7_isCell_6 : decode cX7_isCell 6 = .ok (.iconst 1, 1) := by decide +kernel
theorem dX7_isCell_7 : decode cX7_isCell 7 = .ok (.isub, 1) := by decide +kernel
theorem dX7_isCell_8 : decode cX7_isCell 8 = .ok (.invokestatic 39, 3) := by decide +kernel
theorem dX7_isCell_11 : decode cX7_isCell 11 = .ok (.ifCond .eq 21, 3) := by decide +kernel
theorem dX7_isCell_14 : decode cX7_isCell 14 = .ok (.iload_n 2, 1) := by decide +kernel
theorem dX7_isCell_15 : decode cX7_isCell 15 = .ok (.iconst 0, 1) := by decide +kernel
theorem dX7_isCell_16 : decode cX7_isCell 16 = .ok (.aload_n 0, 1) := by decide +kernel
theorem dX7_isCell_17 : decode cX7_isCell 17 = .ok (.getfield 13, 3) := by decide +kernel
theorem dX7_isCell_20 : decode cX7_isCell 20 = .ok (.iconst 1, 1) := by decide +kernel
theorem dX7_isCell_21 : decode cX7_isCell 21 = .ok (.isub, 1) := by decide +kernel
theorem dX7_isCell_22 : decode cX7_isCell 22 = .ok (.invokestatic 39, 3) := by decide +kernel
theorem dX7_isCell_25 : decode cX7_isCell 25 = .ok (.ifCond .eq 7, 3) := by decide +kernel
theorem dX7_isCell_28 : decode cX7_isCell 28 = .ok (.iconst 1, 1) := by decide +kernel
theorem dX7_isCell_29 : decode cX7_isCell 29 = .ok (.goto 4, 3) := by decide +kernel
theorem dX7_isCell_32 : decode cX7_isCell 32 = .ok (.iconst 0, 1) := by decide +kernel
theorem dX7_isCell_33 : decode cX7_isCell 33 = .ok (.ireturn, 1) := by decide +kernel
theorem dX7_isFamily_0 : decode cX7_isFamily 0 = .ok (.iload_n 0, 1) := by decide +kernel
theorem dX7_isFamily_1 : decode cX7_isFamily 1 = .ok (.iconst 0, 1) := by decide +kernel
theorem dX7_isFamily_2 : decode cX7_isFamily 2 = .ok (.iconst 4, 1) := by decide +kernel
theorem dX7_isFamily_3 : decode cX7_isFamily 3 = .ok (.invokestatic 39, 3) := by decide +kernel
theorem dX7_isFamily_6 : decode cX7_isFamily 6 = .ok (.ireturn, 1) := by decide +kernel
theorem dX7_type_0 : decode cX7_type 0 = .ok (.iload_n 1, 1) := by decide +kernel
theorem dX7_type_1 : decode cX7_type 1 = .ok (.iconst 0, 1) := by decide +kernel
theorem dX7_type_2 : decode cX7_type 2 = .ok (.sipush 255, 3) := by decide +kernel
theorem dX7_type_5 : decode cX7_type 5 = .ok (.invokestatic 39, 3) := by decide +kernel
theorem dX7_type_8 : decode cX7_type 8 = .ok (.ifCond .ne 5, 3) := by decide +kernel
theorem dX7_type_11 : decode cX7_type 11 = .ok (.iconst (-1), 1) := by decide +kernel
theorem dX7_type_12 : decode cX7_type 12 = .ok (.ireturn, 1) := by decide +kernel
theorem dX7_type_13 : decode cX7_type 13 = .ok (.aload_n 0, 1) := by decide +kernel
theorem dX7_type_14 : decode cX7_type 14 = .ok (.getfield 43, 3) := by decide +kernel
theorem dX7_type_17 : decode cX7_type 17 = .ok (.sipush 150, 3) := by decide +kernel
theorem dX7_type_20 : decode cX7_type 20 = .ok (.if_icmp .ne 6, 3) := by decide +kernel
theorem dX7_type_23 : decode cX7_type 23 = .ok (.bipush (-3), 2) := by decide +kernel
theorem dX7_type_25 : decode cX7_type 25 = .ok (.ireturn, 1) := by decide +kernel
theorem dX7_type_26 : decode cX7_type 26 = .ok (.aload_n 0, 1) := by decide +kernel
theorem dX7_type_27 : decode cX7_type 27 = .ok (.getfield 30, 3) := by decide +kernel
theorem dX7_type_30 : decode cX7_type 30 = .ok (.aload_n 0, 1) := by decide +kernel
theorem dX7_type_31 : decode cX7_type 31 = .ok (.getfield 43, 3) := by decide +kernel
theorem dX7_type_34 : decode cX7_type 34 = .ok (.iload_n 1, 1) := by decide +kernel
theorem dX7_type_35 : decode cX7_type 35 = .ok (.iastore, 1) := by decide +kernel
theorem dX7_type_36 : decode cX7_type 36 = .ok (.aload_n 0, 1) := by decide +kernel
theorem dX7_type_37 : decode cX7_type 37 = .ok (.dup, 1) := by decide +kernel
theorem dX7_type_38 : decode cX7_type 38 = .ok (.getfield 43, 3) := by decide +kernel
theorem dX7_type_41 : decode cX7_type 41 = .ok (.iconst 1, 1) := by decide +kernel
theorem dX7_type_42 : decode cX7_type 42 = .ok (.iadd, 1) := by decide +kernel
theorem dX7_type_43 : decode cX7_type 43 = .ok (.putfield 43, 3) := by decide +kernel
theorem dX7_type_46 : decode cX7_type 46 = .ok (.aload_n 0, 1) := by decide +kernel
theorem dX7_type_47 : decode cX7_type 47 = .ok (.getfield 43, 3) := by decide +kernel
theorem dX7_type_50 : decode cX7_type 50 = .ok (.ireturn, 1) := by decide +kernel
theorem dX7_clear_0 : decode cX7_clear 0 = .ok (.aload_n 0, 1) := by decide +kernel
theorem dX7_clear_1 : decode cX7_clear 1 = .ok (.getfield 43, 3) := by decide +kernel
theorem dX7_clear_4 : decode cX7_clear 4 = .ok (.istore_n 1, 1) := by decide +kernel
theorem dX7_clear_5 : decode cX7_clear 5 = .ok (.aload_n 0, 1) := by decide +kernel
theorem dX7_clear_6 : decode cX7_clear 6 = .ok (.iconst 0, 1) := by decide +kernel
theorem dX7_clear_7 : decode cX7_clear 7 = .ok (.putfield 43, 3) := by decide +kernel
theorem dX7_clear_10 : decode cX7_clear 10 = .ok (.iload_n 1, 1) := by decide +kernel
theorem dX7_clear_11 : decode cX7_clear 11 = .ok (.ireturn, 1) := by decide +kernel
theorem dX7_letterAt_0 : decode cX7_letterAt 0 = .ok (.iload_n 1, 1) := by decide +kernel
theorem dX7_letterAt_1 : decode cX7_letterAt 1 = .ok (.aload_n 0, 1) := by decide +kernel
theorem dX7_letterAt_2 : decode cX7_letterAt 2 = .ok (.getfield 43, 3) := by decide +kernel
theorem dX7_letterAt_5 : decode cX7_letterAt 5 = .ok (.if_icmp .ge 12, 3) := by decide +kernel
theorem dX7_letterAt_8 : decode cX7_letterAt 8 = .ok (.aload_n 0, 1) := by decide +kernel
theorem dX7_letterAt_9 : decode cX7_letterAt 9 = .ok (.getfield 30, 3) := by decide +kernel
theorem dX7_letterAt_12 : decode cX7_letterAt 12 = .ok (.iload_n 1, 1) := by decide +kernel
theorem dX7_letterAt_13 : decode cX7_letterAt 13 = .ok (.iaload, 1) := by decide +kernel
theorem dX7_letterAt_14 : decode cX7_letterAt 14 = .ok (.goto 4, 3) := by decide +kernel
theorem dX7_letterAt_17 : decode cX7_letterAt 17 = .ok (.iconst (-1), 1) := by decide +kernel
theorem dX7_letterAt_18 : decode cX7_letterAt 18 = .ok (.ireturn, 1) := by decide +kernel
theorem dX7_isFigure_0 : decode cX7_isFigure 0 = .ok (.iload_n 0, 1) := by decide +kernel
theorem dX7_isFigure_1 : decode cX7_isFigure 1 = .ok (.bipush 48, 2) := by decide +kernel
theorem dX7_isFigure_3 : decode cX7_isFigure 3 = .ok (.bipush 57, 2) := by decide +kernel
theorem dX7_isFigure_5 : decode cX7_isFigure 5 = .ok (.invokestatic 39, 3) := by decide +kernel
theorem dX7_isFigure_8 : decode cX7_isFigure 8 = .ok (.ireturn, 1) := by decide +kernel
theorem dX7_isLetter_0 : decode cX7_isLetter 0 = .ok (.iload_n 0, 1) := by decide +kernel
theorem dX7_isLetter_1 : decode cX7_isLetter 1 = .ok (.bipush 97, 2) := by decide +kernel
theorem dX7_isLetter_3 : decode cX7_isLetter 3 = .ok (.bipush 122, 2) := by decide +kernel
theorem dX7_isLetter_5 : decode cX7_isLetter 5 = .ok (.invokestatic 39, 3) := by decide +kernel
theorem dX7_isLetter_8 : decode cX7_isLetter 8 = .ok (.ireturn, 1) := by decide +kernel
theorem dX7_next_0 : decode cX7_next 0 = .ok (.aload_n 0, 1) := by decide +kernel
theorem dX7_next_1 : decode cX7_next 1 = .ok (.aload_n 0, 1) := by decide +kernel
theorem dX7_next_2 : decode cX7_next 2 = .ok (.getfield 46, 3) := by decide +kernel
theorem dX7_next_5 : decode cX7_next 5 = .ok (.invokevirtual 49, 3) := by decide +kernel
theorem dX7_next_8 : decode cX7_next 8 = .ok (.bipush 32, 2) := by decide +kernel
theorem dX7_next_10 : decode cX7_next 10 = .ok (.if_icmp .ne 16, 3) := by decide +kernel
theorem dX7_next_13 : decode cX7_next 13 = .ok (.aload_n 0, 1) := by decide +kernel
theorem dX7_next_14 : decode cX7_next 14 = .ok (.dup, 1) := by decide +kernel
theorem dX7_next_15 : decode cX7_next 15 = .ok (.getfield 46, 3) := by decide +kernel
theorem dX7_next_18 : decode cX7_next 18 = .ok (.iconst 1, 1) := by decide +kernel
theorem dX7_next_19 : decode cX7_next 19 = .ok (.iadd, 1) := by decide +kernel
theorem dX7_next_20 : decode cX7_next 20 = .ok (.putfield 46, 3) := by decide +kernel
theorem dX7_next_23 : decode cX7_next 23 = .ok (.goto (-23), 3) := by decide +kernel
theorem dX7_next_26 : decode cX7_next 26 = .ok (.aload_n 0, 1) := by decide +kernel
theorem dX7_next_27 : decode cX7_next 27 = .ok (.aload_n 0, 1) := by decide +kernel
theorem dX7_next_28 : decode cX7_next 28 = .ok (.getfield 46, 3) := by decide +kernel
theorem dX7_next_31 : decode cX7_next 31 = .ok (.putfield 53, 3) := by decide +kernel
theorem dX7_next_34 : decode cX7_next 34 = .ok (.aload_n 0, 1) := by decide +kernel
theorem dX7_next_35 : decode cX7_next 35 = .ok (.aload_n 0, 1) := by decide +kernel
theorem dX7_next_36 : decode cX7_next 36 = .ok (.getfield 46, 3) := by decide +kernel
theorem dX7_next_39 : decode cX7_next 39 = .ok (.invokevirtual 49, 3) := by decide +kernel
theorem dX7_next_42 : decode cX7_next 42 = .ok (.istore_n 1, 1) := by decide +kernel
theorem dX7_next_43 : decode cX7_next 43 = .ok (.aload_n 0, 1) := by decide +kernel
theorem dX7_next_44 : decode cX7_next 44 = .ok (.iconst 0, 1) := by decide +kernel
theorem dX7_next_45 : decode cX7_next 45 = .ok (.putfield 56, 3) := by decide +kernel
theorem dX7_next_48 : decode cX7_next 48 = .ok (.iload_n 1, 1) := by decide +kernel
theorem dX7_next_49 : decode cX7_next 49 = .ok (.ifCond .ge 11, 3) := by decide +kernel
theorem dX7_next_52 : decode cX7_next 52 = .ok (.aload_n 0, 1) := by decide +kernel
theorem dX7_next_53 : decode cX7_next 53 = .ok (.iconst 0, 1) := by decide +kernel
theorem dX7_next_54 : decode cX7_next 54 = .ok (.putfield 59, 3) := by decide +kernel
theorem dX7_next_57 : decode cX7_next 57 = .ok (.goto 205, 3) := by decide +kernel
theorem dX7_next_60 : decode cX7_next 60 = .ok (.iload_n 1, 1) := by decide +kernel
theorem dX7_next_61 : decode cX7_next 61 = .ok (.invokestatic 62, 3) := by decide +kernel
theorem dX7_next_64 : decode cX7_next 64 = .ok (.ifCond .eq 109, 3) := by decide +kernel
theorem dX7_next_67 : decode cX7_next 67 = .ok (.aload_n 0, 1) := by decide +kernel
theorem dX7_next_68 : decode cX7_next 68 = .ok (.aload_n 0, 1) := by decide +kernel
theorem dX7_next_69 : decode cX7_next 69 = .ok (.getfield 46, 3) := by decide +kernel
theorem dX7_next_72 : decode cX7_next 72 = .ok (.invokevirtual 49, 3) := by decide +kernel
theorem dX7_next_75 : decode cX7_next 75 = .ok (.invokestatic 62, 3) := by decide +kernel
theorem dX7_next_78 : decode cX7_next 78 = .ok (.ifCond .eq 55, 3) := by decide +kernel
theorem dX7_next_81 : decode cX7_next 81 = .ok (.aload_n 0, 1) := by decide +kernel
theorem dX7_next_82 : decode cX7_next 82 = .ok (.aload_n 0, 1) := by decide +kernel
theorem dX7_next_83 : decode cX7_next 83 = .ok (.getfield 56, 3) := by decide +kernel
theorem dX7_next_86 : decode cX7_next 86 = .ok (.bipush 99, 2) := by decide +kernel
theorem dX7_next_88 : decode cX7_next 88 = .ok (.if_icmp .le 10, 3) := by decide +kernel
theorem dX7_next_91 : decode cX7_next 91 = .ok (.aload_n 0, 1) := by decide +kernel
theorem dX7_next_92 : decode cX7_next 92 = .ok (.getfield 56, 3) := by decide +kernel
theorem dX7_next_95 : decode cX7_next 95 = .ok (.goto 22, 3) := by decide +kernel
theorem dX7_next_98 : decode cX7_next 98 = .ok (.bipush 10, 2) := by decide +kernel
theorem dX7_next_100 : decode cX7_next 100 = .ok (.aload_n 0, 1) := by decide +kernel
theorem dX7_next_101 : decode cX7_next 101 = .ok (.getfield 56, 3) := by decide +kernel
theorem dX7_next_104 : decode cX7_next 104 = .ok (.imul, 1) := by decide +kernel
theorem dX7_next_105 : decode cX7_next 105 = .ok (.aload_n 0, 1) := by decide +kernel
theorem dX7_next_106 : decode cX7_next 106 = .ok (.aload_n 0, 1) := by decide +kernel
theorem dX7_next_107 : decode cX7_next 107 = .ok (.getfield 46, 3) := by decide +kernel
theorem dX7_next_110 : decode cX7_next 110 = .ok (.invokevirtual 49, 3) := by decide +kernel
theorem dX7_next_113 : decode cX7_next 113 = .ok (.iadd, 1) := by decide +kernel
theorem dX7_next_114 : decode cX7_next 114 = .ok (.bipush 48, 2) := by decide +kernel
theorem dX7_next_116 : decode cX7_next 116 = .ok (.isub, 1) := by decide +kernel
theorem dX7_next_117 : decode cX7_next 117 = .ok (.putfield 56, 3) := by decide +kernel
theorem dX7_next_120 : decode cX7_next 120 = .ok (.aload_n 0, 1) := by decide +kernel
theorem dX7_next_121 : decode cX7_next 121 = .ok (.dup, 1) := by decide +kernel
theorem dX7_next_122 : decode cX7_next 122 = .ok (.getfield 46, 3) := by decide +kernel
theorem dX7_next_125 : decode cX7_next 125 = .ok (.iconst 1, 1) := by decide +kernel
theorem dX7_next_126 : decode cX7_next 126 = .ok (.iadd, 1) := by decide +kernel
theorem dX7_next_127 : decode cX7_next 127 = .ok (.putfield 46, 3) := by decide +kernel
theorem dX7_next_130 : decode cX7_next 130 = .ok (.goto (-63), 3) := by decide +kernel
theorem dX7_next_133 : decode cX7_next 133 = .ok (.aload_n 0, 1) := by decide +kernel
theorem dX7_next_134 : decode cX7_next 134 = .ok (.aload_n 0, 1) := by decide +kernel
theorem dX7_next_135 : decode cX7_next 135 = .ok (.getfield 56, 3) := by decide +kernel
theorem dX7_next_138 : decode cX7_next 138 = .ok (.bipush 99, 2) := by decide +kernel
theorem dX7_next_140 : decode cX7_next 140 = .ok (.if_icmp .gt 22, 3) := by decide +kernel
theorem dX7_next_143 : decode cX7_next 143 = .ok (.iload_n 1, 1) := by decide +kernel
theorem dX7_next_144 : decode cX7_next 144 = .ok (.bipush 48, 2) := by decide +kernel
theorem dX7_next_146 : decode cX7_next 146 = .ok (.if_icmp .ne 20, 3) := by decide +kernel
theorem dX7_next_149 : decode cX7_next 149 = .ok (.aload_n 0, 1) := by decide +kernel
theorem dX7_next_150 : decode cX7_next 150 = .ok (.getfield 46, 3) := by decide +kernel
theorem dX7_next_153 : decode cX7_next 153 = .ok (.aload_n 0, 1) := by decide +kernel
theorem dX7_next_154 : decode cX7_next 154 = .ok (.getfield 53, 3) := by decide +kernel
theorem dX7_next_157 : decode cX7_next 157 = .ok (.isub, 1) := by decide +kernel
theorem dX7_next_158 : decode cX7_next 158 = .ok (.iconst 1, 1) := by decide +kernel
theorem dX7_next_159 : decode cX7_next 159 = .ok (.if_icmp .le 7, 3) := by decide +kernel
theorem dX7_next_162 : decode cX7_next 162 = .ok (.iconst 4, 1) := by decide +kernel
theorem dX7_next_163 : decode cX7_next 163 = .ok (.goto 4, 3) := by decide +kernel
theorem dX7_next_166 : decode cX7_next 166 = .ok (.iconst 2, 1) := by decide +kernel
theorem dX7_next_167 : decode cX7_next 167 = .ok (.putfield 59, 3) := by decide +kernel
theorem dX7_next_170 : decode cX7_next 170 = .ok (.goto 92, 3) := by decide +kernel
theorem dX7_next_173 : decode cX7_next 173 = .ok (.iload_n 1, 1) := by decide +kernel
theorem dX7_next_174 : decode cX7_next 174 = .ok (.invokestatic 66, 3) := by decide +kernel
theorem dX7_next_177 : decode cX7_next 177 = .ok (.ifCond .eq 60, 3) := by decide +kernel
theorem dX7_next_180 : decode cX7_next 180 = .ok (.aload_n 0, 1) := by decide +kernel
theorem dX7_next_181 : decode cX7_next 181 = .ok (.aload_n 0, 1) := by decide +kernel
theorem dX7_next_182 : decode cX7_next 182 = .ok (.getfield 46, 3) := by decide +kernel
theorem dX7_next_185 : decode cX7_next 185 = .ok (.invokevirtual 49, 3) := by decide +kernel
theorem dX7_next_188 : decode cX7_next 188 = .ok (.invokestatic 66, 3) := by decide +kernel
theorem dX7_next_191 : decode cX7_next 191 = .ok (.ifCond .eq 16, 3) := by decide +kernel
theorem dX7_next_194 : decode cX7_next 194 = .ok (.aload_n 0, 1) := by decide +kernel
theorem dX7_next_195 : decode cX7_next 195 = .ok (.dup, 1) := by decide +kernel
theorem dX7_next_196 : decode cX7_next 196 = .ok (.getfield 46, 3) := by decide +kernel
theorem dX7_next_199 : decode cX7_next 199 = .ok (.iconst 1, 1) := by decide +kernel
theorem dX7_next_200 : decode cX7_next 200 = .ok (.iadd, 1) := by decide +kernel
theorem dX7_next_201 : decode cX7_next 201 = .ok (.putfield 46, 3) := by decide +kernel
theorem dX7_next_204 : decode cX7_next 204 = .ok (.goto (-24), 3) := by decide +kernel
theorem dX7_next_207 : decode cX7_next 207 = .ok (.aload_n 0, 1) := by decide +kernel
theorem dX7_next_208 : decode cX7_next 208 = .ok (.iconst 1, 1) := by decide +kernel
theorem dX7_next_209 : decode cX7_next 209 = .ok (.putfield 59, 3) := by decide +kernel
theorem dX7_next_212 : decode cX7_next 212 = .ok (.aload_n 0, 1) := by decide +kernel
theorem dX7_next_213 : decode cX7_next 213 = .ok (.aload_n 0, 1) := by decide +kernel
theorem dX7_next_214 : decode cX7_next 214 = .ok (.getfield 46, 3) := by decide +kernel
theorem dX7_next_217 : decode cX7_next 217 = .ok (.aload_n 0, 1) := by decide +kernel
theorem dX7_next_218 : decode cX7_next 218 = .ok (.getfield 53, 3) := by decide +kernel
theorem dX7_next_221 : decode cX7_next 221 = .ok (.isub, 1) := by decide +kernel
theorem dX7_next_222 : decode cX7_next 222 = .ok (.iconst 1, 1) := by decide +kernel
theorem dX7_next_223 : decode cX7_next 223 = .ok (.if_icmp .ne 7, 3) := by decide +kernel
theorem dX7_next_226 : decode cX7_next 226 = .ok (.iload_n 1, 1) := by decide +kernel
theorem dX7_next_227 : decode cX7_next 227 = .ok (.goto 4, 3) := by decide +kernel
theorem dX7_next_230 : decode cX7_next 230 = .ok (.iconst 0, 1) := by decide +kernel
theorem dX7_next_231 : decode cX7_next 231 = .ok (.putfield 56, 3) := by decide +kernel
theorem dX7_next_234 : decode cX7_next 234 = .ok (.goto 28, 3) := by decide +kernel
theorem dX7_next_237 : decode cX7_next 237 = .ok (.aload_n 0, 1) := by decide +kernel
theorem dX7_next_238 : decode cX7_next 238 = .ok (.iload_n 1, 1) := by decide +kernel
theorem dX7_next_239 : decode cX7_next 239 = .ok (.bipush 59, 2) := by decide +kernel
theorem dX7_next_241 : decode cX7_next 241 = .ok (.if_icmp .ne 7, 3) := by decide +kernel
theorem dX7_next_244 : decode cX7_next 244 = .ok (.iconst 3, 1) := by decide +kernel
theorem dX7_next_245 : decode cX7_next 245 = .ok (.goto 4, 3) := by decide +kernel
theorem dX7_next_248 : decode cX7_next 248 = .ok (.iconst 4, 1) := by decide +kernel
theorem dX7_next_249 : decode cX7_next 249 = .ok (.putfield 59, 3) := by decide +kernel
theorem dX7_next_252 : decode cX7_next 252 = .ok (.aload_n 0, 1) := by decide +kernel
theorem dX7_next_253 : decode cX7_next 253 = .ok (.dup, 1) := by decide +kernel
theorem dX7_next_254 : decode cX7_next 254 = .ok (.getfield 46, 3) := by decide +kernel
theorem dX7_next_257 : decode cX7_next 257 = .ok (.iconst 1, 1) := by decide +kernel
theorem dX7_next_258 : decode cX7_next 258 = .ok (.iadd, 1) := by decide +kernel
theorem dX7_next_259 : decode cX7_next 259 = .ok (.putfield 46, 3) := by decide +kernel
theorem dX7_next_262 : decode cX7_next 262 = .ok (.return_, 1) := by decide +kernel
theorem dX7_takesNumber_0 : decode cX7_takesNumber 0 = .ok (.aload_n 0, 1) := by decide +kernel
theorem dX7_takesNumber_1 : decode cX7_takesNumber 1 = .ok (.getfield 69, 3) := by decide +kernel
theorem dX7_takesNumber_4 : decode cX7_takesNumber 4 = .ok (.ifCond .ne 27, 3) := by decide +kernel
theorem dX7_takesNumber_7 : decode cX7_takesNumber 7 = .ok (.aload_n 0, 1) := by decide +kernel
theorem dX7_takesNumber_8 : decode cX7_takesNumber 8 = .ok (.getfield 59, 3) := by decide +kernel
theorem dX7_takesNumber_11 : decode cX7_takesNumber 11 = .ok (.iconst 2, 1) := by decide +kernel
theorem dX7_takesNumber_12 : decode cX7_takesNumber 12 = .ok (.if_icmp .ne 19, 3) := by decide +kernel
theorem dX7_takesNumber_15 : decode cX7_takesNumber 15 = .ok (.aload_n 0, 1) := by decide +kernel
theorem dX7_takesNumber_16 : decode cX7_takesNumber 16 = .ok (.getfield 56, 3) := by decide +kernel
theorem dX7_takesNumber_19 : decode cX7_takesNumber 19 = .ok (.iload_n 1, 1) := by decide +kernel
theorem dX7_takesNumber_20 : decode cX7_takesNumber 20 = .ok (.iload_n 2, 1) := by decide +kernel
theorem dX7_takesNumber_21 : decode cX7_takesNumber 21 = .ok (.invokestatic 39, 3) := by decide +kernel
theorem dX7_takesNumber_24 : decode cX7_takesNumber 24 = .ok (.ifCond .eq 7, 3) := by decide +kernel
theorem dX7_takesNumber_27 : decode cX7_takesNumber 27 = .ok (.iconst 1, 1) := by decide +kernel
theorem dX7_takesNumber_28 : decode cX7_takesNumber 28 = .ok (.goto 4, 3) := by decide +kernel
theorem dX7_takesNumber_31 : decode cX7_takesNumber 31 = .ok (.iconst 0, 1) := by decide +kernel
theorem dX7_takesNumber_32 : decode cX7_takesNumber 32 = .ok (.istore_n 3, 1) := by decide +kernel
theorem dX7_takesNumber_33 : decode cX7_takesNumber 33 = .ok (.aload_n 0, 1) := by decide +kernel
theorem dX7_takesNumber_34 : decode cX7_takesNumber 34 = .ok (.iload_n 3, 1) := by decide +kernel
theorem dX7_takesNumber_35 : decode cX7_takesNumber 35 = .ok (.ifCond .ne 7, 3) := by decide +kernel
theorem dX7_takesNumber_38 : decode cX7_takesNumber 38 = .ok (.iconst 1, 1) := by decide +kernel
theorem dX7_takesNumber_39 : decode cX7_takesNumber 39 = .ok (.goto 4, 3) := by decide +kernel
theorem dX7_takesNumber_42 : decode cX7_takesNumber 42 = .ok (.iconst 0, 1) := by decide +kernel
theorem dX7_takesNumber_43 : decode cX7_takesNumber 43 = .ok (.putfield 69, 3) := by decide +kernel
theorem dX7_takesNumber_46 : decode cX7_takesNumber 46 = .ok (.aload_n 0, 1) := by decide +kernel
theorem dX7_takesNumber_47 : decode cX7_takesNumber 47 = .ok (.getfield 56, 3) := by decide +kernel
theorem dX7_takesNumber_50 : decode cX7_takesNumber 50 = .ok (.istore 4, 2) := by decide +kernel
theorem dX7_takesNumber_52 : decode cX7_takesNumber 52 = .ok (.iload_n 3, 1) := by decide +kernel
theorem dX7_takesNumber_53 : decode cX7_takesNumber 53 = .ok (.ifCond .eq 7, 3) := by decide +kernel
theorem dX7_takesNumber_56 : decode cX7_takesNumber 56 = .ok (.aload_n 0, 1) := by decide +kernel
theorem dX7_takesNumber_57 : decode cX7_takesNumber 57 = .ok (.invokevirtual 73, 3) := by decide +kernel
theorem dX7_takesNumber_60 : decode cX7_takesNumber 60 = .ok (.iload_n 3, 1) := by decide +kernel
theorem dX7_takesNumber_61 : decode cX7_takesNumber 61 = .ok (.ifCond .eq 8, 3) := by decide +kernel
theorem dX7_takesNumber_64 : decode cX7_takesNumber 64 = .ok (.iload 4, 2) := by decide +kernel
theorem dX7_takesNumber_66 : decode cX7_takesNumber 66 = .ok (.goto 4, 3) := by decide +kernel
theorem dX7_takesNumber_69 : decode cX7_takesNumber 69 = .ok (.iconst 0, 1) := by decide +kernel
theorem dX7_takesNumber_70 : decode cX7_takesNumber 70 = .ok (.ireturn, 1) := by decide +kernel
theorem dX7_takesCell_0 : decode cX7_takesCell 0 = .ok (.aload_n 0, 1) := by decide +kernel
theorem dX7_takesCell_1 : decode cX7_takesCell 1 = .ok (.iconst 0, 1) := by decide +kernel
theorem dX7_takesCell_2 : decode cX7_takesCell 2 = .ok (.aload_n 0, 1) := by decide +kernel
theorem dX7_takesCell_3 : decode cX7_takesCell 3 = .ok (.getfield 76, 3) := by decide +kernel
theorem dX7_takesCell_6 : decode cX7_takesCell 6 = .ok (.iconst 1, 1) := by decide +kernel
theorem dX7_takesCell_7 : decode cX7_takesCell 7 = .ok (.isub, 1) := by decide +kernel
theorem dX7_takesCell_8 : decode cX7_takesCell 8 = .ok (.invokevirtual 79, 3) := by decide +kernel
theorem dX7_takesCell_11 : decode cX7_takesCell 11 = .ok (.istore_n 2, 1) := by decide +kernel
theorem dX7_takesCell_12 : decode cX7_takesCell 12 = .ok (.aload_n 0, 1) := by decide +kernel
theorem dX7_takesCell_13 : decode cX7_takesCell 13 = .ok (.getfield 69, 3) := by decide +kernel
theorem dX7_takesCell_16 : decode cX7_takesCell 16 = .ok (.ifCond .ne 32, 3) := by decide +kernel
theorem dX7_takesCell_19 : decode cX7_takesCell 19 = .ok (.aload_n 0, 1) := by decide +kernel
theorem dX7_takesCell_20 : decode cX7_takesCell 20 = .ok (.getfield 59, 3) := by decide +kernel
theorem dX7_takesCell_23 : decode cX7_takesCell 23 = .ok (.iconst 2, 1) := by decide +kernel
theorem dX7_takesCell_24 : decode cX7_takesCell 24 = .ok (.if_icmp .ne 24, 3) := by decide +kernel
theorem dX7_takesCell_27 : decode cX7_takesCell 27 = .ok (.aload_n 0, 1) := by decide +kernel
theorem dX7_takesCell_28 : decode cX7_takesCell 28 = .ok (.getfield 56, 3) := by decide +kernel
theorem dX7_takesCell_31 : decode cX7_takesCell 31 = .ok (.iconst 0, 1) := by decide +kernel
theorem dX7_takesCell_32 : decode cX7_takesCell 32 = .ok (.aload_n 0, 1) := by decide +kernel
theorem dX7_takesCell_33 : decode cX7_takesCell 33 = .ok (.getfield 83, 3) := by decide +kernel
theorem dX7_takesCell_36 : decode cX7_takesCell 36 = .ok (.iconst 1, 1) := by decide +kernel
theorem dX7_takesCell_37 : decode cX7_takesCell 37 = .ok (.isub, 1) := by decide +kernel
theorem dX7_takesCell_38 : decode cX7_takesCell 38 = .ok (.invokestatic 39, 3) := by decide +kernel
theorem dX7_takesCell_41 : decode cX7_takesCell 41 = .ok (.ifCond .eq 7, 3) := by decide +kernel
theorem dX7_takesCell_44 : decode cX7_takesCell 44 = .ok (.iconst 1, 1) := by decide +kernel
theorem dX7_takesCell_45 : decode cX7_takesCell 45 = .ok (.goto 4, 3) := by decide +kernel
theorem dX7_takesCell_48 : decode cX7_takesCell 48 = .ok (.iconst 0, 1) := by decide +kernel
theorem dX7_takesCell_49 : decode cX7_takesCell 49 = .ok (.istore_n 3, 1) := by decide +kernel
theorem dX7_takesCell_50 : decode cX7_takesCell 50 = .ok (.iload_n 3, 1) := by decide +kernel
theorem dX7_takesCell_51 : decode cX7_takesCell 51 = .ok (.ifCond .eq 14, 3) := by decide +kernel
theorem dX7_takesCell_54 : decode cX7_takesCell 54 = .ok (.iconst 5, 1) := by decide +kernel
theorem dX7_takesCell_55 : decode cX7_takesCell 55 = .ok (.aload_n 0, 1) := by decide +kernel
theorem dX7_takesCell_56 : decode cX7_takesCell 56 = .ok (.getfield 56, 3) := by decide +kernel
theorem dX7_takesCell_59 : decode cX7_takesCell 59 = .ok (.imul, 1) := by decide +kernel
theorem dX7_takesCell_60 : decode cX7_takesCell 60 = .ok (.iload_n 2, 1) := by decide +kernel
theorem dX7_takesCell_61 : decode cX7_takesCell 61 = .ok (.iadd, 1) := by decide +kernel
theorem dX7_takesCell_62 : decode cX7_takesCell 62 = .ok (.goto 4, 3) := by decide +kernel
theorem dX7_takesCell_65 : decode cX7_takesCell 65 = .ok (.iconst 0, 1) := by decide +kernel
theorem dX7_takesCell_66 : decode cX7_takesCell 66 = .ok (.istore 4, 2) := by decide +kernel
theorem dX7_takesCell_68 : decode cX7_takesCell 68 = .ok (.aload_n 0, 1) := by decide +kernel
theorem dX7_takesCell_69 : decode cX7_takesCell 69 = .ok (.iload_n 3, 1) := by decide +kernel
theorem dX7_takesCell_70 : decode cX7_takesCell 70 = .ok (.ifCond .eq 32, 3) := by decide +kernel
theorem dX7_takesCell_73 : decode cX7_takesCell 73 = .ok (.iload_n 1, 1) := by decide +kernel
theorem dX7_takesCell_74 : decode cX7_takesCell 74 = .ok (.ifCond .eq 18, 3) := by decide +kernel
theorem dX7_takesCell_77 : decode cX7_takesCell 77 = .ok (.aload_n 0, 1) := by decide +kernel
theorem dX7_takesCell_78 : decode cX7_takesCell 78 = .ok (.getfield 86, 3) := by decide +kernel
theorem dX7_takesCell_81 : decode cX7_takesCell 81 = .ok (.iload 4, 2) := by decide +kernel
theorem dX7_takesCell_83 : decode cX7_takesCell 83 = .ok (.invokestatic 89, 3) := by decide +kernel
theorem dX7_takesCell_86 : decode cX7_takesCell 86 = .ok (.ifCond .eq 20, 3) := by decide +kernel
theorem dX7_takesCell_89 : decode cX7_takesCell 89 = .ok (.goto 13, 3) := by decide +kernel
theorem dX7_takesCell_92 : decode cX7_takesCell 92 = .ok (.aload_n 0, 1) := by decide +kernel
theorem dX7_takesCell_93 : decode cX7_takesCell 93 = .ok (.getfield 33, 3) := by decide +kernel
theorem dX7_takesCell_96 : decode cX7_takesCell 96 = .ok (.iload 4, 2) := by decide +kernel
theorem dX7_takesCell_98 : decode cX7_takesCell 98 = .ok (.iaload, 1) := by decide +kernel
theorem dX7_takesCell_99 : decode cX7_takesCell 99 = .ok (.ifCond .le 7, 3) := by decide +kernel
theorem dX7_takesCell_102 : decode cX7_takesCell 102 = .ok (.iconst 1, 1) := by decide +kernel
theorem dX7_takesCell_103 : decode cX7_takesCell 103 = .ok (.goto 4, 3) := by decide +kernel
theorem dX7_takesCell_106 : decode cX7_takesCell 106 = .ok (.iconst 0, 1) := by decide +kernel
theorem dX7_takesCell_107 : decode cX7_takesCell 107 = .ok (.putfield 69, 3) := by decide +kernel
theorem dX7_takesCell_110 : decode cX7_takesCell 110 = .ok (.aload_n 0, 1) := by decide +kernel
theorem dX7_takesCell_111 : decode cX7_takesCell 111 = .ok (.getfield 69, 3) := by decide +kernel
theorem dX7_takesCell_114 : decode cX7_takesCell 114 = .ok (.ifCond .ne 7, 3) := by decide +kernel
theorem dX7_takesCell_117 : decode cX7_takesCell 117 = .ok (.aload_n 0, 1) := by decide +kernel
theorem dX7_takesCell_118 : decode cX7_takesCell 118 = .ok (.invokevirtual 73, 3) := by decide +kernel
theorem dX7_takesCell_121 : decode cX7_takesCell 121 = .ok (.iload 4, 2) := by decide +kernel
theorem dX7_takesCell_123 : decode cX7_takesCell 123 = .ok (.ireturn, 1) := by decide +kernel
theorem dX7_readItem_0 : decode cX7_readItem 0 = .ok (.aload_n 0, 1) := by decide +kernel
theorem dX7_readItem_1 : decode cX7_readItem 1 = .ok (.getfield 56, 3) := by decide +kernel
theorem dX7_readItem_4 : decode cX7_readItem 4 = .ok (.istore_n 1, 1) := by decide +kernel
theorem dX7_readItem_5 : decode cX7_readItem 5 = .ok (.iload_n 1, 1) := by decide +kernel
theorem dX7_readItem_6 : decode cX7_readItem 6 = .ok (.bipush 103, 2) := by decide +kernel
theorem dX7_readItem_8 : decode cX7_readItem 8 = .ok (.if_icmp .ne 18, 3) := by decide +kernel
theorem dX7_readItem_11 : decode cX7_readItem 11 = .ok (.aload_n 0, 1) := by decide +kernel
theorem dX7_readItem_12 : decode cX7_readItem 12 = .ok (.getfield 93, 3) := by decide +kernel
theorem dX7_readItem_15 : decode cX7_readItem 15 = .ok (.ifCond .ne 7, 3) := by decide +kernel
theorem dX7_readItem_18 : decode cX7_readItem 18 = .ok (.iconst 1, 1) := by decide +kernel
theorem dX7_readItem_19 : decode cX7_readItem 19 = .ok (.goto 45, 3) := by decide +kernel
theorem dX7_readItem_22 : decode cX7_readItem 22 = .ok (.iconst 0, 1) := by decide +kernel
theorem dX7_readItem_23 : decode cX7_readItem 23 = .ok (.goto 41, 3) := by decide +kernel
theorem dX7_readItem_26 : decode cX7_readItem 26 = .ok (.iload_n 1, 1) := by decide +kernel
theorem dX7_readItem_27 : decode cX7_readItem 27 = .ok (.bipush 119, 2) := by decide +kernel
theorem dX7_readItem_29 : decode cX7_readItem 29 = .ok (.if_icmp .ne 18, 3) := by decide +kernel
theorem dX7_readItem_32 : decode cX7_readItem 32 = .ok (.aload_n 0, 1) := by decide +kernel
theorem dX7_readItem_33 : decode cX7_readItem 33 = .ok (.getfield 96, 3) := by decide +kernel
theorem dX7_readItem_36 : decode cX7_readItem 36 = .ok (.ifCond .ge 7, 3) := by decide +kernel
theorem dX7_readItem_39 : decode cX7_readItem 39 = .ok (.iconst 1, 1) := by decide +kernel
theorem dX7_readItem_40 : decode cX7_readItem 40 = .ok (.goto 24, 3) := by decide +kernel
theorem dX7_readItem_43 : decode cX7_readItem 43 = .ok (.iconst 0, 1) := by decide +kernel
theorem dX7_readItem_44 : decode cX7_readItem 44 = .ok (.goto 20, 3) := by decide +kernel
theorem dX7_readItem_47 : decode cX7_readItem 47 = .ok (.iload_n 1, 1) := by decide +kernel
theorem dX7_readItem_48 : decode cX7_readItem 48 = .ok (.bipush 111, 2) := by decide +kernel
theorem dX7_readItem_50 : decode cX7_readItem 50 = .ok (.if_icmp .eq 9, 3) := by decide +kernel
theorem dX7_readItem_53 : decode cX7_readItem 53 = .ok (.iload_n 1, 1) := by decide +kernel
theorem dX7_readItem_54 : decode cX7_readItem 54 = .ok (.bipush 99, 2) := by decide +kernel
theorem dX7_readItem_56 : decode cX7_readItem 56 = .ok (.if_icmp .ne 7, 3) := by decide +kernel
theorem dX7_readItem_59 : decode cX7_readItem 59 = .ok (.iconst 1, 1) := by decide +kernel
theorem dX7_readItem_60 : decode cX7_readItem 60 = .ok (.goto 4, 3) := by decide +kernel
theorem dX7_readItem_63 : decode cX7_readItem 63 = .ok (.iconst 0, 1) := by decide +kernel
theorem dX7_readItem_64 : decode cX7_readItem 64 = .ok (.istore_n 2, 1) := by decide +kernel
theorem dX7_readItem_65 : decode cX7_readItem 65 = .ok (.aload_n 0, 1) := by decide +kernel
theorem dX7_readItem_66 : decode cX7_readItem 66 = .ok (.getfield 59, 3) := by decide +kernel
theorem dX7_readItem_69 : decode cX7_readItem 69 = .ok (.iconst 1, 1) := by decide +kernel
theorem dX7_readItem_70 : decode cX7_readItem 70 = .ok (.if_icmp .ne 7, 3) := by decide +kernel
theorem dX7_readItem_73 : decode cX7_readItem 73 = .ok (.iload_n 2, 1) := by decide +kernel
theorem dX7_readItem_74 : decode cX7_readItem 74 = .ok (.ifCond .ne 9, 3) := by decide +kernel
theorem dX7_readItem_77 : decode cX7_readItem 77 = .ok (.aload_n 0, 1) := by decide +kernel
theorem dX7_readItem_78 : decode cX7_readItem 78 = .ok (.iconst 1, 1) := by decide +kernel
theorem dX7_readItem_79 : decode cX7_readItem 79 = .ok (.putfield 69, 3) := by decide +kernel
theorem dX7_readItem_82 : decode cX7_readItem 82 = .ok (.return_, 1) := by decide +kernel
theorem dX7_readItem_83 : decode cX7_readItem 83 = .ok (.aload_n 0, 1) := by decide +kernel
theorem dX7_readItem_84 : decode cX7_readItem 84 = .ok (.invokevirtual 73, 3) := by decide +kernel
theorem dX7_readItem_87 : decode cX7_readItem 87 = .ok (.iload_n 1, 1) := by decide +kernel
theorem dX7_readItem_88 : decode cX7_readItem 88 = .ok (.bipush 103, 2) := by decide +kernel
theorem dX7_readItem_90 : decode cX7_readItem 90 = .ok (.if_icmp .ne 26, 3) := by decide +kernel
theorem dX7_readItem_93 : decode cX7_readItem 93 = .ok (.aload_n 0, 1) := by decide +kernel
theorem dX7_readItem_94 : decode cX7_readItem 94 = .ok (.aload_n 0, 1) := by decide +kernel
theorem dX7_readItem_95 : decode cX7_readItem 95 = .ok (.iconst 1, 1) := by decide +kernel
theorem dX7_readItem_96 : decode cX7_readItem 96 = .ok (.iconst 5, 1) := by decide +kernel
theorem dX7_readItem_97 : decode cX7_readItem 97 = .ok (.invokevirtual 79, 3) := by decide +kernel
theorem dX7_readItem_100 : decode cX7_readItem 100 = .ok (.putfield 76, 3) := by decide +kernel
theorem dX7_readItem_103 : decode cX7_readItem 103 = .ok (.aload_n 0, 1) := by decide +kernel
theorem dX7_readItem_104 : decode cX7_readItem 104 = .ok (.aload_n 0, 1) := by decide +kernel
theorem dX7_readItem_105 : decode cX7_readItem 105 = .ok (.iconst 1, 1) := by decide +kernel
theorem dX7_readItem_106 : decode cX7_readItem 106 = .ok (.iconst 4, 1) := by decide +kernel
theorem dX7_readItem_107 : decode cX7_readItem 107 = .ok (.invokevirtual 79, 3) := by decide +kernel
theorem dX7_readItem_110 : decode cX7_readItem 110 = .ok (.putfield 83, 3) := by decide +kernel
theorem dX7_readItem_113 : decode cX7_readItem 113 = .ok (.goto 101, 3) := by decide +kernel
theorem dX7_readItem_116 : decode cX7_readItem 116 = .ok (.iload_n 1, 1) := by decide +kernel
theorem dX7_readItem_117 : decode cX7_readItem 117 = .ok (.bipush 119, 2) := by decide +kernel
theorem dX7_readItem_119 : decode cX7_readItem 119 = .ok (.if_icmp .ne 16, 3) := by decide +kernel
theorem dX7_readItem_122 : decode cX7_readItem 122 = .ok (.aload_n 0, 1) := by decide +kernel
theorem dX7_readItem_123 : decode cX7_readItem 123 = .ok (.aload_n 0, 1) := by decide +kernel
theorem dX7_readItem_124 : decode cX7_readItem 124 = .ok (.iconst 0, 1) := by decide +kernel
theorem dX7_readItem_125 : decode cX7_readItem 125 = .ok (.iconst 1, 1) := by decide +kernel
theorem dX7_readItem_126 : decode cX7_readItem 126 = .ok (.invokevirtual 79, 3) := by decide +kernel
theorem dX7_readItem_129 : decode cX7_readItem 129 = .ok (.putfield 96, 3) := by decide +kernel
theorem dX7_readItem_132 : decode cX7_readItem 132 = .ok (.goto 82, 3) := by decide +kernel
theorem dX7_readItem_135 : decode cX7_readItem 135 = .ok (.iload_n 1, 1) := by decide +kernel
theorem dX7_readItem_136 : decode cX7_readItem 136 = .ok (.bipush 111, 2) := by decide +kernel
theorem dX7_readItem_138 : decode cX7_readItem 138 = .ok (.if_icmp .ne 47, 3) := by decide +kernel
theorem dX7_readItem_141 : decode cX7_readItem 141 = .ok (.aload_n 0, 1) := by decide +kernel
theorem dX7_readItem_142 : decode cX7_readItem 142 = .ok (.iconst 0, 1) := by decide +kernel
theorem dX7_readItem_143 : decode cX7_readItem 143 = .ok (.iconst 4, 1) := by decide +kernel
theorem dX7_readItem_144 : decode cX7_readItem 144 = .ok (.invokevirtual 79, 3) := by decide +kernel
theorem dX7_readItem_147 : decode cX7_readItem 147 = .ok (.istore_n 3, 1) := by decide +kernel
theorem dX7_readItem_148 : decode cX7_readItem 148 = .ok (.aload_n 0, 1) := by decide +kernel
theorem dX7_readItem_149 : decode cX7_readItem 149 = .ok (.iconst 0, 1) := by decide +kernel
theorem dX7_readItem_150 : decode cX7_readItem 150 = .ok (.invokevirtual 99, 3) := by decide +kernel
theorem dX7_readItem_153 : decode cX7_readItem 153 = .ok (.istore 4, 2) := by decide +kernel
theorem dX7_readItem_155 : decode cX7_readItem 155 = .ok (.aload_n 0, 1) := by decide +kernel
theorem dX7_readItem_156 : decode cX7_readItem 156 = .ok (.getfield 33, 3) := by decide +kernel
theorem dX7_readItem_159 : decode cX7_readItem 159 = .ok (.iload 4, 2) := by decide +kernel
theorem dX7_readItem_161 : decode cX7_readItem 161 = .ok (.aload_n 0, 1) := by decide +kernel
theorem dX7_readItem_162 : decode cX7_readItem 162 = .ok (.getfield 69, 3) := by decide +kernel
theorem dX7_readItem_165 : decode cX7_readItem 165 = .ok (.ifCond .eq 13, 3) := by decide +kernel
theorem dX7_readItem_168 : decode cX7_readItem 168 = .ok (.aload_n 0, 1) := by decide +kernel
theorem dX7_readItem_169 : decode cX7_readItem 169 = .ok (.getfield 33, 3) := by decide +kernel
theorem dX7_readItem_172 : decode cX7_readItem 172 = .ok (.iload 4, 2) := by decide +kernel
theorem dX7_readItem_174 : decode cX7_readItem 174 = .ok (.iaload, 1) := by decide +kernel
theorem dX7_readItem_175 : decode cX7_readItem 175 = .ok (.goto 6, 3) := by decide +kernel
theorem dX7_readItem_178 : decode cX7_readItem 178 = .ok (.iload_n 3, 1) := by decide +kernel
theorem dX7_readItem_179 : decode cX7_readItem 179 = .ok (.iconst 1, 1) := by decide +kernel
theorem dX7_readItem_180 : decode cX7_readItem 180 = .ok (.iadd, 1) := by decide +kernel
theorem dX7_readItem_181 : decode cX7_readItem 181 = .ok (.iastore, 1) := by decide +kernel
theorem dX7_readItem_182 : decode cX7_readItem 182 = .ok (.goto 32, 3) := by decide +kernel
theorem dX7_readItem_185 : decode cX7_readItem 185 = .ok (.aload_n 0, 1) := by decide +kernel
theorem dX7_readItem_186 : decode cX7_readItem 186 = .ok (.iconst 1, 1) := by decide +kernel
theorem dX7_readItem_187 : decode cX7_readItem 187 = .ok (.invokevirtual 99, 3) := by decide +kernel
theorem dX7_readItem_190 : decode cX7_readItem 190 = .ok (.istore_n 3, 1) := by decide +kernel
theorem dX7_readItem_191 : decode cX7_readItem 191 = .ok (.aload_n 0, 1) := by decide +kernel
theorem dX7_readItem_192 : decode cX7_readItem 192 = .ok (.dup, 1) := by decide +kernel
theorem dX7_readItem_193 : decode cX7_readItem 193 = .ok (.getfield 86, 3) := by decide +kernel
theorem dX7_readItem_196 : decode cX7_readItem 196 = .ok (.aload_n 0, 1) := by decide +kernel
theorem dX7_readItem_197 : decode cX7_readItem 197 = .ok (.getfield 69, 3) := by decide +kernel
theorem dX7_readItem_200 : decode cX7_readItem 200 = .ok (.ifCond .eq 7, 3) := by decide +kernel
theorem dX7_readItem_203 : decode cX7_readItem 203 = .ok (.iconst 0, 1) := by decide +kernel
theorem dX7_readItem_204 : decode cX7_readItem 204 = .ok (.goto 6, 3) := by decide +kernel
theorem dX7_readItem_207 : decode cX7_readItem 207 = .ok (.iconst 1, 1) := by decide +kernel
theorem dX7_readItem_208 : decode cX7_readItem 208 = .ok (.iload_n 3, 1) := by decide +kernel
theorem dX7_readItem_209 : decode cX7_readItem 209 = .ok (.ishl, 1) := by decide +kernel
theorem dX7_readItem_210 : decode cX7_readItem 210 = .ok (.ior, 1) := by decide +kernel
theorem dX7_readItem_211 : decode cX7_readItem 211 = .ok (.putfield 86, 3) := by decide +kernel
theorem dX7_readItem_214 : decode cX7_readItem 214 = .ok (.aload_n 0, 1) := by decide +kernel
theorem dX7_readItem_215 : decode cX7_readItem 215 = .ok (.aload_n 0, 1) := by decide +kernel
theorem dX7_readItem_216 : decode cX7_readItem 216 = .ok (.getfield 69, 3) := by decide +kernel
theorem dX7_readItem_219 : decode cX7_readItem 219 = .ok (.ifCond .ne 11, 3) := by decide +kernel
theorem dX7_readItem_222 : decode cX7_readItem 222 = .ok (.aload_n 0, 1) := by decide +kernel
theorem dX7_readItem_223 : decode cX7_readItem 223 = .ok (.getfield 59, 3) := by decide +kernel
theorem dX7_readItem_226 : decode cX7_readItem 226 = .ok (.iconst 3, 1) := by decide +kernel
theorem dX7_readItem_227 : decode cX7_readItem 227 = .ok (.if_icmp .eq 7, 3) := by decide +kernel
theorem dX7_readItem_230 : decode cX7_readItem 230 = .ok (.iconst 1, 1) := by decide +kernel
theorem dX7_readItem_231 : decode cX7_readItem 231 = .ok (.goto 4, 3) := by decide +kernel
theorem dX7_readItem_234 : decode cX7_readItem 234 = .ok (.iconst 0, 1) := by decide +kernel
theorem dX7_readItem_235 : decode cX7_readItem 235 = .ok (.putfield 69, 3) := by decide +kernel
theorem dX7_readItem_238 : decode cX7_readItem 238 = .ok (.aload_n 0, 1) := by decide +kernel
theorem dX7_readItem_239 : decode cX7_readItem 239 = .ok (.getfield 69, 3) := by decide +kernel
theorem dX7_readItem_242 : decode cX7_readItem 242 = .ok (.ifCond .ne 7, 3) := by decide +kernel
theorem dX7_readItem_245 : decode cX7_readItem 245 = .ok (.aload_n 0, 1) := by decide +kernel
theorem dX7_readItem_246 : decode cX7_readItem 246 = .ok (.invokevirtual 73, 3) := by decide +kernel
theorem dX7_readItem_249 : decode cX7_readItem 249 = .ok (.return_, 1) := by decide +kernel
theorem dX7_strand_0 : decode cX7_strand 0 = .ok (.aload_n 0, 1) := by decide +kernel
theorem dX7_strand_1 : decode cX7_strand 1 = .ok (.iconst 0, 1) := by decide +kernel
theorem dX7_strand_2 : decode cX7_strand 2 = .ok (.putfield 46, 3) := by decide +kernel
theorem dX7_strand_5 : decode cX7_strand 5 = .ok (.aload_n 0, 1) := by decide +kernel
theorem dX7_strand_6 : decode cX7_strand 6 = .ok (.iconst 0, 1) := by decide +kernel
theorem dX7_strand_7 : decode cX7_strand 7 = .ok (.putfield 69, 3) := by decide +kernel
theorem dX7_strand_10 : decode cX7_strand 10 = .ok (.aload_n 0, 1) := by decide +kernel
theorem dX7_strand_11 : decode cX7_strand 11 = .ok (.iconst 0, 1) := by decide +kernel
theorem dX7_strand_12 : decode cX7_strand 12 = .ok (.putfield 93, 3) := by decide +kernel
theorem dX7_strand_15 : decode cX7_strand 15 = .ok (.aload_n 0, 1) := by decide +kernel
theorem dX7_strand_16 : decode cX7_strand 16 = .ok (.iconst 3, 1) := by decide +kernel
theorem dX7_strand_17 : decode cX7_strand 17 = .ok (.putfield 76, 3) := by decide +kernel
theorem dX7_strand_20 : decode cX7_strand 20 = .ok (.aload_n 0, 1) := by decide +kernel
theorem dX7_strand_21 : decode cX7_strand 21 = .ok (.iconst 3, 1) := by decide +kernel
theorem dX7_strand_22 : decode cX7_strand 22 = .ok (.putfield 83, 3) := by decide +kernel
theorem dX7_strand_25 : decode cX7_strand 25 = .ok (.aload_n 0, 1) := by decide +kernel
theorem dX7_strand_26 : decode cX7_strand 26 = .ok (.iconst 0, 1) := by decide +kernel
theorem dX7_strand_27 : decode cX7_strand 27 = .ok (.putfield 86, 3) := by decide +kernel
theorem dX7_strand_30 : decode cX7_strand 30 = .ok (.aload_n 0, 1) := by decide +kernel
theorem dX7_strand_31 : decode cX7_strand 31 = .ok (.iconst (-1), 1) := by decide +kernel
theorem dX7_strand_32 : decode cX7_strand 32 = .ok (.putfield 96, 3) := by decide +kernel
theorem dX7_strand_35 : decode cX7_strand 35 = .ok (.iconst 0, 1) := by decide +kernel
theorem dX7_strand_36 : decode cX7_strand 36 = .ok (.istore_n 1, 1) := by decide +kernel
theorem dX7_strand_37 : decode cX7_strand 37 = .ok (.iload_n 1, 1) := by decide +kernel
theorem dX7_strand_38 : decode cX7_strand 38 = .ok (.bipush 20, 2) := by decide +kernel
theorem dX7_strand_40 : decode cX7_strand 40 = .ok (.if_icmp .ge 16, 3) := by decide +kernel
theorem dX7_strand_43 : decode cX7_strand 43 = .ok (.aload_n 0, 1) := by decide +kernel
theorem dX7_strand_44 : decode cX7_strand 44 = .ok (.getfield 33, 3) := by decide +kernel
theorem dX7_strand_47 : decode cX7_strand 47 = .ok (.iload_n 1, 1) := by decide +kernel
theorem dX7_strand_48 : decode cX7_strand 48 = .ok (.iconst 0, 1) := by decide +kernel
theorem dX7_strand_49 : decode cX7_strand 49 = .ok (.iastore, 1) := by decide +kernel
theorem dX7_strand_50 : decode cX7_strand 50 = .ok (.iinc 1 1, 3) := by decide +kernel
theorem dX7_strand_53 : decode cX7_strand 53 = .ok (.goto (-16), 3) := by decide +kernel
theorem dX7_strand_56 : decode cX7_strand 56 = .ok (.aload_n 0, 1) := by decide +kernel
theorem dX7_strand_57 : decode cX7_strand 57 = .ok (.invokevirtual 73, 3) := by decide +kernel
theorem dX7_strand_60 : decode cX7_strand 60 = .ok (.aload_n 0, 1) := by decide +kernel
theorem dX7_strand_61 : decode cX7_strand 61 = .ok (.getfield 59, 3) := by decide +kernel
theorem dX7_strand_64 : decode cX7_strand 64 = .ok (.ifCond .eq 27, 3) := by decide +kernel
theorem dX7_strand_67 : decode cX7_strand 67 = .ok (.aload_n 0, 1) := by decide +kernel
theorem dX7_strand_68 : decode cX7_strand 68 = .ok (.getfield 69, 3) := by decide +kernel
theorem dX7_strand_71 : decode cX7_strand 71 = .ok (.ifCond .ne 20, 3) := by decide +kernel
theorem dX7_strand_74 : decode cX7_strand 74 = .ok (.aload_n 0, 1) := by decide +kernel
theorem dX7_strand_75 : decode cX7_strand 75 = .ok (.invokevirtual 103, 3) := by decide +kernel
theorem dX7_strand_78 : decode cX7_strand 78 = .ok (.aload_n 0, 1) := by decide +kernel
theorem dX7_strand_79 : decode cX7_strand 79 = .ok (.dup, 1) := by decide +kernel
theorem dX7_strand_80 : decode cX7_strand 80 = .ok (.getfield 93, 3) := by decide +kernel
theorem dX7_strand_83 : decode cX7_strand 83 = .ok (.iconst 1, 1) := by decide +kernel
theorem dX7_strand_84 : decode cX7_strand 84 = .ok (.iadd, 1) := by decide +kernel
theorem dX7_strand_85 : decode cX7_strand 85 = .ok (.putfield 93, 3) := by decide +kernel
theorem dX7_strand_88 : decode cX7_strand 88 = .ok (.goto (-28), 3) := by decide +kernel
theorem dX7_strand_91 : decode cX7_strand 91 = .ok (.aload_n 0, 1) := by decide +kernel
theorem dX7_strand_92 : decode cX7_strand 92 = .ok (.getfield 69, 3) := by decide +kernel
theorem dX7_strand_95 : decode cX7_strand 95 = .ok (.ifCond .eq 11, 3) := by decide +kernel
theorem dX7_strand_98 : decode cX7_strand 98 = .ok (.bipush (-10), 2) := by decide +kernel
theorem dX7_strand_100 : decode cX7_strand 100 = .ok (.aload_n 0, 1) := by decide +kernel
theorem dX7_strand_101 : decode cX7_strand 101 = .ok (.getfield 53, 3) := by decide +kernel
theorem dX7_strand_104 : decode cX7_strand 104 = .ok (.isub, 1) := by decide +kernel
theorem dX7_strand_105 : decode cX7_strand 105 = .ok (.ireturn, 1) := by decide +kernel
theorem dX7_strand_106 : decode cX7_strand 106 = .ok (.aload_n 0, 1) := by decide +kernel
theorem dX7_strand_107 : decode cX7_strand 107 = .ok (.invokevirtual 106, 3) := by decide +kernel
theorem dX7_strand_110 : decode cX7_strand 110 = .ok (.aload_n 0, 1) := by decide +kernel
theorem dX7_strand_111 : decode cX7_strand 111 = .ok (.getfield 93, 3) := by decide +kernel
theorem dX7_strand_114 : decode cX7_strand 114 = .ok (.ireturn, 1) := by decide +kernel
theorem dX7_settles_0 : decode cX7_settles 0 = .ok (.aload_n 0, 1) := by decide +kernel
theorem dX7_settles_1 : decode cX7_settles 1 = .ok (.aload_n 0, 1) := by decide +kernel
theorem dX7_settles_2 : decode cX7_settles 2 = .ok (.getfield 76, 3) := by decide +kernel
theorem dX7_settles_5 : decode cX7_settles 5 = .ok (.putfield 7, 3) := by decide +kernel
theorem dX7_settles_8 : decode cX7_settles 8 = .ok (.aload_n 0, 1) := by decide +kernel
theorem dX7_settles_9 : decode cX7_settles 9 = .ok (.aload_n 0, 1) := by decide +kernel
theorem dX7_settles_10 : decode cX7_settles 10 = .ok (.getfield 83, 3) := by decide +kernel
theorem dX7_settles_13 : decode cX7_settles 13 = .ok (.putfield 13, 3) := by decide +kernel
theorem dX7_settles_16 : decode cX7_settles 16 = .ok (.iconst 0, 1) := by decide +kernel
theorem dX7_settles_17 : decode cX7_settles 17 = .ok (.istore_n 1, 1) := by decide +kernel
theorem dX7_settles_18 : decode cX7_settles 18 = .ok (.iload_n 1, 1) := by decide +kernel
theorem dX7_settles_19 : decode cX7_settles 19 = .ok (.sipush 254, 3) := by decide +kernel
theorem dX7_settles_22 : decode cX7_settles 22 = .ok (.if_icmp .ge 31, 3) := by decide +kernel
theorem dX7_settles_25 : decode cX7_settles 25 = .ok (.aload_n 0, 1) := by decide +kernel
theorem dX7_settles_26 : decode cX7_settles 26 = .ok (.getfield 16, 3) := by decide +kernel
theorem dX7_settles_29 : decode cX7_settles 29 = .ok (.iload_n 1, 1) := by decide +kernel
theorem dX7_settles_30 : decode cX7_settles 30 = .ok (.iload_n 1, 1) := by decide +kernel
theorem dX7_settles_31 : decode cX7_settles 31 = .ok (.bipush 20, 2) := by decide +kernel
theorem dX7_settles_33 : decode cX7_settles 33 = .ok (.if_icmp .ge 12, 3) := by decide +kernel
theorem dX7_settles_36 : decode cX7_settles 36 = .ok (.aload_n 0, 1) := by decide +kernel
theorem dX7_settles_37 : decode cX7_settles 37 = .ok (.getfield 33, 3) := by decide +kernel
theorem dX7_settles_40 : decode cX7_settles 40 = .ok (.iload_n 1, 1) := by decide +kernel
theorem dX7_settles_41 : decode cX7_settles 41 = .ok (.iaload, 1) := by decide +kernel
theorem dX7_settles_42 : decode cX7_settles 42 = .ok (.goto 4, 3) := by decide +kernel
theorem dX7_settles_45 : decode cX7_settles 45 = .ok (.iconst 0, 1) := by decide +kernel
theorem dX7_settles_46 : decode cX7_settles 46 = .ok (.iastore, 1) := by decide +kernel
theorem dX7_settles_47 : decode cX7_settles 47 = .ok (.iinc 1 1, 3) := by decide +kernel
theorem dX7_settles_50 : decode cX7_settles 50 = .ok (.goto (-32), 3) := by decide +kernel
theorem dX7_settles_53 : decode cX7_settles 53 = .ok (.aload_n 0, 1) := by decide +kernel
theorem dX7_settles_54 : decode cX7_settles 54 = .ok (.getfield 16, 3) := by decide +kernel
theorem dX7_settles_57 : decode cX7_settles 57 = .ok (.bipush 20, 2) := by decide +kernel
theorem dX7_settles_59 : decode cX7_settles 59 = .ok (.aload_n 0, 1) := by decide +kernel
theorem dX7_settles_60 : decode cX7_settles 60 = .ok (.getfield 86, 3) := by decide +kernel
theorem dX7_settles_63 : decode cX7_settles 63 = .ok (.iastore, 1) := by decide +kernel
theorem dX7_settles_64 : decode cX7_settles 64 = .ok (.aload_n 0, 1) := by decide +kernel
theorem dX7_settles_65 : decode cX7_settles 65 = .ok (.getfield 16, 3) := by decide +kernel
theorem dX7_settles_68 : decode cX7_settles 68 = .ok (.bipush 21, 2) := by decide +kernel
theorem dX7_settles_70 : decode cX7_settles 70 = .ok (.aload_n 0, 1) := by decide +kernel
theorem dX7_settles_71 : decode cX7_settles 71 = .ok (.getfield 96, 3) := by decide +kernel
theorem dX7_settles_74 : decode cX7_settles 74 = .ok (.ifCond .ge 7, 3) := by decide +kernel
theorem dX7_settles_77 : decode cX7_settles 77 = .ok (.iconst 0, 1) := by decide +kernel
theorem dX7_settles_78 : decode cX7_settles 78 = .ok (.goto 7, 3) := by decide +kernel
theorem dX7_settles_81 : decode cX7_settles 81 = .ok (.aload_n 0, 1) := by decide +kernel
theorem dX7_settles_82 : decode cX7_settles 82 = .ok (.getfield 96, 3) := by decide +kernel
theorem dX7_settles_85 : decode cX7_settles 85 = .ok (.iastore, 1) := by decide +kernel
theorem dX7_settles_86 : decode cX7_settles 86 = .ok (.aload_n 0, 1) := by decide +kernel
theorem dX7_settles_87 : decode cX7_settles 87 = .ok (.iconst 0, 1) := by decide +kernel
theorem dX7_settles_88 : decode cX7_settles 88 = .ok (.putfield 109, 3) := by decide +kernel
theorem dX7_settles_91 : decode cX7_settles 91 = .ok (.aload_n 0, 1) := by decide +kernel
theorem dX7_settles_92 : decode cX7_settles 92 = .ok (.getfield 23, 3) := by decide +kernel
theorem dX7_settles_95 : decode cX7_settles 95 = .ok (.iconst 0, 1) := by decide +kernel
theorem dX7_settles_96 : decode cX7_settles 96 = .ok (.iconst 0, 1) := by decide +kernel
theorem dX7_settles_97 : decode cX7_settles 97 = .ok (.bastore, 1) := by decide +kernel
theorem dX7_settles_98 : decode cX7_settles 98 = .ok (.aload_n 0, 1) := by decide +kernel
theorem dX7_settles_99 : decode cX7_settles 99 = .ok (.getfield 23, 3) := by decide +kernel
theorem dX7_settles_102 : decode cX7_settles 102 = .ok (.iconst 1, 1) := by decide +kernel
theorem dX7_settles_103 : decode cX7_settles 103 = .ok (.iconst 0, 1) := by decide +kernel
theorem dX7_settles_104 : decode cX7_settles 104 = .ok (.bastore, 1) := by decide +kernel
theorem dX7_settles_105 : decode cX7_settles 105 = .ok (.aload_n 0, 1) := by decide +kernel
theorem dX7_settles_106 : decode cX7_settles 106 = .ok (.iconst 0, 1) := by decide +kernel
theorem dX7_settles_107 : decode cX7_settles 107 = .ok (.putfield 43, 3) := by decide +kernel
theorem dX7_settles_110 : decode cX7_settles 110 = .ok (.return_, 1) := by decide +kernel
theorem dX7_isDry_0 : decode cX7_isDry 0 = .ok (.iload_n 1, 1) := by decide +kernel
theorem dX7_isDry_1 : decode cX7_isDry 1 = .ok (.iconst 5, 1) := by decide +kernel
theorem dX7_isDry_2 : decode cX7_isDry 2 = .ok (.idiv, 1) := by decide +kernel
theorem dX7_isDry_3 : decode cX7_isDry 3 = .ok (.aload_n 0, 1) := by decide +kernel
theorem dX7_isDry_4 : decode cX7_isDry 4 = .ok (.getfield 16, 3) := by decide +kernel
theorem dX7_isDry_7 : decode cX7_isDry 7 = .ok (.bipush 22, 2) := by decide +kernel
theorem dX7_isDry_9 : decode cX7_isDry 9 = .ok (.iaload, 1) := by decide +kernel
theorem dX7_isDry_10 : decode cX7_isDry 10 = .ok (.if_icmp .lt 7, 3) := by decide +kernel
theorem dX7_isDry_13 : decode cX7_isDry 13 = .ok (.iconst 1, 1) := by decide +kernel
theorem dX7_isDry_14 : decode cX7_isDry 14 = .ok (.goto 4, 3) := by decide +kernel
theorem dX7_isDry_17 : decode cX7_isDry 17 = .ok (.iconst 0, 1) := by decide +kernel
theorem dX7_isDry_18 : decode cX7_isDry 18 = .ok (.ireturn, 1) := by decide +kernel
theorem dX7_isCloth_0 : decode cX7_isCloth 0 = .ok (.aload_n 0, 1) := by decide +kernel
theorem dX7_isCloth_1 : decode cX7_isCloth 1 = .ok (.iload_n 2, 1) := by decide +kernel
theorem dX7_isCloth_2 : decode cX7_isCloth 2 = .ok (.iload_n 3, 1) := by decide +kernel
theorem dX7_isCloth_3 : decode cX7_isCloth 3 = .ok (.invokevirtual 112, 3) := by decide +kernel
theorem dX7_isCloth_6 : decode cX7_isCloth 6 = .ok (.ifCond .eq 19, 3) := by decide +kernel
theorem dX7_isCloth_9 : decode cX7_isCloth 9 = .ok (.iload_n 1, 1) := by decide +kernel
theorem dX7_isCloth_10 : decode cX7_isCloth 10 = .ok (.iconst 5, 1) := by decide +kernel
theorem dX7_isCloth_11 : decode cX7_isCloth 11 = .ok (.iload_n 3, 1) := by decide +kernel
theorem dX7_isCloth_12 : decode cX7_isCloth 12 = .ok (.imul, 1) := by decide +kernel
theorem dX7_isCloth_13 : decode cX7_isCloth 13 = .ok (.iload_n 2, 1) := by decide +kernel
theorem dX7_isCloth_14 : decode cX7_isCloth 14 = .ok (.iadd, 1) := by decide +kernel
theorem dX7_isCloth_15 : decode cX7_isCloth 15 = .ok (.invokestatic 89, 3) := by decide +kernel
theorem dX7_isCloth_18 : decode cX7_isCloth 18 = .ok (.ifCond .eq 7, 3) := by decide +kernel
theorem dX7_isCloth_21 : decode cX7_isCloth 21 = .ok (.iconst 1, 1) := by decide +kernel
theorem dX7_isCloth_22 : decode cX7_isCloth 22 = .ok (.goto 4, 3) := by decide +kernel
theorem dX7_isCloth_25 : decode cX7_isCloth 25 = .ok (.iconst 0, 1) := by decide +kernel
theorem dX7_isCloth_26 : decode cX7_isCloth 26 = .ok (.ireturn, 1) := by decide +kernel
theorem dX7_isStill_0 : decode cX7_isStill 0 = .ok (.iload 4, 2) := by decide +kernel
theorem dX7_isStill_2 : decode cX7_isStill 2 = .ok (.ifCond .ne 35, 3) := by decide +kernel
theorem dX7_isStill_5 : decode cX7_isStill 5 = .ok (.aload_n 0, 1) := by decide +kernel
theorem dX7_isStill_6 : decode cX7_isStill 6 = .ok (.iload_n 1, 1) := by decide +kernel
theorem dX7_isStill_7 : decode cX7_isStill 7 = .ok (.iload_n 2, 1) := by decide +kernel
theorem dX7_isStill_8 : decode cX7_isStill 8 = .ok (.iconst 1, 1) := by decide +kernel
theorem dX7_isStill_9 : decode cX7_isStill 9 = .ok (.isub, 1) := by decide +kernel
theorem dX7_isStill_10 : decode cX7_isStill 10 = .ok (.iload_n 3, 1) := by decide +kernel
theorem dX7_isStill_11 : decode cX7_isStill 11 = .ok (.invokevirtual 115, 3) := by decide +kernel
theorem dX7_isStill_14 : decode cX7_isStill 14 = .ok (.ifCond .ne 15, 3) := by decide +kernel
theorem dX7_isStill_17 : decode cX7_isStill 17 = .ok (.aload_n 0, 1) := by decide +kernel
theorem dX7_isStill_18 : decode cX7_isStill 18 = .ok (.iload_n 1, 1) := by decide +kernel
theorem dX7_isStill_19 : decode cX7_isStill 19 = .ok (.iload_n 2, 1) := by decide +kernel
theorem dX7_isStill_20 : decode cX7_isStill 20 = .ok (.iconst 2, 1) := by decide +kernel
theorem dX7_isStill_21 : decode cX7_isStill 21 = .ok (.isub, 1) := by decide +kernel
theorem dX7_isStill_22 : decode cX7_isStill 22 = .ok (.iload_n 3, 1) := by decide +kernel
theorem dX7_isStill_23 : decode cX7_isStill 23 = .ok (.invokevirtual 115, 3) := by decide +kernel
theorem dX7_isStill_26 : decode cX7_isStill 26 = .ok (.ifCond .eq 7, 3) := by decide +kernel
theorem dX7_isStill_29 : decode cX7_isStill 29 = .ok (.iconst 1, 1) := by decide +kernel
theorem dX7_isStill_30 : decode cX7_isStill 30 = .ok (.goto 34, 3) := by decide +kernel
theorem dX7_isStill_33 : decode cX7_isStill 33 = .ok (.iconst 0, 1) := by decide +kernel
theorem dX7_isStill_34 : decode cX7_isStill 34 = .ok (.goto 30, 3) := by decide +kernel
theorem dX7_isStill_37 : decode cX7_isStill 37 = .ok (.aload_n 0, 1) := by decide +kernel
theorem dX7_isStill_38 : decode cX7_isStill 38 = .ok (.iload_n 1, 1) := by decide +kernel
theorem dX7_isStill_39 : decode cX7_isStill 39 = .ok (.iload_n 2, 1) := by decide +kernel
theorem dX7_isStill_40 : decode cX7_isStill 40 = .ok (.iload_n 3, 1) := by decide +kernel
theorem dX7_isStill_41 : decode cX7_isStill 41 = .ok (.invokevirtual 115, 3) := by decide +kernel
theorem dX7_isStill_44 : decode cX7_isStill 44 = .ok (.ifCond .ne 15, 3) := by decide +kernel
theorem dX7_isStill_47 : decode cX7_isStill 47 = .ok (.aload_n 0, 1) := by decide +kernel
theorem dX7_isStill_48 : decode cX7_isStill 48 = .ok (.iload_n 1, 1) := by decide +kernel
theorem dX7_isStill_49 : decode cX7_isStill 49 = .ok (.iload_n 2, 1) := by decide +kernel
theorem dX7_isStill_50 : decode cX7_isStill 50 = .ok (.iconst 1, 1) := by decide +kernel
theorem dX7_isStill_51 : decode cX7_isStill 51 = .ok (.iadd, 1) := by decide +kernel
theorem dX7_isStill_52 : decode cX7_isStill 52 = .ok (.iload_n 3, 1) := by decide +kernel
theorem dX7_isStill_53 : decode cX7_isStill 53 = .ok (.invokevirtual 115, 3) := by decide +kernel
theorem dX7_isStill_56 : decode cX7_isStill 56 = .ok (.ifCond .eq 7, 3) := by decide +kernel
theorem dX7_isStill_59 : decode cX7_isStill 59 = .ok (.iconst 1, 1) := by decide +kernel
theorem dX7_isStill_60 : decode cX7_isStill 60 = .ok (.goto 4, 3) := by decide +kernel
theorem dX7_isStill_63 : decode cX7_isStill 63 = .ok (.iconst 0, 1) := by decide +kernel
theorem dX7_isStill_64 : decode cX7_isStill 64 = .ok (.istore 5, 2) := by decide +kernel
theorem dX7_isStill_66 : decode cX7_isStill 66 = .ok (.iload 5, 2) := by decide +kernel
theorem dX7_isStill_68 : decode cX7_isStill 68 = .ok (.ifCond .eq 18, 3) := by decide +kernel
theorem dX7_isStill_71 : decode cX7_isStill 71 = .ok (.iload_n 3, 1) := by decide +kernel
theorem dX7_isStill_72 : decode cX7_isStill 72 = .ok (.aload_n 0, 1) := by decide +kernel
theorem dX7_isStill_73 : decode cX7_isStill 73 = .ok (.getfield 16, 3) := by decide +kernel
theorem dX7_isStill_76 : decode cX7_isStill 76 = .ok (.bipush 22, 2) := by decide +kernel
theorem dX7_isStill_78 : decode cX7_isStill 78 = .ok (.iaload, 1) := by decide +kernel
theorem dX7_isStill_79 : decode cX7_isStill 79 = .ok (.if_icmp .lt 7, 3) := by decide +kernel
theorem dX7_isStill_82 : decode cX7_isStill 82 = .ok (.iconst 1, 1) := by decide +kernel
theorem dX7_isStill_83 : decode cX7_isStill 83 = .ok (.goto 4, 3) := by decide +kernel
theorem dX7_isStill_86 : decode cX7_isStill 86 = .ok (.iconst 0, 1) := by decide +kernel
theorem dX7_isStill_87 : decode cX7_isStill 87 = .ok (.ireturn, 1) := by decide +kernel
theorem dX7_stillOnes_0 : decode cX7_stillOnes 0 = .ok (.iconst 0, 1) := by decide +kernel
theorem dX7_stillOnes_1 : decode cX7_stillOnes 1 = .ok (.istore_n 3, 1) := by decide +kernel
theorem dX7_stillOnes_2 : decode cX7_stillOnes 2 = .ok (.iconst 0, 1) := by decide +kernel
theorem dX7_stillOnes_3 : decode cX7_stillOnes 3 = .ok (.istore 4, 2) := by decide +kernel
theorem dX7_stillOnes_5 : decode cX7_stillOnes 5 = .ok (.iload 4, 2) := by decide +kernel
theorem dX7_stillOnes_7 : decode cX7_stillOnes 7 = .ok (.aload_n 0, 1) := by decide +kernel
theorem dX7_stillOnes_8 : decode cX7_stillOnes 8 = .ok (.getfield 13, 3) := by decide +kernel
theorem dX7_stillOnes_11 : decode cX7_stillOnes 11 = .ok (.if_icmp .ge 56, 3) := by decide +kernel
theorem dX7_stillOnes_14 : decode cX7_stillOnes 14 = .ok (.iconst 0, 1) := by decide +kernel
theorem dX7_stillOnes_15 : decode cX7_stillOnes 15 = .ok (.istore 5, 2) := by decide +kernel
theorem dX7_stillOnes_17 : decode cX7_stillOnes 17 = .ok (.iload 5, 2) := by decide +kernel
theorem dX7_stillOnes_19 : decode cX7_stillOnes 19 = .ok (.aload_n 0, 1) := by decide +kernel
theorem dX7_stillOnes_20 : decode cX7_stillOnes 20 = .ok (.getfield 7, 3) := by decide +kernel
theorem dX7_stillOnes_23 : decode cX7_stillOnes 23 = .ok (.if_icmp .ge 38, 3) := by decide +kernel
theorem dX7_stillOnes_26 : decode cX7_stillOnes 26 = .ok (.iload_n 3, 1) := by decide +kernel
theorem dX7_stillOnes_27 : decode cX7_stillOnes 27 = .ok (.aload_n 0, 1) := by decide +kernel
theorem dX7_stillOnes_28 : decode cX7_stillOnes 28 = .ok (.iload_n 1, 1) := by decide +kernel
theorem dX7_stillOnes_29 : decode cX7_stillOnes 29 = .ok (.iload 5, 2) := by decide +kernel
theorem dX7_stillOnes_31 : decode cX7_stillOnes 31 = .ok (.iload 4, 2) := by decide +kernel
theorem dX7_stillOnes_33 : decode cX7_stillOnes 33 = .ok (.iload_n 2, 1) := by decide +kernel
theorem dX7_stillOnes_34 : decode cX7_stillOnes 34 = .ok (.invokevirtual 118, 3) := by decide +kernel
theorem dX7_stillOnes_37 : decode cX7_stillOnes 37 = .ok (.ifCond .eq 15, 3) := by decide +kernel
theorem dX7_stillOnes_40 : decode cX7_stillOnes 40 = .ok (.iconst 1, 1) := by decide +kernel
theorem dX7_stillOnes_41 : decode cX7_stillOnes 41 = .ok (.iconst 5, 1) := by decide +kernel
theorem dX7_stillOnes_42 : decode cX7_stillOnes 42 = .ok (.iload 4, 2) := by decide +kernel
theorem dX7_stillOnes_44 : decode cX7_stillOnes 44 = .ok (.imul, 1) := by decide +kernel
theorem dX7_stillOnes_45 : decode cX7_stillOnes 45 = .ok (.iload 5, 2) := by decide +kernel
theorem dX7_stillOnes_47 : decode cX7_stillOnes 47 = .ok (.iadd, 1) := by decide +kernel
theorem dX7_stillOnes_48 : decode cX7_stillOnes 48 = .ok (.ishl, 1) := by decide +kernel
theorem dX7_stillOnes_49 : decode cX7_stillOnes 49 = .ok (.goto 4, 3) := by decide +kernel
theorem dX7_stillOnes_52 : decode cX7_stillOnes 52 = .ok (.iconst 0, 1) := by decide +kernel
theorem dX7_stillOnes_53 : decode cX7_stillOnes 53 = .ok (.ior, 1) := by decide +kernel
theorem dX7_stillOnes_54 : decode cX7_stillOnes 54 = .ok (.istore_n 3, 1) := by decide +kernel
theorem dX7_stillOnes_55 : decode cX7_stillOnes 55 = .ok (.iinc 5 1, 3) := by decide +kernel
theorem dX7_stillOnes_58 : decode cX7_stillOnes 58 = .ok (.goto (-41), 3) := by decide +kernel
theorem dX7_stillOnes_61 : decode cX7_stillOnes 61 = .ok (.iinc 4 1, 3) := by decide +kernel
theorem dX7_stillOnes_64 : decode cX7_stillOnes 64 = .ok (.goto (-59), 3) := by decide +kernel
theorem dX7_stillOnes_67 : decode cX7_stillOnes 67 = .ok (.iload_n 3, 1) := by decide +kernel
theorem dX7_stillOnes_68 : decode cX7_stillOnes 68 = .ok (.ireturn, 1) := by decide +kernel
theorem dX7_heldBy_0 : decode cX7_heldBy 0 = .ok (.iconst 0, 1) := by decide +kernel
theorem dX7_heldBy_1 : decode cX7_heldBy 1 = .ok (.istore_n 2, 1) := by decide +kernel
theorem dX7_heldBy_2 : decode cX7_heldBy 2 = .ok (.iconst 0, 1) := by decide +kernel
theorem dX7_heldBy_3 : decode cX7_heldBy 3 = .ok (.istore_n 3, 1) := by decide +kernel
theorem dX7_heldBy_4 : decode cX7_heldBy 4 = .ok (.iload_n 3, 1) := by decide +kernel
theorem dX7_heldBy_5 : decode cX7_heldBy 5 = .ok (.bipush 20, 2) := by decide +kernel
theorem dX7_heldBy_7 : decode cX7_heldBy 7 = .ok (.if_icmp .ge 31, 3) := by decide +kernel
theorem dX7_heldBy_10 : decode cX7_heldBy 10 = .ok (.iload_n 2, 1) := by decide +kernel
theorem dX7_heldBy_11 : decode cX7_heldBy 11 = .ok (.aload_n 0, 1) := by decide +kernel
theorem dX7_heldBy_12 : decode cX7_heldBy 12 = .ok (.getfield 16, 3) := by decide +kernel
theorem dX7_heldBy_15 : decode cX7_heldBy 15 = .ok (.iload_n 3, 1) := by decide +kernel
theorem dX7_heldBy_16 : decode cX7_heldBy 16 = .ok (.iaload, 1) := by decide +kernel
theorem dX7_heldBy_17 : decode cX7_heldBy 17 = .ok (.iload_n 1, 1) := by decide +kernel
theorem dX7_heldBy_18 : decode cX7_heldBy 18 = .ok (.iconst 1, 1) := by decide +kernel
theorem dX7_heldBy_19 : decode cX7_heldBy 19 = .ok (.iadd, 1) := by decide +kernel
theorem dX7_heldBy_20 : decode cX7_heldBy 20 = .ok (.if_icmp .ne 9, 3) := by decide +kernel
theorem dX7_heldBy_23 : decode cX7_heldBy 23 = .ok (.iconst 1, 1) := by decide +kernel
theorem dX7_heldBy_24 : decode cX7_heldBy 24 = .ok (.iload_n 3, 1) := by decide +kernel
theorem dX7_heldBy_25 : decode cX7_heldBy 25 = .ok (.ishl, 1) := by decide +kernel
theorem dX7_heldBy_26 : decode cX7_heldBy 26 = .ok (.goto 4, 3) := by decide +kernel
theorem dX7_heldBy_29 : decode cX7_heldBy 29 = .ok (.iconst 0, 1) := by decide +kernel
theorem dX7_heldBy_30 : decode cX7_heldBy 30 = .ok (.ior, 1) := by decide +kernel
theorem dX7_heldBy_31 : decode cX7_heldBy 31 = .ok (.istore_n 2, 1) := by decide +kernel
theorem dX7_heldBy_32 : decode cX7_heldBy 32 = .ok (.iinc 3 1, 3) := by decide +kernel
theorem dX7_heldBy_35 : decode cX7_heldBy 35 = .ok (.goto (-31), 3) := by decide +kernel
theorem dX7_heldBy_38 : decode cX7_heldBy 38 = .ok (.iload_n 2, 1) := by decide +kernel
theorem dX7_heldBy_39 : decode cX7_heldBy 39 = .ok (.ireturn, 1) := by decide +kernel
theorem dX7_losesOf_0 : decode cX7_losesOf 0 = .ok (.aload_n 0, 1) := by decide +kernel
theorem dX7_losesOf_1 : decode cX7_losesOf 1 = .ok (.iload_n 1, 1) := by decide +kernel
theorem dX7_losesOf_2 : decode cX7_losesOf 2 = .ok (.invokevirtual 122, 3) := by decide +kernel
theorem dX7_losesOf_5 : decode cX7_losesOf 5 = .ok (.istore_n 2, 1) := by decide +kernel
theorem dX7_losesOf_6 : decode cX7_losesOf 6 = .ok (.iconst 0, 1) := by decide +kernel
theorem dX7_losesOf_7 : decode cX7_losesOf 7 = .ok (.istore_n 3, 1) := by decide +kernel
theorem dX7_losesOf_8 : decode cX7_losesOf 8 = .ok (.iload_n 3, 1) := by decide +kernel
theorem dX7_losesOf_9 : decode cX7_losesOf 9 = .ok (.bipush 20, 2) := by decide +kernel
theorem dX7_losesOf_11 : decode cX7_losesOf 11 = .ok (.if_icmp .ge 31, 3) := by decide +kernel
theorem dX7_losesOf_14 : decode cX7_losesOf 14 = .ok (.iload_n 2, 1) := by decide +kernel
theorem dX7_losesOf_15 : decode cX7_losesOf 15 = .ok (.iload_n 3, 1) := by decide +kernel
theorem dX7_losesOf_16 : decode cX7_losesOf 16 = .ok (.invokestatic 89, 3) := by decide +kernel
theorem dX7_losesOf_19 : decode cX7_losesOf 19 = .ok (.ifCond .eq 17, 3) := by decide +kernel
theorem dX7_losesOf_22 : decode cX7_losesOf 22 = .ok (.iload_n 3, 1) := by decide +kernel
theorem dX7_losesOf_23 : decode cX7_losesOf 23 = .ok (.iconst 5, 1) := by decide +kernel
theorem dX7_losesOf_24 : decode cX7_losesOf 24 = .ok (.idiv, 1) := by decide +kernel
theorem dX7_losesOf_25 : decode cX7_losesOf 25 = .ok (.aload_n 0, 1) := by decide +kernel
theorem dX7_losesOf_26 : decode cX7_losesOf 26 = .ok (.getfield 16, 3) := by decide +kernel
theorem dX7_losesOf_29 : decode cX7_losesOf 29 = .ok (.bipush 22, 2) := by decide +kernel
theorem dX7_losesOf_31 : decode cX7_losesOf 31 = .ok (.iaload, 1) := by decide +kernel
theorem dX7_losesOf_32 : decode cX7_losesOf 32 = .ok (.isub, 1) := by decide +kernel
theorem dX7_losesOf_33 : decode cX7_losesOf 33 = .ok (.iconst 1, 1) := by decide +kernel
theorem dX7_losesOf_34 : decode cX7_losesOf 34 = .ok (.iadd, 1) := by decide +kernel
theorem dX7_losesOf_35 : decode cX7_losesOf 35 = .ok (.ireturn, 1) := by decide +kernel
theorem dX7_losesOf_36 : decode cX7_losesOf 36 = .ok (.iinc 3 1, 3) := by decide +kernel
theorem dX7_losesOf_39 : decode cX7_losesOf 39 = .ok (.goto (-31), 3) := by decide +kernel
theorem dX7_losesOf_42 : decode cX7_losesOf 42 = .ok (.bipush (-9), 2) := by decide +kernel
theorem dX7_losesOf_44 : decode cX7_losesOf 44 = .ok (.ireturn, 1) := by decide +kernel
theorem dX7_cell_0 : decode cX7_cell 0 = .ok (.aload_n 0, 1) := by decide +kernel
theorem dX7_cell_1 : decode cX7_cell 1 = .ok (.iload_n 1, 1) := by decide +kernel
theorem dX7_cell_2 : decode cX7_cell 2 = .ok (.iload_n 2, 1) := by decide +kernel
theorem dX7_cell_3 : decode cX7_cell 3 = .ok (.invokevirtual 112, 3) := by decide +kernel
theorem dX7_cell_6 : decode cX7_cell 6 = .ok (.ifCond .ne 5, 3) := by decide +kernel
theorem dX7_cell_9 : decode cX7_cell 9 = .ok (.iconst (-1), 1) := by decide +kernel
theorem dX7_cell_10 : decode cX7_cell 10 = .ok (.ireturn, 1) := by decide +kernel
theorem dX7_cell_11 : decode cX7_cell 11 = .ok (.iconst 5, 1) := by decide +kernel
theorem dX7_cell_12 : decode cX7_cell 12 = .ok (.iload_n 2, 1) := by decide +kernel
theorem dX7_cell_13 : decode cX7_cell 13 = .ok (.imul, 1) := by decide +kernel
theorem dX7_cell_14 : decode cX7_cell 14 = .ok (.iload_n 1, 1) := by decide +kernel
theorem dX7_cell_15 : decode cX7_cell 15 = .ok (.iadd, 1) := by decide +kernel
theorem dX7_cell_16 : decode cX7_cell 16 = .ok (.istore 4, 2) := by decide +kernel
theorem dX7_cell_18 : decode cX7_cell 18 = .ok (.iload_n 3, 1) := by decide +kernel
theorem dX7_cell_19 : decode cX7_cell 19 = .ok (.tableswitch 119 0 4 #[33, 58, 79, 94, 94], 33) := by decide +kernel
theorem dX7_cell_52 : decode cX7_cell 52 = .ok (.aload_n 0, 1) := by decide +kernel
theorem dX7_cell_53 : decode cX7_cell 53 = .ok (.getfield 16, 3) := by decide +kernel
theorem dX7_cell_56 : decode cX7_cell 56 = .ok (.iload 4, 2) := by decide +kernel
theorem dX7_cell_58 : decode cX7_cell 58 = .ok (.iaload, 1) := by decide +kernel
theorem dX7_cell_59 : decode cX7_cell 59 = .ok (.ifCond .ne 8, 3) := by decide +kernel
theorem dX7_cell_62 : decode cX7_cell 62 = .ok (.bipush (-9), 2) := by decide +kernel
theorem dX7_cell_64 : decode cX7_cell 64 = .ok (.goto 12, 3) := by decide +kernel
theorem dX7_cell_67 : decode cX7_cell 67 = .ok (.aload_n 0, 1) := by decide +kernel
theorem dX7_cell_68 : decode cX7_cell 68 = .ok (.getfield 16, 3) := by decide +kernel
theorem dX7_cell_71 : decode cX7_cell 71 = .ok (.iload 4, 2) := by decide +kernel
theorem dX7_cell_73 : decode cX7_cell 73 = .ok (.iaload, 1) := by decide +kernel
theorem dX7_cell_74 : decode cX7_cell 74 = .ok (.iconst 1, 1) := by decide +kernel
theorem dX7_cell_75 : decode cX7_cell 75 = .ok (.isub, 1) := by decide +kernel
theorem dX7_cell_76 : decode cX7_cell 76 = .ok (.ireturn, 1) := by decide +kernel
theorem dX7_cell_77 : decode cX7_cell 77 = .ok (.aload_n 0, 1) := by decide +kernel
theorem dX7_cell_78 : decode cX7_cell 78 = .ok (.getfield 16, 3) := by decide +kernel
theorem dX7_cell_81 : decode cX7_cell 81 = .ok (.bipush 20, 2) := by decide +kernel
theorem dX7_cell_83 : decode cX7_cell 83 = .ok (.iaload, 1) := by decide +kernel
theorem dX7_cell_84 : decode cX7_cell 84 = .ok (.iload 4, 2) := by decide +kernel
theorem dX7_cell_86 : decode cX7_cell 86 = .ok (.invokestatic 89, 3) := by decide +kernel
theorem dX7_cell_89 : decode cX7_cell 89 = .ok (.ifCond .eq 7, 3) := by decide +kernel
theorem dX7_cell_92 : decode cX7_cell 92 = .ok (.iconst 1, 1) := by decide +kernel
theorem dX7_cell_93 : decode cX7_cell 93 = .ok (.goto 4, 3) := by decide +kernel
theorem dX7_cell_96 : decode cX7_cell 96 = .ok (.iconst 0, 1) := by decide +kernel
theorem dX7_cell_97 : decode cX7_cell 97 = .ok (.ireturn, 1) := by decide +kernel
theorem dX7_cell_98 : decode cX7_cell 98 = .ok (.aload_n 0, 1) := by decide +kernel
theorem dX7_cell_99 : decode cX7_cell 99 = .ok (.iload 4, 2) := by decide +kernel
theorem dX7_cell_101 : decode cX7_cell 101 = .ok (.invokevirtual 125, 3) := by decide +kernel
theorem dX7_cell_104 : decode cX7_cell 104 = .ok (.ifCond .eq 7, 3) := by decide +kernel
theorem dX7_cell_107 : decode cX7_cell 107 = .ok (.iconst 1, 1) := by decide +kernel
theorem dX7_cell_108 : decode cX7_cell 108 = .ok (.goto 4, 3) := by decide +kernel
theorem dX7_cell_111 : decode cX7_cell 111 = .ok (.iconst 0, 1) := by decide +kernel
theorem dX7_cell_112 : decode cX7_cell 112 = .ok (.ireturn, 1) := by decide +kernel
theorem dX7_cell_113 : decode cX7_cell 113 = .ok (.aload_n 0, 1) := by decide +kernel
theorem dX7_cell_114 : decode cX7_cell 114 = .ok (.aload_n 0, 1) := by decide +kernel
theorem dX7_cell_115 : decode cX7_cell 115 = .ok (.getfield 16, 3) := by decide +kernel
theorem dX7_cell_118 : decode cX7_cell 118 = .ok (.bipush 20, 2) := by decide +kernel
theorem dX7_cell_120 : decode cX7_cell 120 = .ok (.iaload, 1) := by decide +kernel
theorem dX7_cell_121 : decode cX7_cell 121 = .ok (.iload_n 1, 1) := by decide +kernel
theorem dX7_cell_122 : decode cX7_cell 122 = .ok (.iload_n 2, 1) := by decide +kernel
theorem dX7_cell_123 : decode cX7_cell 123 = .ok (.iload_n 3, 1) := by decide +kernel
theorem dX7_cell_124 : decode cX7_cell 124 = .ok (.iconst 3, 1) := by decide +kernel
theorem dX7_cell_125 : decode cX7_cell 125 = .ok (.isub, 1) := by decide +kernel
theorem dX7_cell_126 : decode cX7_cell 126 = .ok (.invokevirtual 118, 3) := by decide +kernel
theorem dX7_cell_129 : decode cX7_cell 129 = .ok (.ifCond .eq 7, 3) := by decide +kernel
theorem dX7_cell_132 : decode cX7_cell 132 = .ok (.iconst 1, 1) := by decide +kernel
theorem dX7_cell_133 : decode cX7_cell 133 = .ok (.goto 4, 3) := by decide +kernel
theorem dX7_cell_136 : decode cX7_cell 136 = .ok (.iconst 0, 1) := by decide +kernel
theorem dX7_cell_137 : decode cX7_cell 137 = .ok (.ireturn, 1) := by decide +kernel
theorem dX7_cell_138 : decode cX7_cell 138 = .ok (.iconst (-1), 1) := by decide +kernel
theorem dX7_cell_139 : decode cX7_cell 139 = .ok (.ireturn, 1) := by decide +kernel
theorem dX7_family_0 : decode cX7_family 0 = .ok (.iload_n 1, 1) := by decide +kernel
theorem dX7_family_1 : decode cX7_family 1 = .ok (.invokestatic 128, 3) := by decide +kernel
theorem dX7_family_4 : decode cX7_family 4 = .ok (.ifCond .ne 5, 3) := by decide +kernel
theorem dX7_family_7 : decode cX7_family 7 = .ok (.iconst (-1), 1) := by decide +kernel
theorem dX7_family_8 : decode cX7_family 8 = .ok (.ireturn, 1) := by decide +kernel
theorem dX7_family_9 : decode cX7_family 9 = .ok (.iload_n 2, 1) := by decide +kernel
theorem dX7_family_10 : decode cX7_family 10 = .ok (.tableswitch 66 0 2 #[26, 32, 60], 26) := by decide +kernel
theorem dX7_family_36 : decode cX7_family 36 = .ok (.aload_n 0, 1) := by decide +kernel
theorem dX7_family_37 : decode cX7_family 37 = .ok (.iload_n 1, 1) := by decide +kernel
theorem dX7_family_38 : decode cX7_family 38 = .ok (.invokevirtual 122, 3) := by decide +kernel
theorem dX7_family_41 : decode cX7_family 41 = .ok (.ireturn, 1) := by decide +kernel
theorem dX7_family_42 : decode cX7_family 42 = .ok (.aload_n 0, 1) := by decide +kernel
theorem dX7_family_43 : decode cX7_family 43 = .ok (.iload_n 1, 1) := by decide +kernel
theorem dX7_family_44 : decode cX7_family 44 = .ok (.invokevirtual 122, 3) := by decide +kernel
theorem dX7_family_47 : decode cX7_family 47 = .ok (.aload_n 0, 1) := by decide +kernel
theorem dX7_family_48 : decode cX7_family 48 = .ok (.aload_n 0, 1) := by decide +kernel
theorem dX7_family_49 : decode cX7_family 49 = .ok (.getfield 16, 3) := by decide +kernel
theorem dX7_family_52 : decode cX7_family 52 = .ok (.bipush 20, 2) := by decide +kernel
theorem dX7_family_54 : decode cX7_family 54 = .ok (.iaload, 1) := by decide +kernel
theorem dX7_family_55 : decode cX7_family 55 = .ok (.aload_n 0, 1) := by decide +kernel
theorem dX7_family_56 : decode cX7_family 56 = .ok (.getfield 16, 3) := by decide +kernel
theorem dX7_family_59 : decode cX7_family 59 = .ok (.bipush 21, 2) := by decide +kernel
theorem dX7_family_61 : decode cX7_family 61 = .ok (.iaload, 1) := by decide +kernel
theorem dX7_family_62 : decode cX7_family 62 = .ok (.invokevirtual 131, 3) := by decide +kernel
theorem dX7_family_65 : decode cX7_family 65 = .ok (.iand, 1) := by decide +kernel
theorem dX7_family_66 : decode cX7_family 66 = .ok (.invokestatic 134, 3) := by decide +kernel
theorem dX7_family_69 : decode cX7_family 69 = .ok (.ireturn, 1) := by decide +kernel
theorem dX7_family_70 : decode cX7_family 70 = .ok (.aload_n 0, 1) := by decide +kernel
theorem dX7_family_71 : decode cX7_family 71 = .ok (.iload_n 1, 1) := by decide +kernel
theorem dX7_family_72 : decode cX7_family 72 = .ok (.invokevirtual 137, 3) := by decide +kernel
theorem dX7_family_75 : decode cX7_family 75 = .ok (.ireturn, 1) := by decide +kernel
theorem dX7_family_76 : decode cX7_family 76 = .ok (.iconst (-1), 1) := by decide +kernel
theorem dX7_family_77 : decode cX7_family 77 = .ok (.ireturn, 1) := by decide +kernel
theorem dX7_remembers_0 : decode cX7_remembers 0 = .ok (.aload_n 0, 1) := by decide +kernel
theorem dX7_remembers_1 : decode cX7_remembers 1 = .ok (.getfield 16, 3) := by decide +kernel
theorem dX7_remembers_4 : decode cX7_remembers 4 = .ok (.bipush 23, 2) := by decide +kernel
theorem dX7_remembers_6 : decode cX7_remembers 6 = .ok (.iaload, 1) := by decide +kernel
theorem dX7_remembers_7 : decode cX7_remembers 7 = .ok (.bipush 10, 2) := by decide +kernel
theorem dX7_remembers_9 : decode cX7_remembers 9 = .ok (.if_icmp .ne 45, 3) := by decide +kernel
theorem dX7_remembers_12 : decode cX7_remembers 12 = .ok (.bipush 24, 2) := by decide +kernel
theorem dX7_remembers_14 : decode cX7_remembers 14 = .ok (.istore_n 1, 1) := by decide +kernel
theorem dX7_remembers_15 : decode cX7_remembers 15 = .ok (.iload_n 1, 1) := by decide +kernel
theorem dX7_remembers_16 : decode cX7_remembers 16 = .ok (.sipush 231, 3) := by decide +kernel
theorem dX7_remembers_19 : decode cX7_remembers 19 = .ok (.if_icmp .ge 24, 3) := by decide +kernel
theorem dX7_remembers_22 : decode cX7_remembers 22 = .ok (.aload_n 0, 1) := by decide +kernel
theorem dX7_remembers_23 : decode cX7_remembers 23 = .ok (.getfield 16, 3) := by decide +kernel
theorem dX7_remembers_26 : decode cX7_remembers 26 = .ok (.iload_n 1, 1) := by decide +kernel
theorem dX7_remembers_27 : decode cX7_remembers 27 = .ok (.aload_n 0, 1) := by decide +kernel
theorem dX7_remembers_28 : decode cX7_remembers 28 = .ok (.getfield 16, 3) := by decide +kernel
theorem dX7_remembers_31 : decode cX7_remembers 31 = .ok (.iload_n 1, 1) := by decide +kernel
theorem dX7_remembers_32 : decode cX7_remembers 32 = .ok (.bipush 23, 2) := by decide +kernel
theorem dX7_remembers_34 : decode cX7_remembers 34 = .ok (.iadd, 1) := by decide +kernel
theorem dX7_remembers_35 : decode cX7_remembers 35 = .ok (.iaload, 1) := by decide +kernel
theorem dX7_remembers_36 : decode cX7_remembers 36 = .ok (.iastore, 1) := by decide +kernel
theorem dX7_remembers_37 : decode cX7_remembers 37 = .ok (.iinc 1 1, 3) := by decide +kernel
theorem dX7_remembers_40 : decode cX7_remembers 40 = .ok (.goto (-25), 3) := by decide +kernel
theorem dX7_remembers_43 : decode cX7_remembers 43 = .ok (.aload_n 0, 1) := by decide +kernel
theorem dX7_remembers_44 : decode cX7_remembers 44 = .ok (.getfield 16, 3) := by decide +kernel
theorem dX7_remembers_47 : decode cX7_remembers 47 = .ok (.bipush 23, 2) := by decide +kernel
theorem dX7_remembers_49 : decode cX7_remembers 49 = .ok (.dup2, 1) := by decide +kernel
theorem dX7_remembers_50 : decode cX7_remembers 50 = .ok (.iaload, 1) := by decide +kernel
theorem dX7_remembers_51 : decode cX7_remembers 51 = .ok (.iconst 1, 1) := by decide +kernel
theorem dX7_remembers_52 : decode cX7_remembers 52 = .ok (.isub, 1) := by decide +kernel
theorem dX7_remembers_53 : decode cX7_remembers 53 = .ok (.iastore, 1) := by decide +kernel
theorem dX7_remembers_54 : decode cX7_remembers 54 = .ok (.bipush 24, 2) := by decide +kernel
theorem dX7_remembers_56 : decode cX7_remembers 56 = .ok (.bipush 23, 2) := by decide +kernel
theorem dX7_remembers_58 : decode cX7_remembers 58 = .ok (.aload_n 0, 1) := by decide +kernel
theorem dX7_remembers_59 : decode cX7_remembers 59 = .ok (.getfield 16, 3) := by decide +kernel
theorem dX7_remembers_62 : decode cX7_remembers 62 = .ok (.bipush 23, 2) := by decide +kernel
theorem dX7_remembers_64 : decode cX7_remembers 64 = .ok (.iaload, 1) := by decide +kernel
theorem dX7_remembers_65 : decode cX7_remembers 65 = .ok (.imul, 1) := by decide +kernel
theorem dX7_remembers_66 : decode cX7_remembers 66 = .ok (.iadd, 1) := by decide +kernel
theorem dX7_remembers_67 : decode cX7_remembers 67 = .ok (.istore_n 1, 1) := by decide +kernel
theorem dX7_remembers_68 : decode cX7_remembers 68 = .ok (.iconst 0, 1) := by decide +kernel
theorem dX7_remembers_69 : decode cX7_remembers 69 = .ok (.istore_n 2, 1) := by decide +kernel
theorem dX7_remembers_70 : decode cX7_remembers 70 = .ok (.iload_n 2, 1) := by decide +kernel
theorem dX7_remembers_71 : decode cX7_remembers 71 = .ok (.bipush 23, 2) := by decide +kernel
theorem dX7_remembers_73 : decode cX7_remembers 73 = .ok (.if_icmp .ge 23, 3) := by decide +kernel
theorem dX7_remembers_76 : decode cX7_remembers 76 = .ok (.aload_n 0, 1) := by decide +kernel
theorem dX7_remembers_77 : decode cX7_remembers 77 = .ok (.getfield 16, 3) := by decide +kernel
theorem dX7_remembers_80 : decode cX7_remembers 80 = .ok (.iload_n 1, 1) := by decide +kernel
theorem dX7_remembers_81 : decode cX7_remembers 81 = .ok (.iload_n 2, 1) := by decide +kernel
theorem dX7_remembers_82 : decode cX7_remembers 82 = .ok (.iadd, 1) := by decide +kernel
theorem dX7_remembers_83 : decode cX7_remembers 83 = .ok (.aload_n 0, 1) := by decide +kernel
theorem dX7_remembers_84 : decode cX7_remembers 84 = .ok (.getfield 16, 3) := by decide +kernel
theorem dX7_remembers_87 : decode cX7_remembers 87 = .ok (.iload_n 2, 1) := by decide +kernel
theorem dX7_remembers_88 : decode cX7_remembers 88 = .ok (.iaload, 1) := by decide +kernel
theorem dX7_remembers_89 : decode cX7_remembers 89 = .ok (.iastore, 1) := by decide +kernel
theorem dX7_remembers_90 : decode cX7_remembers 90 = .ok (.iinc 2 1, 3) := by decide +kernel
theorem dX7_remembers_93 : decode cX7_remembers 93 = .ok (.goto (-23), 3) := by decide +kernel
theorem dX7_remembers_96 : decode cX7_remembers 96 = .ok (.aload_n 0, 1) := by decide +kernel
theorem dX7_remembers_97 : decode cX7_remembers 97 = .ok (.getfield 16, 3) := by decide +kernel
theorem dX7_remembers_100 : decode cX7_remembers 100 = .ok (.bipush 23, 2) := by decide +kernel
theorem dX7_remembers_102 : decode cX7_remembers 102 = .ok (.dup2, 1) := by decide +kernel
theorem dX7_remembers_103 : decode cX7_remembers 103 = .ok (.iaload, 1) := by decide +kernel
theorem dX7_remembers_104 : decode cX7_remembers 104 = .ok (.iconst 1, 1) := by decide +kernel
theorem dX7_remembers_105 : decode cX7_remembers 105 = .ok (.iadd, 1) := by decide +kernel
theorem dX7_remembers_106 : decode cX7_remembers 106 = .ok (.iastore, 1) := by decide +kernel
theorem dX7_remembers_107 : decode cX7_remembers 107 = .ok (.return_, 1) := by decide +kernel
theorem dX7_takes_0 : decode cX7_takes 0 = .ok (.iload_n 1, 1) := by decide +kernel
theorem dX7_takes_1 : decode cX7_takes 1 = .ok (.invokestatic 128, 3) := by decide +kernel
theorem dX7_takes_4 : decode cX7_takes 4 = .ok (.ifCond .eq 12, 3) := by decide +kernel
theorem dX7_takes_7 : decode cX7_takes 7 = .ok (.aload_n 0, 1) := by decide +kernel
theorem dX7_takes_8 : decode cX7_takes 8 = .ok (.iload_n 2, 1) := by decide +kernel
theorem dX7_takes_9 : decode cX7_takes 9 = .ok (.iload_n 3, 1) := by decide +kernel
theorem dX7_takes_10 : decode cX7_takes 10 = .ok (.invokevirtual 112, 3) := by decide +kernel
theorem dX7_takes_13 : decode cX7_takes 13 = .ok (.ifCond .ne 5, 3) := by decide +kernel
theorem dX7_takes_16 : decode cX7_takes 16 = .ok (.iconst (-1), 1) := by decide +kernel
theorem dX7_takes_17 : decode cX7_takes 17 = .ok (.ireturn, 1) := by decide +kernel
theorem dX7_takes_18 : decode cX7_takes 18 = .ok (.iconst 5, 1) := by decide +kernel
theorem dX7_takes_19 : decode cX7_takes 19 = .ok (.iload_n 3, 1) := by decide +kernel
theorem dX7_takes_20 : decode cX7_takes 20 = .ok (.imul, 1) := by decide +kernel
theorem dX7_takes_21 : decode cX7_takes 21 = .ok (.iload_n 2, 1) := by decide +kernel
theorem dX7_takes_22 : decode cX7_takes 22 = .ok (.iadd, 1) := by decide +kernel
theorem dX7_takes_23 : decode cX7_takes 23 = .ok (.istore 4, 2) := by decide +kernel
theorem dX7_takes_25 : decode cX7_takes 25 = .ok (.aload_n 0, 1) := by decide +kernel
theorem dX7_takes_26 : decode cX7_takes 26 = .ok (.getfield 16, 3) := by decide +kernel
theorem dX7_takes_29 : decode cX7_takes 29 = .ok (.iload 4, 2) := by decide +kernel
theorem dX7_takes_31 : decode cX7_takes 31 = .ok (.iaload, 1) := by decide +kernel
theorem dX7_takes_32 : decode cX7_takes 32 = .ok (.ifCond .gt 12, 3) := by decide +kernel
theorem dX7_takes_35 : decode cX7_takes 35 = .ok (.aload_n 0, 1) := by decide +kernel
theorem dX7_takes_36 : decode cX7_takes 36 = .ok (.iload 4, 2) := by decide +kernel
theorem dX7_takes_38 : decode cX7_takes 38 = .ok (.invokevirtual 125, 3) := by decide +kernel
theorem dX7_takes_41 : decode cX7_takes 41 = .ok (.ifCond .ne 6, 3) := by decide +kernel
theorem dX7_takes_44 : decode cX7_takes 44 = .ok (.bipush (-2), 2) := by decide +kernel
theorem dX7_takes_46 : decode cX7_takes 46 = .ok (.ireturn, 1) := by decide +kernel
theorem dX7_takes_47 : decode cX7_takes 47 = .ok (.aload_n 0, 1) := by decide +kernel
theorem dX7_takes_48 : decode cX7_takes 48 = .ok (.invokevirtual 140, 3) := by decide +kernel
theorem dX7_takes_51 : decode cX7_takes 51 = .ok (.aload_n 0, 1) := by decide +kernel
theorem dX7_takes_52 : decode cX7_takes 52 = .ok (.getfield 16, 3) := by decide +kernel
theorem dX7_takes_55 : decode cX7_takes 55 = .ok (.iload 4, 2) := by decide +kernel
theorem dX7_takes_57 : decode cX7_takes 57 = .ok (.iload_n 1, 1) := by decide +kernel
theorem dX7_takes_58 : decode cX7_takes 58 = .ok (.iconst 1, 1) := by decide +kernel
theorem dX7_takes_59 : decode cX7_takes 59 = .ok (.iadd, 1) := by decide +kernel
theorem dX7_takes_60 : decode cX7_takes 60 = .ok (.iastore, 1) := by decide +kernel
theorem dX7_takes_61 : decode cX7_takes 61 = .ok (.aload_n 0, 1) := by decide +kernel
theorem dX7_takes_62 : decode cX7_takes 62 = .ok (.iload_n 1, 1) := by decide +kernel
theorem dX7_takes_63 : decode cX7_takes 63 = .ok (.invokevirtual 122, 3) := by decide +kernel
theorem dX7_takes_66 : decode cX7_takes 66 = .ok (.invokestatic 134, 3) := by decide +kernel
theorem dX7_takes_69 : decode cX7_takes 69 = .ok (.ireturn, 1) := by decide +kernel
theorem dX7_leaves_0 : decode cX7_leaves 0 = .ok (.aload_n 0, 1) := by decide +kernel
theorem dX7_leaves_1 : decode cX7_leaves 1 = .ok (.iload_n 1, 1) := by decide +kernel
theorem dX7_leaves_2 : decode cX7_leaves 2 = .ok (.iload_n 2, 1) := by decide +kernel
theorem dX7_leaves_3 : decode cX7_leaves 3 = .ok (.invokevirtual 112, 3) := by decide +kernel
theorem dX7_leaves_6 : decode cX7_leaves 6 = .ok (.ifCond .ne 5, 3) := by decide +kernel
theorem dX7_leaves_9 : decode cX7_leaves 9 = .ok (.iconst (-1), 1) := by decide +kernel
theorem dX7_leaves_10 : decode cX7_leaves 10 = .ok (.ireturn, 1) := by decide +kernel
theorem dX7_leaves_11 : decode cX7_leaves 11 = .ok (.iconst 5, 1) := by decide +kernel
theorem dX7_leaves_12 : decode cX7_leaves 12 = .ok (.iload_n 2, 1) := by decide +kernel
theorem dX7_leaves_13 : decode cX7_leaves 13 = .ok (.imul, 1) := by decide +kernel
theorem dX7_leaves_14 : decode cX7_leaves 14 = .ok (.iload_n 1, 1) := by decide +kernel
theorem dX7_leaves_15 : decode cX7_leaves 15 = .ok (.iadd, 1) := by decide +kernel
theorem dX7_leaves_16 : decode cX7_leaves 16 = .ok (.istore_n 3, 1) := by decide +kernel
theorem dX7_leaves_17 : decode cX7_leaves 17 = .ok (.aload_n 0, 1) := by decide +kernel
theorem dX7_leaves_18 : decode cX7_leaves 18 = .ok (.getfield 16, 3) := by decide +kernel
theorem dX7_leaves_21 : decode cX7_leaves 21 = .ok (.iload_n 3, 1) := by decide +kernel
theorem dX7_leaves_22 : decode cX7_leaves 22 = .ok (.iaload, 1) := by decide +kernel
theorem dX7_leaves_23 : decode cX7_leaves 23 = .ok (.istore 4, 2) := by decide +kernel
theorem dX7_leaves_25 : decode cX7_leaves 25 = .ok (.iload 4, 2) := by decide +kernel
theorem dX7_leaves_27 : decode cX7_leaves 27 = .ok (.ifCond .ne 6, 3) := by decide +kernel
theorem dX7_leaves_30 : decode cX7_leaves 30 = .ok (.bipush (-2), 2) := by decide +kernel
theorem dX7_leaves_32 : decode cX7_leaves 32 = .ok (.ireturn, 1) := by decide +kernel
theorem dX7_leaves_33 : decode cX7_leaves 33 = .ok (.aload_n 0, 1) := by decide +kernel
theorem dX7_leaves_34 : decode cX7_leaves 34 = .ok (.invokevirtual 140, 3) := by decide +kernel
theorem dX7_leaves_37 : decode cX7_leaves 37 = .ok (.aload_n 0, 1) := by decide +kernel
theorem dX7_leaves_38 : decode cX7_leaves 38 = .ok (.getfield 16, 3) := by decide +kernel
theorem dX7_leaves_41 : decode cX7_leaves 41 = .ok (.iload_n 3, 1) := by decide +kernel
theorem dX7_leaves_42 : decode cX7_leaves 42 = .ok (.iconst 0, 1) := by decide +kernel
theorem dX7_leaves_43 : decode cX7_leaves 43 = .ok (.iastore, 1) := by decide +kernel
theorem dX7_leaves_44 : decode cX7_leaves 44 = .ok (.iload 4, 2) := by decide +kernel
theorem dX7_leaves_46 : decode cX7_leaves 46 = .ok (.iconst 1, 1) := by decide +kernel
theorem dX7_leaves_47 : decode cX7_leaves 47 = .ok (.isub, 1) := by decide +kernel
theorem dX7_leaves_48 : decode cX7_leaves 48 = .ok (.ireturn, 1) := by decide +kernel
theorem dX7_puts_0 : decode cX7_puts 0 = .ok (.aload_n 0, 1) := by decide +kernel
theorem dX7_puts_1 : decode cX7_puts 1 = .ok (.iload_n 1, 1) := by decide +kernel
theorem dX7_puts_2 : decode cX7_puts 2 = .ok (.iload_n 2, 1) := by decide +kernel
theorem dX7_puts_3 : decode cX7_puts 3 = .ok (.invokevirtual 112, 3) := by decide +kernel
theorem dX7_puts_6 : decode cX7_puts 6 = .ok (.ifCond .eq 12, 3) := by decide +kernel
theorem dX7_puts_9 : decode cX7_puts 9 = .ok (.iload_n 3, 1) := by decide +kernel
theorem dX7_puts_10 : decode cX7_puts 10 = .ok (.iconst 0, 1) := by decide +kernel
theorem dX7_puts_11 : decode cX7_puts 11 = .ok (.iconst 1, 1) := by decide +kernel
theorem dX7_puts_12 : decode cX7_puts 12 = .ok (.invokestatic 39, 3) := by decide +kernel
theorem dX7_puts_15 : decode cX7_puts 15 = .ok (.ifCond .ne 5, 3) := by decide +kernel
theorem dX7_puts_18 : decode cX7_puts 18 = .ok (.iconst (-1), 1) := by decide +kernel
theorem dX7_puts_19 : decode cX7_puts 19 = .ok (.ireturn, 1) := by decide +kernel
theorem dX7_puts_20 : decode cX7_puts 20 = .ok (.iconst 5, 1) := by decide +kernel
theorem dX7_puts_21 : decode cX7_puts 21 = .ok (.iload_n 2, 1) := by decide +kernel
theorem dX7_puts_22 : decode cX7_puts 22 = .ok (.imul, 1) := by decide +kernel
theorem dX7_puts_23 : decode cX7_puts 23 = .ok (.iload_n 1, 1) := by decide +kernel
theorem dX7_puts_24 : decode cX7_puts 24 = .ok (.iadd, 1) := by decide +kernel
theorem dX7_puts_25 : decode cX7_puts 25 = .ok (.istore 4, 2) := by decide +kernel
theorem dX7_puts_27 : decode cX7_puts 27 = .ok (.aload_n 0, 1) := by decide +kernel
theorem dX7_puts_28 : decode cX7_puts 28 = .ok (.getfield 16, 3) := by decide +kernel
theorem dX7_puts_31 : decode cX7_puts 31 = .ok (.bipush 20, 2) := by decide +kernel
theorem dX7_puts_33 : decode cX7_puts 33 = .ok (.iaload, 1) := by decide +kernel
theorem dX7_puts_34 : decode cX7_puts 34 = .ok (.iload 4, 2) := by decide +kernel
theorem dX7_puts_36 : decode cX7_puts 36 = .ok (.invokestatic 89, 3) := by decide +kernel
theorem dX7_puts_39 : decode cX7_puts 39 = .ok (.iload_n 3, 1) := by decide +kernel
theorem dX7_puts_40 : decode cX7_puts 40 = .ok (.iconst 1, 1) := by decide +kernel
theorem dX7_puts_41 : decode cX7_puts 41 = .ok (.if_icmp .ne 7, 3) := by decide +kernel
theorem dX7_puts_44 : decode cX7_puts 44 = .ok (.iconst 1, 1) := by decide +kernel
theorem dX7_puts_45 : decode cX7_puts 45 = .ok (.goto 4, 3) := by decide +kernel
theorem dX7_puts_48 : decode cX7_puts 48 = .ok (.iconst 0, 1) := by decide +kernel
theorem dX7_puts_49 : decode cX7_puts 49 = .ok (.if_icmp .eq 12, 3) := by decide +kernel
theorem dX7_puts_52 : decode cX7_puts 52 = .ok (.aload_n 0, 1) := by decide +kernel
theorem dX7_puts_53 : decode cX7_puts 53 = .ok (.iload 4, 2) := by decide +kernel
theorem dX7_puts_55 : decode cX7_puts 55 = .ok (.invokevirtual 125, 3) := by decide +kernel
theorem dX7_puts_58 : decode cX7_puts 58 = .ok (.ifCond .ne 6, 3) := by decide +kernel
theorem dX7_puts_61 : decode cX7_puts 61 = .ok (.bipush (-2), 2) := by decide +kernel
theorem dX7_puts_63 : decode cX7_puts 63 = .ok (.ireturn, 1) := by decide +kernel
theorem dX7_puts_64 : decode cX7_puts 64 = .ok (.aload_n 0, 1) := by decide +kernel
theorem dX7_puts_65 : decode cX7_puts 65 = .ok (.invokevirtual 140, 3) := by decide +kernel
theorem dX7_puts_68 : decode cX7_puts 68 = .ok (.aload_n 0, 1) := by decide +kernel
theorem dX7_puts_69 : decode cX7_puts 69 = .ok (.getfield 16, 3) := by decide +kernel
theorem dX7_puts_72 : decode cX7_puts 72 = .ok (.bipush 20, 2) := by decide +kernel
theorem dX7_puts_74 : decode cX7_puts 74 = .ok (.dup2, 1) := by decide +kernel
theorem dX7_puts_75 : decode cX7_puts 75 = .ok (.iaload, 1) := by decide +kernel
theorem dX7_puts_76 : decode cX7_puts 76 = .ok (.iconst 1, 1) := by decide +kernel
theorem dX7_puts_77 : decode cX7_puts 77 = .ok (.iload 4, 2) := by decide +kernel
theorem dX7_puts_79 : decode cX7_puts 79 = .ok (.ishl, 1) := by decide +kernel
theorem dX7_puts_80 : decode cX7_puts 80 = .ok (.ixor, 1) := by decide +kernel
theorem dX7_puts_81 : decode cX7_puts 81 = .ok (.iastore, 1) := by decide +kernel
theorem dX7_puts_82 : decode cX7_puts 82 = .ok (.aload_n 0, 1) := by decide +kernel
theorem dX7_puts_83 : decode cX7_puts 83 = .ok (.getfield 16, 3) := by decide +kernel
theorem dX7_puts_86 : decode cX7_puts 86 = .ok (.bipush 20, 2) := by decide +kernel
theorem dX7_puts_88 : decode cX7_puts 88 = .ok (.iaload, 1) := by decide +kernel
theorem dX7_puts_89 : decode cX7_puts 89 = .ok (.invokestatic 134, 3) := by decide +kernel
theorem dX7_puts_92 : decode cX7_puts 92 = .ok (.ireturn, 1) := by decide +kernel
theorem dX7_veers_0 : decode cX7_veers 0 = .ok (.aload_n 0, 1) := by decide +kernel
theorem dX7_veers_1 : decode cX7_veers 1 = .ok (.invokevirtual 140, 3) := by decide +kernel
theorem dX7_veers_4 : decode cX7_veers 4 = .ok (.aload_n 0, 1) := by decide +kernel
theorem dX7_veers_5 : decode cX7_veers 5 = .ok (.getfield 16, 3) := by decide +kernel
theorem dX7_veers_8 : decode cX7_veers 8 = .ok (.bipush 21, 2) := by decide +kernel
theorem dX7_veers_10 : decode cX7_veers 10 = .ok (.iconst 1, 1) := by decide +kernel
theorem dX7_veers_11 : decode cX7_veers 11 = .ok (.aload_n 0, 1) := by decide +kernel
theorem dX7_veers_12 : decode cX7_veers 12 = .ok (.getfield 16, 3) := by decide +kernel
theorem dX7_veers_15 : decode cX7_veers 15 = .ok (.bipush 21, 2) := by decide +kernel
theorem dX7_veers_17 : decode cX7_veers 17 = .ok (.iaload, 1) := by decide +kernel
theorem dX7_veers_18 : decode cX7_veers 18 = .ok (.isub, 1) := by decide +kernel
theorem dX7_veers_19 : decode cX7_veers 19 = .ok (.iastore, 1) := by decide +kernel
theorem dX7_veers_20 : decode cX7_veers 20 = .ok (.aload_n 0, 1) := by decide +kernel
theorem dX7_veers_21 : decode cX7_veers 21 = .ok (.getfield 16, 3) := by decide +kernel
theorem dX7_veers_24 : decode cX7_veers 24 = .ok (.bipush 21, 2) := by decide +kernel
theorem dX7_veers_26 : decode cX7_veers 26 = .ok (.iaload, 1) := by decide +kernel
theorem dX7_veers_27 : decode cX7_veers 27 = .ok (.ireturn, 1) := by decide +kernel
theorem dX7_tide_0 : decode cX7_tide 0 = .ok (.iload_n 1, 1) := by decide +kernel
theorem dX7_tide_1 : decode cX7_tide 1 = .ok (.iconst 0, 1) := by decide +kernel
theorem dX7_tide_2 : decode cX7_tide 2 = .ok (.iconst 1, 1) := by decide +kernel
theorem dX7_tide_3 : decode cX7_tide 3 = .ok (.invokestatic 39, 3) := by decide +kernel
theorem dX7_tide_6 : decode cX7_tide 6 = .ok (.ifCond .ne 5, 3) := by decide +kernel
theorem dX7_tide_9 : decode cX7_tide 9 = .ok (.iconst (-1), 1) := by decide +kernel
theorem dX7_tide_10 : decode cX7_tide 10 = .ok (.ireturn, 1) := by decide +kernel
theorem dX7_tide_11 : decode cX7_tide 11 = .ok (.aload_n 0, 1) := by decide +kernel
theorem dX7_tide_12 : decode cX7_tide 12 = .ok (.getfield 16, 3) := by decide +kernel
theorem dX7_tide_15 : decode cX7_tide 15 = .ok (.bipush 22, 2) := by decide +kernel
theorem dX7_tide_17 : decode cX7_tide 17 = .ok (.iaload, 1) := by decide +kernel
theorem dX7_tide_18 : decode cX7_tide 18 = .ok (.iload_n 1, 1) := by decide +kernel
theorem dX7_tide_19 : decode cX7_tide 19 = .ok (.iconst 1, 1) := by decide +kernel
theorem dX7_tide_20 : decode cX7_tide 20 = .ok (.if_icmp .ne 10, 3) := by decide +kernel
theorem dX7_tide_23 : decode cX7_tide 23 = .ok (.aload_n 0, 1) := by decide +kernel
theorem dX7_tide_24 : decode cX7_tide 24 = .ok (.getfield 13, 3) := by decide +kernel
theorem dX7_tide_27 : decode cX7_tide 27 = .ok (.goto 4, 3) := by decide +kernel
theorem dX7_tide_30 : decode cX7_tide 30 = .ok (.iconst 0, 1) := by decide +kernel
theorem dX7_tide_31 : decode cX7_tide 31 = .ok (.if_icmp .ne 6, 3) := by decide +kernel
theorem dX7_tide_34 : decode cX7_tide 34 = .ok (.bipush (-2), 2) := by decide +kernel
theorem dX7_tide_36 : decode cX7_tide 36 = .ok (.ireturn, 1) := by decide +kernel
theorem dX7_tide_37 : decode cX7_tide 37 = .ok (.aload_n 0, 1) := by decide +kernel
theorem dX7_tide_38 : decode cX7_tide 38 = .ok (.invokevirtual 140, 3) := by decide +kernel
theorem dX7_tide_41 : decode cX7_tide 41 = .ok (.aload_n 0, 1) := by decide +kernel
theorem dX7_tide_42 : decode cX7_tide 42 = .ok (.getfield 16, 3) := by decide +kernel
theorem dX7_tide_45 : decode cX7_tide 45 = .ok (.bipush 22, 2) := by decide +kernel
theorem dX7_tide_47 : decode cX7_tide 47 = .ok (.dup2, 1) := by decide +kernel
theorem dX7_tide_48 : decode cX7_tide 48 = .ok (.iaload, 1) := by decide +kernel
theorem dX7_tide_49 : decode cX7_tide 49 = .ok (.iload_n 1, 1) := by decide +kernel
theorem dX7_tide_50 : decode cX7_tide 50 = .ok (.iconst 1, 1) := by decide +kernel
theorem dX7_tide_51 : decode cX7_tide 51 = .ok (.if_icmp .ne 7, 3) := by decide +kernel
theorem dX7_tide_54 : decode cX7_tide 54 = .ok (.iconst 1, 1) := by decide +kernel
theorem dX7_tide_55 : decode cX7_tide 55 = .ok (.goto 4, 3) := by decide +kernel
theorem dX7_tide_58 : decode cX7_tide 58 = .ok (.iconst (-1), 1) := by decide +kernel
theorem dX7_tide_59 : decode cX7_tide 59 = .ok (.iadd, 1) := by decide +kernel
theorem dX7_tide_60 : decode cX7_tide 60 = .ok (.iastore, 1) := by decide +kernel
theorem dX7_tide_61 : decode cX7_tide 61 = .ok (.iconst 0, 1) := by decide +kernel
theorem dX7_tide_62 : decode cX7_tide 62 = .ok (.istore_n 2, 1) := by decide +kernel
theorem dX7_tide_63 : decode cX7_tide 63 = .ok (.iload_n 2, 1) := by decide +kernel
theorem dX7_tide_64 : decode cX7_tide 64 = .ok (.bipush 20, 2) := by decide +kernel
theorem dX7_tide_66 : decode cX7_tide 66 = .ok (.if_icmp .ge 39, 3) := by decide +kernel
theorem dX7_tide_69 : decode cX7_tide 69 = .ok (.aload_n 0, 1) := by decide +kernel
theorem dX7_tide_70 : decode cX7_tide 70 = .ok (.iload_n 2, 1) := by decide +kernel
theorem dX7_tide_71 : decode cX7_tide 71 = .ok (.invokevirtual 125, 3) := by decide +kernel
theorem dX7_tide_74 : decode cX7_tide 74 = .ok (.ifCond .ne 25, 3) := by decide +kernel
theorem dX7_tide_77 : decode cX7_tide 77 = .ok (.aload_n 0, 1) := by decide +kernel
theorem dX7_tide_78 : decode cX7_tide 78 = .ok (.getfield 16, 3) := by decide +kernel
theorem dX7_tide_81 : decode cX7_tide 81 = .ok (.iload_n 2, 1) := by decide +kernel
theorem dX7_tide_82 : decode cX7_tide 82 = .ok (.iconst 0, 1) := by decide +kernel
theorem dX7_tide_83 : decode cX7_tide 83 = .ok (.iastore, 1) := by decide +kernel
theorem dX7_tide_84 : decode cX7_tide 84 = .ok (.aload_n 0, 1) := by decide +kernel
theorem dX7_tide_85 : decode cX7_tide 85 = .ok (.getfield 16, 3) := by decide +kernel
theorem dX7_tide_88 : decode cX7_tide 88 = .ok (.bipush 20, 2) := by decide +kernel
theorem dX7_tide_90 : decode cX7_tide 90 = .ok (.dup2, 1) := by decide +kernel
theorem dX7_tide_91 : decode cX7_tide 91 = .ok (.iaload, 1) := by decide +kernel
theorem dX7_tide_92 : decode cX7_tide 92 = .ok (.iconst 1, 1) := by decide +kernel
theorem dX7_tide_93 : decode cX7_tide 93 = .ok (.iload_n 2, 1) := by decide +kernel
theorem dX7_tide_94 : decode cX7_tide 94 = .ok (.ishl, 1) := by decide +kernel
theorem dX7_tide_95 : decode cX7_tide 95 = .ok (.iconst (-1), 1) := by decide +kernel
theorem dX7_tide_96 : decode cX7_tide 96 = .ok (.ixor, 1) := by decide +kernel
theorem dX7_tide_97 : decode cX7_tide 97 = .ok (.iand, 1) := by decide +kernel
theorem dX7_tide_98 : decode cX7_tide 98 = .ok (.iastore, 1) := by decide +kernel
theorem dX7_tide_99 : decode cX7_tide 99 = .ok (.iinc 2 1, 3) := by decide +kernel
theorem dX7_tide_102 : decode cX7_tide 102 = .ok (.goto (-39), 3) := by decide +kernel
theorem dX7_tide_105 : decode cX7_tide 105 = .ok (.aload_n 0, 1) := by decide +kernel
theorem dX7_tide_106 : decode cX7_tide 106 = .ok (.getfield 16, 3) := by decide +kernel
theorem dX7_tide_109 : decode cX7_tide 109 = .ok (.bipush 22, 2) := by decide +kernel
theorem dX7_tide_111 : decode cX7_tide 111 = .ok (.iaload, 1) := by decide +kernel
theorem dX7_tide_112 : decode cX7_tide 112 = .ok (.ireturn, 1) := by decide +kernel
theorem dX7_undo_0 : decode cX7_undo 0 = .ok (.aload_n 0, 1) := by decide +kernel
theorem dX7_undo_1 : decode cX7_undo 1 = .ok (.getfield 16, 3) := by decide +kernel
theorem dX7_undo_4 : decode cX7_undo 4 = .ok (.bipush 23, 2) := by decide +kernel
theorem dX7_undo_6 : decode cX7_undo 6 = .ok (.iaload, 1) := by decide +kernel
theorem dX7_undo_7 : decode cX7_undo 7 = .ok (.ifCond .ne 6, 3) := by decide +kernel
theorem dX7_undo_10 : decode cX7_undo 10 = .ok (.bipush (-2), 2) := by decide +kernel
theorem dX7_undo_12 : decode cX7_undo 12 = .ok (.ireturn, 1) := by decide +kernel
theorem dX7_undo_13 : decode cX7_undo 13 = .ok (.aload_n 0, 1) := by decide +kernel
theorem dX7_undo_14 : decode cX7_undo 14 = .ok (.getfield 16, 3) := by decide +kernel
theorem dX7_undo_17 : decode cX7_undo 17 = .ok (.bipush 23, 2) := by decide +kernel
theorem dX7_undo_19 : decode cX7_undo 19 = .ok (.dup2, 1) := by decide +kernel
theorem dX7_undo_20 : decode cX7_undo 20 = .ok (.iaload, 1) := by decide +kernel
theorem dX7_undo_21 : decode cX7_undo 21 = .ok (.iconst 1, 1) := by decide +kernel
theorem dX7_undo_22 : decode cX7_undo 22 = .ok (.isub, 1) := by decide +kernel
theorem dX7_undo_23 : decode cX7_undo 23 = .ok (.iastore, 1) := by decide +kernel
theorem dX7_undo_24 : decode cX7_undo 24 = .ok (.bipush 24, 2) := by decide +kernel
theorem dX7_undo_26 : decode cX7_undo 26 = .ok (.bipush 23, 2) := by decide +kernel
theorem dX7_undo_28 : decode cX7_undo 28 = .ok (.aload_n 0, 1) := by decide +kernel
theorem dX7_undo_29 : decode cX7_undo 29 = .ok (.getfield 16, 3) := by decide +kernel
theorem dX7_undo_32 : decode cX7_undo 32 = .ok (.bipush 23, 2) := by decide +kernel
theorem dX7_undo_34 : decode cX7_undo 34 = .ok (.iaload, 1) := by decide +kernel
theorem dX7_undo_35 : decode cX7_undo 35 = .ok (.imul, 1) := by decide +kernel
theorem dX7_undo_36 : decode cX7_undo 36 = .ok (.iadd, 1) := by decide +kernel
theorem dX7_undo_37 : decode cX7_undo 37 = .ok (.istore_n 1, 1) := by decide +kernel
theorem dX7_undo_38 : decode cX7_undo 38 = .ok (.iconst 0, 1) := by decide +kernel
theorem dX7_undo_39 : decode cX7_undo 39 = .ok (.istore_n 2, 1) := by decide +kernel
theorem dX7_undo_40 : decode cX7_undo 40 = .ok (.iload_n 2, 1) := by decide +kernel
theorem dX7_undo_41 : decode cX7_undo 41 = .ok (.bipush 23, 2) := by decide +kernel
theorem dX7_undo_43 : decode cX7_undo 43 = .ok (.if_icmp .ge 23, 3) := by decide +kernel
theorem dX7_undo_46 : decode cX7_undo 46 = .ok (.aload_n 0, 1) := by decide +kernel
theorem dX7_undo_47 : decode cX7_undo 47 = .ok (.getfield 16, 3) := by decide +kernel
theorem dX7_undo_50 : decode cX7_undo 50 = .ok (.iload_n 2, 1) := by decide +kernel
theorem dX7_undo_51 : decode cX7_undo 51 = .ok (.aload_n 0, 1) := by decide +kernel
theorem dX7_undo_52 : decode cX7_undo 52 = .ok (.getfield 16, 3) := by decide +kernel
theorem dX7_undo_55 : decode cX7_undo 55 = .ok (.iload_n 1, 1) := by decide +kernel
theorem dX7_undo_56 : decode cX7_undo 56 = .ok (.iload_n 2, 1) := by decide +kernel
theorem dX7_undo_57 : decode cX7_undo 57 = .ok (.iadd, 1) := by decide +kernel
theorem dX7_undo_58 : decode cX7_undo 58 = .ok (.iaload, 1) := by decide +kernel
theorem dX7_undo_59 : decode cX7_undo 59 = .ok (.iastore, 1) := by decide +kernel
theorem dX7_undo_60 : decode cX7_undo 60 = .ok (.iinc 2 1, 3) := by decide +kernel
theorem dX7_undo_63 : decode cX7_undo 63 = .ok (.goto (-23), 3) := by decide +kernel
theorem dX7_undo_66 : decode cX7_undo 66 = .ok (.aload_n 0, 1) := by decide +kernel
theorem dX7_undo_67 : decode cX7_undo 67 = .ok (.getfield 16, 3) := by decide +kernel
theorem dX7_undo_70 : decode cX7_undo 70 = .ok (.bipush 23, 2) := by decide +kernel
theorem dX7_undo_72 : decode cX7_undo 72 = .ok (.iaload, 1) := by decide +kernel
theorem dX7_undo_73 : decode cX7_undo 73 = .ok (.ireturn, 1) := by decide +kernel
theorem dX7_isBorder_0 : decode cX7_isBorder 0 = .ok (.aload_n 0, 1) := by decide +kernel
theorem dX7_isBorder_1 : decode cX7_isBorder 1 = .ok (.iload_n 1, 1) := by decide +kernel
theorem dX7_isBorder_2 : decode cX7_isBorder 2 = .ok (.iload_n 2, 1) := by decide +kernel
theorem dX7_isBorder_3 : decode cX7_isBorder 3 = .ok (.invokevirtual 112, 3) := by decide +kernel
theorem dX7_isBorder_6 : decode cX7_isBorder 6 = .ok (.ifCond .eq 66, 3) := by decide +kernel
theorem dX7_isBorder_9 : decode cX7_isBorder 9 = .ok (.aload_n 0, 1) := by decide +kernel
theorem dX7_isBorder_10 : decode cX7_isBorder 10 = .ok (.iload_n 3, 1) := by decide +kernel
theorem dX7_isBorder_11 : decode cX7_isBorder 11 = .ok (.iload 4, 2) := by decide +kernel
theorem dX7_isBorder_13 : decode cX7_isBorder 13 = .ok (.invokevirtual 112, 3) := by decide +kernel
theorem dX7_isBorder_16 : decode cX7_isBorder 16 = .ok (.ifCond .eq 56, 3) := by decide +kernel
theorem dX7_isBorder_19 : decode cX7_isBorder 19 = .ok (.aload_n 0, 1) := by decide +kernel
theorem dX7_isBorder_20 : decode cX7_isBorder 20 = .ok (.iconst 5, 1) := by decide +kernel
theorem dX7_isBorder_21 : decode cX7_isBorder 21 = .ok (.iload_n 2, 1) := by decide +kernel
theorem dX7_isBorder_22 : decode cX7_isBorder 22 = .ok (.imul, 1) := by decide +kernel
theorem dX7_isBorder_23 : decode cX7_isBorder 23 = .ok (.iload_n 1, 1) := by decide +kernel
theorem dX7_isBorder_24 : decode cX7_isBorder 24 = .ok (.iadd, 1) := by decide +kernel
theorem dX7_isBorder_25 : decode cX7_isBorder 25 = .ok (.invokevirtual 125, 3) := by decide +kernel
theorem dX7_isBorder_28 : decode cX7_isBorder 28 = .ok (.ifCond .eq 44, 3) := by decide +kernel
theorem dX7_isBorder_31 : decode cX7_isBorder 31 = .ok (.aload_n 0, 1) := by decide +kernel
theorem dX7_isBorder_32 : decode cX7_isBorder 32 = .ok (.iconst 5, 1) := by decide +kernel
theorem dX7_isBorder_33 : decode cX7_isBorder 33 = .ok (.iload 4, 2) := by decide +kernel
theorem dX7_isBorder_35 : decode cX7_isBorder 35 = .ok (.imul, 1) := by decide +kernel
theorem dX7_isBorder_36 : decode cX7_isBorder 36 = .ok (.iload_n 3, 1) := by decide +kernel
theorem dX7_isBorder_37 : decode cX7_isBorder 37 = .ok (.iadd, 1) := by decide +kernel
theorem dX7_isBorder_38 : decode cX7_isBorder 38 = .ok (.invokevirtual 125, 3) := by decide +kernel
theorem dX7_isBorder_41 : decode cX7_isBorder 41 = .ok (.ifCond .eq 31, 3) := by decide +kernel
theorem dX7_isBorder_44 : decode cX7_isBorder 44 = .ok (.aload_n 0, 1) := by decide +kernel
theorem dX7_isBorder_45 : decode cX7_isBorder 45 = .ok (.getfield 16, 3) := by decide +kernel
theorem dX7_isBorder_48 : decode cX7_isBorder 48 = .ok (.iconst 5, 1) := by decide +kernel
theorem dX7_isBorder_49 : decode cX7_isBorder 49 = .ok (.iload_n 2, 1) := by decide +kernel
theorem dX7_isBorder_50 : decode cX7_isBorder 50 = .ok (.imul, 1) := by decide +kernel
theorem dX7_isBorder_51 : decode cX7_isBorder 51 = .ok (.iload_n 1, 1) := by decide +kernel
theorem dX7_isBorder_52 : decode cX7_isBorder 52 = .ok (.iadd, 1) := by decide +kernel
theorem dX7_isBorder_53 : decode cX7_isBorder 53 = .ok (.iaload, 1) := by decide +kernel
theorem dX7_isBorder_54 : decode cX7_isBorder 54 = .ok (.aload_n 0, 1) := by decide +kernel
theorem dX7_isBorder_55 : decode cX7_isBorder 55 = .ok (.getfield 16, 3) := by decide +kernel
theorem dX7_isBorder_58 : decode cX7_isBorder 58 = .ok (.iconst 5, 1) := by decide +kernel
theorem dX7_isBorder_59 : decode cX7_isBorder 59 = .ok (.iload 4, 2) := by decide +kernel
theorem dX7_isBorder_61 : decode cX7_isBorder 61 = .ok (.imul, 1) := by decide +kernel
theorem dX7_isBorder_62 : decode cX7_isBorder 62 = .ok (.iload_n 3, 1) := by decide +kernel
theorem dX7_isBorder_63 : decode cX7_isBorder 63 = .ok (.iadd, 1) := by decide +kernel
theorem dX7_isBorder_64 : decode cX7_isBorder 64 = .ok (.iaload, 1) := by decide +kernel
theorem dX7_isBorder_65 : decode cX7_isBorder 65 = .ok (.if_icmp .eq 7, 3) := by decide +kernel
theorem dX7_isBorder_68 : decode cX7_isBorder 68 = .ok (.iconst 1, 1) := by decide +kernel
theorem dX7_isBorder_69 : decode cX7_isBorder 69 = .ok (.goto 4, 3) := by decide +kernel
theorem dX7_isBorder_72 : decode cX7_isBorder 72 = .ok (.iconst 0, 1) := by decide +kernel
theorem dX7_isBorder_73 : decode cX7_isBorder 73 = .ok (.ireturn, 1) := by decide +kernel
theorem dX7_border_0 : decode cX7_border 0 = .ok (.iconst 0, 1) := by decide +kernel
theorem dX7_border_1 : decode cX7_border 1 = .ok (.istore_n 1, 1) := by decide +kernel
theorem dX7_border_2 : decode cX7_border 2 = .ok (.iconst 0, 1) := by decide +kernel
theorem dX7_border_3 : decode cX7_border 3 = .ok (.istore_n 2, 1) := by decide +kernel
theorem dX7_border_4 : decode cX7_border 4 = .ok (.iload_n 2, 1) := by decide +kernel
theorem dX7_border_5 : decode cX7_border 5 = .ok (.aload_n 0, 1) := by decide +kernel
theorem dX7_border_6 : decode cX7_border 6 = .ok (.getfield 13, 3) := by decide +kernel
theorem dX7_border_9 : decode cX7_border 9 = .ok (.if_icmp .ge 67, 3) := by decide +kernel
theorem dX7_border_12 : decode cX7_border 12 = .ok (.iconst 0, 1) := by decide +kernel
theorem dX7_border_13 : decode cX7_border 13 = .ok (.istore_n 3, 1) := by decide +kernel
theorem dX7_border_14 : decode cX7_border 14 = .ok (.iload_n 3, 1) := by decide +kernel
theorem dX7_border_15 : decode cX7_border 15 = .ok (.aload_n 0, 1) := by decide +kernel
theorem dX7_border_16 : decode cX7_border 16 = .ok (.getfield 7, 3) := by decide +kernel
theorem dX7_border_19 : decode cX7_border 19 = .ok (.if_icmp .ge 51, 3) := by decide +kernel
theorem dX7_border_22 : decode cX7_border 22 = .ok (.iload_n 1, 1) := by decide +kernel
theorem dX7_border_23 : decode cX7_border 23 = .ok (.aload_n 0, 1) := by decide +kernel
theorem dX7_border_24 : decode cX7_border 24 = .ok (.iload_n 3, 1) := by decide +kernel
theorem dX7_border_25 : decode cX7_border 25 = .ok (.iload_n 2, 1) := by decide +kernel
theorem dX7_border_26 : decode cX7_border 26 = .ok (.iload_n 3, 1) := by decide +kernel
theorem dX7_border_27 : decode cX7_border 27 = .ok (.iconst 1, 1) := by decide +kernel
theorem dX7_border_28 : decode cX7_border 28 = .ok (.iadd, 1) := by decide +kernel
theorem dX7_border_29 : decode cX7_border 29 = .ok (.iload_n 2, 1) := by decide +kernel
theorem dX7_border_30 : decode cX7_border 30 = .ok (.invokevirtual 143, 3) := by decide +kernel
theorem dX7_border_33 : decode cX7_border 33 = .ok (.ifCond .eq 7, 3) := by decide +kernel
theorem dX7_border_36 : decode cX7_border 36 = .ok (.iconst 1, 1) := by decide +kernel
theorem dX7_border_37 : decode cX7_border 37 = .ok (.goto 4, 3) := by decide +kernel
theorem dX7_border_40 : decode cX7_border 40 = .ok (.iconst 0, 1) := by decide +kernel
theorem dX7_border_41 : decode cX7_border 41 = .ok (.iadd, 1) := by decide +kernel
theorem dX7_border_42 : decode cX7_border 42 = .ok (.istore_n 1, 1) := by decide +kernel
theorem dX7_border_43 : decode cX7_border 43 = .ok (.iload_n 1, 1) := by decide +kernel
theorem dX7_border_44 : decode cX7_border 44 = .ok (.aload_n 0, 1) := by decide +kernel
theorem dX7_border_45 : decode cX7_border 45 = .ok (.iload_n 3, 1) := by decide +kernel
theorem dX7_border_46 : decode cX7_border 46 = .ok (.iload_n 2, 1) := by decide +kernel
theorem dX7_border_47 : decode cX7_border 47 = .ok (.iload_n 3, 1) := by decide +kernel
theorem dX7_border_48 : decode cX7_border 48 = .ok (.iload_n 2, 1) := by decide +kernel
theorem dX7_border_49 : decode cX7_border 49 = .ok (.iconst 1, 1) := by decide +kernel
theorem dX7_border_50 : decode cX7_border 50 = .ok (.iadd, 1) := by decide +kernel
theorem dX7_border_51 : decode cX7_border 51 = .ok (.invokevirtual 143, 3) := by decide +kernel
theorem dX7_border_54 : decode cX7_border 54 = .ok (.ifCond .eq 7, 3) := by decide +kernel
theorem dX7_border_57 : decode cX7_border 57 = .ok (.iconst 1, 1) := by decide +kernel
theorem dX7_border_58 : decode cX7_border 58 = .ok (.goto 4, 3) := by decide +kernel
theorem dX7_border_61 : decode cX7_border 61 = .ok (.iconst 0, 1) := by decide +kernel
theorem dX7_border_62 : decode cX7_border 62 = .ok (.iadd, 1) := by decide +kernel
theorem dX7_border_63 : decode cX7_border 63 = .ok (.istore_n 1, 1) := by decide +kernel
theorem dX7_border_64 : decode cX7_border 64 = .ok (.iinc 3 1, 3) := by decide +kernel
theorem dX7_border_67 : decode cX7_border 67 = .ok (.goto (-53), 3) := by decide +kernel
theorem dX7_border_70 : decode cX7_border 70 = .ok (.iinc 2 1, 3) := by decide +kernel
theorem dX7_border_73 : decode cX7_border 73 = .ok (.goto (-69), 3) := by decide +kernel
theorem dX7_border_76 : decode cX7_border 76 = .ok (.iload_n 1, 1) := by decide +kernel
theorem dX7_border_77 : decode cX7_border 77 = .ok (.ireturn, 1) := by decide +kernel
theorem dX7_now_0 : decode cX7_now 0 = .ok (.iconst 0, 1) := by decide +kernel
theorem dX7_now_1 : decode cX7_now 1 = .ok (.istore_n 2, 1) := by decide +kernel
theorem dX7_now_2 : decode cX7_now 2 = .ok (.iconst 0, 1) := by decide +kernel
theorem dX7_now_3 : decode cX7_now 3 = .ok (.istore_n 3, 1) := by decide +kernel
theorem dX7_now_4 : decode cX7_now 4 = .ok (.iload_n 3, 1) := by decide +kernel
theorem dX7_now_5 : decode cX7_now 5 = .ok (.bipush 20, 2) := by decide +kernel
theorem dX7_now_7 : decode cX7_now 7 = .ok (.if_icmp .ge 28, 3) := by decide +kernel
theorem dX7_now_10 : decode cX7_now 10 = .ok (.iload_n 2, 1) := by decide +kernel
theorem dX7_now_11 : decode cX7_now 11 = .ok (.aload_n 0, 1) := by decide +kernel
theorem dX7_now_12 : decode cX7_now 12 = .ok (.getfield 16, 3) := by decide +kernel
theorem dX7_now_15 : decode cX7_now 15 = .ok (.iload_n 3, 1) := by decide +kernel
theorem dX7_now_16 : decode cX7_now 16 = .ok (.iaload, 1) := by decide +kernel
theorem dX7_now_17 : decode cX7_now 17 = .ok (.ifCond .le 9, 3) := by decide +kernel
theorem dX7_now_20 : decode cX7_now 20 = .ok (.iconst 1, 1) := by decide +kernel
theorem dX7_now_21 : decode cX7_now 21 = .ok (.iload_n 3, 1) := by decide +kernel
theorem dX7_now_22 : decode cX7_now 22 = .ok (.ishl, 1) := by decide +kernel
theorem dX7_now_23 : decode cX7_now 23 = .ok (.goto 4, 3) := by decide +kernel
theorem dX7_now_26 : decode cX7_now 26 = .ok (.iconst 0, 1) := by decide +kernel
theorem dX7_now_27 : decode cX7_now 27 = .ok (.ior, 1) := by decide +kernel
theorem dX7_now_28 : decode cX7_now 28 = .ok (.istore_n 2, 1) := by decide +kernel
theorem dX7_now_29 : decode cX7_now 29 = .ok (.iinc 3 1, 3) := by decide +kernel
theorem dX7_now_32 : decode cX7_now 32 = .ok (.goto (-28), 3) := by decide +kernel
theorem dX7_now_35 : decode cX7_now 35 = .ok (.iload_n 1, 1) := by decide +kernel
theorem dX7_now_36 : decode cX7_now 36 = .ok (.tableswitch 90 0 5 #[40, 48, 56, 64, 66, 85], 40) := by decide +kernel
theorem dX7_now_76 : decode cX7_now 76 = .ok (.aload_n 0, 1) := by decide +kernel
theorem dX7_now_77 : decode cX7_now 77 = .ok (.getfield 16, 3) := by decide +kernel
theorem dX7_now_80 : decode cX7_now 80 = .ok (.bipush 21, 2) := by decide +kernel
theorem dX7_now_82 : decode cX7_now 82 = .ok (.iaload, 1) := by decide +kernel
theorem dX7_now_83 : decode cX7_now 83 = .ok (.ireturn, 1) := by decide +kernel
theorem dX7_now_84 : decode cX7_now 84 = .ok (.aload_n 0, 1) := by decide +kernel
theorem dX7_now_85 : decode cX7_now 85 = .ok (.getfield 16, 3) := by decide +kernel
theorem dX7_now_88 : decode cX7_now 88 = .ok (.bipush 22, 2) := by decide +kernel
theorem dX7_now_90 : decode cX7_now 90 = .ok (.iaload, 1) := by decide +kernel
theorem dX7_now_91 : decode cX7_now 91 = .ok (.ireturn, 1) := by decide +kernel
theorem dX7_now_92 : decode cX7_now 92 = .ok (.aload_n 0, 1) := by decide +kernel
theorem dX7_now_93 : decode cX7_now 93 = .ok (.getfield 16, 3) := by decide +kernel
theorem dX7_now_96 : decode cX7_now 96 = .ok (.bipush 20, 2) := by decide +kernel
theorem dX7_now_98 : decode cX7_now 98 = .ok (.iaload, 1) := by decide +kernel
theorem dX7_now_99 : decode cX7_now 99 = .ok (.ireturn, 1) := by decide +kernel
theorem dX7_now_100 : decode cX7_now 100 = .ok (.iload_n 2, 1) := by decide +kernel
theorem dX7_now_101 : decode cX7_now 101 = .ok (.ireturn, 1) := by decide +kernel
theorem dX7_now_102 : decode cX7_now 102 = .ok (.aload_n 0, 1) := by decide +kernel
theorem dX7_now_103 : decode cX7_now 103 = .ok (.aload_n 0, 1) := by decide +kernel
theorem dX7_now_104 : decode cX7_now 104 = .ok (.getfield 16, 3) := by decide +kernel
theorem dX7_now_107 : decode cX7_now 107 = .ok (.bipush 20, 2) := by decide +kernel
theorem dX7_now_109 : decode cX7_now 109 = .ok (.iaload, 1) := by decide +kernel
theorem dX7_now_110 : decode cX7_now 110 = .ok (.aload_n 0, 1) := by decide +kernel
theorem dX7_now_111 : decode cX7_now 111 = .ok (.getfield 16, 3) := by decide +kernel
theorem dX7_now_114 : decode cX7_now 114 = .ok (.bipush 21, 2) := by decide +kernel
theorem dX7_now_116 : decode cX7_now 116 = .ok (.iaload, 1) := by decide +kernel
theorem dX7_now_117 : decode cX7_now 117 = .ok (.invokevirtual 131, 3) := by decide +kernel
theorem dX7_now_120 : decode cX7_now 120 = .ok (.ireturn, 1) := by decide +kernel
theorem dX7_now_121 : decode cX7_now 121 = .ok (.aload_n 0, 1) := by decide +kernel
theorem dX7_now_122 : decode cX7_now 122 = .ok (.invokevirtual 146, 3) := by decide +kernel
theorem dX7_now_125 : decode cX7_now 125 = .ok (.ireturn, 1) := by decide +kernel
theorem dX7_now_126 : decode cX7_now 126 = .ok (.iconst (-1), 1) := by decide +kernel
theorem dX7_now_127 : decode cX7_now 127 = .ok (.ireturn, 1) := by decide +kernel
theorem dX7_costOf_0 : decode cX7_costOf 0 = .ok (.aload_n 0, 1) := by decide +kernel
theorem dX7_costOf_1 : decode cX7_costOf 1 = .ok (.getfield 16, 3) := by decide +kernel
theorem dX7_costOf_4 : decode cX7_costOf 4 = .ok (.iload_n 2, 1) := by decide +kernel
theorem dX7_costOf_5 : decode cX7_costOf 5 = .ok (.iaload, 1) := by decide +kernel
theorem dX7_costOf_6 : decode cX7_costOf 6 = .ok (.ifCond .eq 15, 3) := by decide +kernel
theorem dX7_costOf_9 : decode cX7_costOf 9 = .ok (.aload_n 0, 1) := by decide +kernel
theorem dX7_costOf_10 : decode cX7_costOf 10 = .ok (.getfield 16, 3) := by decide +kernel
theorem dX7_costOf_13 : decode cX7_costOf 13 = .ok (.iload_n 2, 1) := by decide +kernel
theorem dX7_costOf_14 : decode cX7_costOf 14 = .ok (.iaload, 1) := by decide +kernel
theorem dX7_costOf_15 : decode cX7_costOf 15 = .ok (.iload_n 1, 1) := by decide +kernel
theorem dX7_costOf_16 : decode cX7_costOf 16 = .ok (.iconst 1, 1) := by decide +kernel
theorem dX7_costOf_17 : decode cX7_costOf 17 = .ok (.iadd, 1) := by decide +kernel
theorem dX7_costOf_18 : decode cX7_costOf 18 = .ok (.if_icmp .ne 7, 3) := by decide +kernel
theorem dX7_costOf_21 : decode cX7_costOf 21 = .ok (.iconst 0, 1) := by decide +kernel
theorem dX7_costOf_22 : decode cX7_costOf 22 = .ok (.goto 4, 3) := by decide +kernel
theorem dX7_costOf_25 : decode cX7_costOf 25 = .ok (.iconst 1, 1) := by decide +kernel
theorem dX7_costOf_26 : decode cX7_costOf 26 = .ok (.ireturn, 1) := by decide +kernel
theorem dX7_leastBeside_0 : decode cX7_leastBeside 0 = .ok (.bipush 100, 2) := by decide +kernel
theorem dX7_leastBeside_2 : decode cX7_leastBeside 2 = .ok (.istore_n 3, 1) := by decide +kernel
theorem dX7_leastBeside_3 : decode cX7_leastBeside 3 = .ok (.iconst 0, 1) := by decide +kernel
theorem dX7_leastBeside_4 : decode cX7_leastBeside 4 = .ok (.istore 4, 2) := by decide +kernel
theorem dX7_leastBeside_6 : decode cX7_leastBeside 6 = .ok (.iload 4, 2) := by decide +kernel
theorem dX7_leastBeside_8 : decode cX7_leastBeside 8 = .ok (.iconst 4, 1) := by decide +kernel
theorem dX7_leastBeside_9 : decode cX7_leastBeside 9 = .ok (.if_icmp .ge 114, 3) := by decide +kernel
theorem dX7_leastBeside_12 : decode cX7_leastBeside 12 = .ok (.iload_n 1, 1) := by decide +kernel
theorem dX7_leastBeside_13 : decode cX7_leastBeside 13 = .ok (.iload 4, 2) := by decide +kernel
theorem dX7_leastBeside_15 : decode cX7_leastBeside 15 = .ok (.ifCond .ne 7, 3) := by decide +kernel
theorem dX7_leastBeside_18 : decode cX7_leastBeside 18 = .ok (.iconst 1, 1) := by decide +kernel
theorem dX7_leastBeside_19 : decode cX7_leastBeside 19 = .ok (.goto 14, 3) := by decide +kernel
theorem dX7_leastBeside_22 : decode cX7_leastBeside 22 = .ok (.iload 4, 2) := by decide +kernel
theorem dX7_leastBeside_24 : decode cX7_leastBeside 24 = .ok (.iconst 1, 1) := by decide +kernel
theorem dX7_leastBeside_25 : decode cX7_leastBeside 25 = .ok (.if_icmp .ne 7, 3) := by decide +kernel
theorem dX7_leastBeside_28 : decode cX7_leastBeside 28 = .ok (.iconst (-1), 1) := by decide +kernel
theorem dX7_leastBeside_29 : decode cX7_leastBeside 29 = .ok (.goto 4, 3) := by decide +kernel
theorem dX7_leastBeside_32 : decode cX7_leastBeside 32 = .ok (.iconst 0, 1) := by decide +kernel
theorem dX7_leastBeside_33 : decode cX7_leastBeside 33 = .ok (.iadd, 1) := by decide +kernel
theorem dX7_leastBeside_34 : decode cX7_leastBeside 34 = .ok (.istore 5, 2) := by decide +kernel
theorem dX7_leastBeside_36 : decode cX7_leastBeside 36 = .ok (.iload_n 2, 1) := by decide +kernel
theorem dX7_leastBeside_37 : decode cX7_leastBeside 37 = .ok (.iload 4, 2) := by decide +kernel
theorem dX7_leastBeside_39 : decode cX7_leastBeside 39 = .ok (.iconst 2, 1) := by decide +kernel
theorem dX7_leastBeside_40 : decode cX7_leastBeside 40 = .ok (.if_icmp .ne 7, 3) := by decide +kernel
theorem dX7_leastBeside_43 : decode cX7_leastBeside 43 = .ok (.iconst 1, 1) := by decide +kernel
theorem dX7_leastBeside_44 : decode cX7_leastBeside 44 = .ok (.goto 14, 3) := by decide +kernel
theorem dX7_leastBeside_47 : decode cX7_leastBeside 47 = .ok (.iload 4, 2) := by decide +kernel
theorem dX7_leastBeside_49 : decode cX7_leastBeside 49 = .ok (.iconst 3, 1) := by decide +kernel
theorem dX7_leastBeside_50 : decode cX7_leastBeside 50 = .ok (.if_icmp .ne 7, 3) := by decide +kernel
theorem dX7_leastBeside_53 : decode cX7_leastBeside 53 = .ok (.iconst (-1), 1) := by decide +kernel
theorem dX7_leastBeside_54 : decode cX7_leastBeside 54 = .ok (.goto 4, 3) := by decide +kernel
theorem dX7_leastBeside_57 : decode cX7_leastBeside 57 = .ok (.iconst 0, 1) := by decide +kernel
theorem dX7_leastBeside_58 : decode cX7_leastBeside 58 = .ok (.iadd, 1) := by decide +kernel
theorem dX7_leastBeside_59 : decode cX7_leastBeside 59 = .ok (.istore 6, 2) := by decide +kernel
theorem dX7_leastBeside_61 : decode cX7_leastBeside 61 = .ok (.aload_n 0, 1) := by decide +kernel
theorem dX7_leastBeside_62 : decode cX7_leastBeside 62 = .ok (.iload 5, 2) := by decide +kernel
theorem dX7_leastBeside_64 : decode cX7_leastBeside 64 = .ok (.iload 6, 2) := by decide +kernel
theorem dX7_leastBeside_66 : decode cX7_leastBeside 66 = .ok (.invokevirtual 112, 3) := by decide +kernel
theorem dX7_leastBeside_69 : decode cX7_leastBeside 69 = .ok (.ifCond .eq 23, 3) := by decide +kernel
theorem dX7_leastBeside_72 : decode cX7_leastBeside 72 = .ok (.aload_n 0, 1) := by decide +kernel
theorem dX7_leastBeside_73 : decode cX7_leastBeside 73 = .ok (.getfield 36, 3) := by decide +kernel
theorem dX7_leastBeside_76 : decode cX7_leastBeside 76 = .ok (.iconst 5, 1) := by decide +kernel
theorem dX7_leastBeside_77 : decode cX7_leastBeside 77 = .ok (.iload 6, 2) := by decide +kernel
theorem dX7_leastBeside_79 : decode cX7_leastBeside 79 = .ok (.imul, 1) := by decide +kernel
theorem dX7_leastBeside_80 : decode cX7_leastBeside 80 = .ok (.iload 5, 2) := by decide +kernel
theorem dX7_leastBeside_82 : decode cX7_leastBeside 82 = .ok (.iadd, 1) := by decide +kernel
theorem dX7_leastBeside_83 : decode cX7_leastBeside 83 = .ok (.iaload, 1) := by decide +kernel
theorem dX7_leastBeside_84 : decode cX7_leastBeside 84 = .ok (.iload_n 3, 1) := by decide +kernel
theorem dX7_leastBeside_85 : decode cX7_leastBeside 85 = .ok (.if_icmp .ge 7, 3) := by decide +kernel
theorem dX7_leastBeside_88 : decode cX7_leastBeside 88 = .ok (.iconst 1, 1) := by decide +kernel
theorem dX7_leastBeside_89 : decode cX7_leastBeside 89 = .ok (.goto 4, 3) := by decide +kernel
theorem dX7_leastBeside_92 : decode cX7_leastBeside 92 = .ok (.iconst 0, 1) := by decide +kernel
theorem dX7_leastBeside_93 : decode cX7_leastBeside 93 = .ok (.istore 7, 2) := by decide +kernel
theorem dX7_leastBeside_95 : decode cX7_leastBeside 95 = .ok (.iload 7, 2) := by decide +kernel
theorem dX7_leastBeside_97 : decode cX7_leastBeside 97 = .ok (.ifCond .eq 18, 3) := by decide +kernel
theorem dX7_leastBeside_100 : decode cX7_leastBeside 100 = .ok (.aload_n 0, 1) := by decide +kernel
theorem dX7_leastBeside_101 : decode cX7_leastBeside 101 = .ok (.getfield 36, 3) := by decide +kernel
theorem dX7_leastBeside_104 : decode cX7_leastBeside 104 = .ok (.iconst 5, 1) := by decide +kernel
theorem dX7_leastBeside_105 : decode cX7_leastBeside 105 = .ok (.iload 6, 2) := by decide +kernel
theorem dX7_leastBeside_107 : decode cX7_leastBeside 107 = .ok (.imul, 1) := by decide +kernel
theorem dX7_leastBeside_108 : decode cX7_leastBeside 108 = .ok (.iload 5, 2) := by decide +kernel
theorem dX7_leastBeside_110 : decode cX7_leastBeside 110 = .ok (.iadd, 1) := by decide +kernel
theorem dX7_leastBeside_111 : decode cX7_leastBeside 111 = .ok (.iaload, 1) := by decide +kernel
theorem dX7_leastBeside_112 : decode cX7_leastBeside 112 = .ok (.goto 4, 3) := by decide +kernel
theorem dX7_leastBeside_115 : decode cX7_leastBeside 115 = .ok (.iload_n 3, 1) := by decide +kernel
theorem dX7_leastBeside_116 : decode cX7_leastBeside 116 = .ok (.istore_n 3, 1) := by decide +kernel
theorem dX7_leastBeside_117 : decode cX7_leastBeside 117 = .ok (.iinc 4 1, 3) := by decide +kernel
theorem dX7_leastBeside_120 : decode cX7_leastBeside 120 = .ok (.goto (-114), 3) := by decide +kernel
theorem dX7_leastBeside_123 : decode cX7_leastBeside 123 = .ok (.iload_n 3, 1) := by decide +kernel
theorem dX7_leastBeside_124 : decode cX7_leastBeside 124 = .ok (.ireturn, 1) := by decide +kernel
theorem dX7_findFar_0 : decode cX7_findFar 0 = .ok (.iconst 0, 1) := by decide +kernel
theorem dX7_findFar_1 : decode cX7_findFar 1 = .ok (.istore_n 2, 1) := by decide +kernel
theorem dX7_findFar_2 : decode cX7_findFar 2 = .ok (.iload_n 2, 1) := by decide +kernel
theorem dX7_findFar_3 : decode cX7_findFar 3 = .ok (.bipush 20, 2) := by decide +kernel
theorem dX7_findFar_5 : decode cX7_findFar 5 = .ok (.if_icmp .ge 52, 3) := by decide +kernel
theorem dX7_findFar_8 : decode cX7_findFar 8 = .ok (.aload_n 0, 1) := by decide +kernel
theorem dX7_findFar_9 : decode cX7_findFar 9 = .ok (.getfield 36, 3) := by decide +kernel
theorem dX7_findFar_12 : decode cX7_findFar 12 = .ok (.iload_n 2, 1) := by decide +kernel
theorem dX7_findFar_13 : decode cX7_findFar 13 = .ok (.aload_n 0, 1) := by decide +kernel
theorem dX7_findFar_14 : decode cX7_findFar 14 = .ok (.iload_n 2, 1) := by decide +kernel
theorem dX7_findFar_15 : decode cX7_findFar 15 = .ok (.iconst 5, 1) := by decide +kernel
theorem dX7_findFar_16 : decode cX7_findFar 16 = .ok (.irem, 1) := by decide +kernel
theorem dX7_findFar_17 : decode cX7_findFar 17 = .ok (.iload_n 2, 1) := by decide +kernel
theorem dX7_findFar_18 : decode cX7_findFar 18 = .ok (.iconst 5, 1) := by decide +kernel
theorem dX7_findFar_19 : decode cX7_findFar 19 = .ok (.idiv, 1) := by decide +kernel
theorem dX7_findFar_20 : decode cX7_findFar 20 = .ok (.invokevirtual 112, 3) := by decide +kernel
theorem dX7_findFar_23 : decode cX7_findFar 23 = .ok (.ifCond .eq 25, 3) := by decide +kernel
theorem dX7_findFar_26 : decode cX7_findFar 26 = .ok (.iload_n 2, 1) := by decide +kernel
theorem dX7_findFar_27 : decode cX7_findFar 27 = .ok (.iconst 5, 1) := by decide +kernel
theorem dX7_findFar_28 : decode cX7_findFar 28 = .ok (.idiv, 1) := by decide +kernel
theorem dX7_findFar_29 : decode cX7_findFar 29 = .ok (.aload_n 0, 1) := by decide +kernel
theorem dX7_findFar_30 : decode cX7_findFar 30 = .ok (.getfield 16, 3) := by decide +kernel
theorem dX7_findFar_33 : decode cX7_findFar 33 = .ok (.bipush 22, 2) := by decide +kernel
theorem dX7_findFar_35 : decode cX7_findFar 35 = .ok (.iaload, 1) := by decide +kernel
theorem dX7_findFar_36 : decode cX7_findFar 36 = .ok (.if_icmp .ne 12, 3) := by decide +kernel
theorem dX7_findFar_39 : decode cX7_findFar 39 = .ok (.aload_n 0, 1) := by decide +kernel
theorem dX7_findFar_40 : decode cX7_findFar 40 = .ok (.iload_n 1, 1) := by decide +kernel
theorem dX7_findFar_41 : decode cX7_findFar 41 = .ok (.iload_n 2, 1) := by decide +kernel
theorem dX7_findFar_42 : decode cX7_findFar 42 = .ok (.invokevirtual 150, 3) := by decide +kernel
theorem dX7_findFar_45 : decode cX7_findFar 45 = .ok (.goto 5, 3) := by decide +kernel
theorem dX7_findFar_48 : decode cX7_findFar 48 = .ok (.bipush 100, 2) := by decide +kernel
theorem dX7_findFar_50 : decode cX7_findFar 50 = .ok (.iastore, 1) := by decide +kernel
theorem dX7_findFar_51 : decode cX7_findFar 51 = .ok (.iinc 2 1, 3) := by decide +kernel
theorem dX7_findFar_54 : decode cX7_findFar 54 = .ok (.goto (-52), 3) := by decide +kernel
theorem dX7_findFar_57 : decode cX7_findFar 57 = .ok (.iconst 0, 1) := by decide +kernel
theorem dX7_findFar_58 : decode cX7_findFar 58 = .ok (.istore_n 2, 1) := by decide +kernel
theorem dX7_findFar_59 : decode cX7_findFar 59 = .ok (.iload_n 2, 1) := by decide +kernel
theorem dX7_findFar_60 : decode cX7_findFar 60 = .ok (.bipush 20, 2) := by decide +kernel
theorem dX7_findFar_62 : decode cX7_findFar 62 = .ok (.if_icmp .ge 91, 3) := by decide +kernel
theorem dX7_findFar_65 : decode cX7_findFar 65 = .ok (.iconst 0, 1) := by decide +kernel
theorem dX7_findFar_66 : decode cX7_findFar 66 = .ok (.istore_n 3, 1) := by decide +kernel
theorem dX7_findFar_67 : decode cX7_findFar 67 = .ok (.iload_n 3, 1) := by decide +kernel
theorem dX7_findFar_68 : decode cX7_findFar 68 = .ok (.bipush 20, 2) := by decide +kernel
theorem dX7_findFar_70 : decode cX7_findFar 70 = .ok (.if_icmp .ge 77, 3) := by decide +kernel
theorem dX7_findFar_73 : decode cX7_findFar 73 = .ok (.aload_n 0, 1) := by decide +kernel
theorem dX7_findFar_74 : decode cX7_findFar 74 = .ok (.iload_n 3, 1) := by decide +kernel
theorem dX7_findFar_75 : decode cX7_findFar 75 = .ok (.iconst 5, 1) := by decide +kernel
theorem dX7_findFar_76 : decode cX7_findFar 76 = .ok (.irem, 1) := by decide +kernel
theorem dX7_findFar_77 : decode cX7_findFar 77 = .ok (.iload_n 3, 1) := by decide +kernel
theorem dX7_findFar_78 : decode cX7_findFar 78 = .ok (.iconst 5, 1) := by decide +kernel
theorem dX7_findFar_79 : decode cX7_findFar 79 = .ok (.idiv, 1) := by decide +kernel
theorem dX7_findFar_80 : decode cX7_findFar 80 = .ok (.invokevirtual 112, 3) := by decide +kernel
theorem dX7_findFar_83 : decode cX7_findFar 83 = .ok (.ifCond .eq 58, 3) := by decide +kernel
theorem dX7_findFar_86 : decode cX7_findFar 86 = .ok (.aload_n 0, 1) := by decide +kernel
theorem dX7_findFar_87 : decode cX7_findFar 87 = .ok (.iload_n 3, 1) := by decide +kernel
theorem dX7_findFar_88 : decode cX7_findFar 88 = .ok (.invokevirtual 125, 3) := by decide +kernel
theorem dX7_findFar_91 : decode cX7_findFar 91 = .ok (.ifCond .eq 50, 3) := by decide +kernel
theorem dX7_findFar_94 : decode cX7_findFar 94 = .ok (.aload_n 0, 1) := by decide +kernel
theorem dX7_findFar_95 : decode cX7_findFar 95 = .ok (.iload_n 3, 1) := by decide +kernel
theorem dX7_findFar_96 : decode cX7_findFar 96 = .ok (.iconst 5, 1) := by decide +kernel
theorem dX7_findFar_97 : decode cX7_findFar 97 = .ok (.irem, 1) := by decide +kernel
theorem dX7_findFar_98 : decode cX7_findFar 98 = .ok (.iload_n 3, 1) := by decide +kernel
theorem dX7_findFar_99 : decode cX7_findFar 99 = .ok (.iconst 5, 1) := by decide +kernel
theorem dX7_findFar_100 : decode cX7_findFar 100 = .ok (.idiv, 1) := by decide +kernel
theorem dX7_findFar_101 : decode cX7_findFar 101 = .ok (.invokevirtual 153, 3) := by decide +kernel
theorem dX7_findFar_104 : decode cX7_findFar 104 = .ok (.aload_n 0, 1) := by decide +kernel
theorem dX7_findFar_105 : decode cX7_findFar 105 = .ok (.iload_n 1, 1) := by decide +kernel
theorem dX7_findFar_106 : decode cX7_findFar 106 = .ok (.iload_n 3, 1) := by decide +kernel
theorem dX7_findFar_107 : decode cX7_findFar 107 = .ok (.invokevirtual 150, 3) := by decide +kernel
theorem dX7_findFar_110 : decode cX7_findFar 110 = .ok (.iadd, 1) := by decide +kernel
theorem dX7_findFar_111 : decode cX7_findFar 111 = .ok (.istore 4, 2) := by decide +kernel
theorem dX7_findFar_113 : decode cX7_findFar 113 = .ok (.aload_n 0, 1) := by decide +kernel
theorem dX7_findFar_114 : decode cX7_findFar 114 = .ok (.getfield 36, 3) := by decide +kernel
theorem dX7_findFar_117 : decode cX7_findFar 117 = .ok (.iload_n 3, 1) := by decide +kernel
theorem dX7_findFar_118 : decode cX7_findFar 118 = .ok (.iload 4, 2) := by decide +kernel
theorem dX7_findFar_120 : decode cX7_findFar 120 = .ok (.aload_n 0, 1) := by decide +kernel
theorem dX7_findFar_121 : decode cX7_findFar 121 = .ok (.getfield 36, 3) := by decide +kernel
theorem dX7_findFar_124 : decode cX7_findFar 124 = .ok (.iload_n 3, 1) := by decide +kernel
theorem dX7_findFar_125 : decode cX7_findFar 125 = .ok (.iaload, 1) := by decide +kernel
theorem dX7_findFar_126 : decode cX7_findFar 126 = .ok (.if_icmp .ge 8, 3) := by decide +kernel
theorem dX7_findFar_129 : decode cX7_findFar 129 = .ok (.iload 4, 2) := by decide +kernel
theorem dX7_findFar_131 : decode cX7_findFar 131 = .ok (.goto 9, 3) := by decide +kernel
theorem dX7_findFar_134 : decode cX7_findFar 134 = .ok (.aload_n 0, 1) := by decide +kernel
theorem dX7_findFar_135 : decode cX7_findFar 135 = .ok (.getfield 36, 3) := by decide +kernel
theorem dX7_findFar_138 : decode cX7_findFar 138 = .ok (.iload_n 3, 1) := by decide +kernel
theorem dX7_findFar_139 : decode cX7_findFar 139 = .ok (.iaload, 1) := by decide +kernel
theorem dX7_findFar_140 : decode cX7_findFar 140 = .ok (.iastore, 1) := by decide +kernel
theorem dX7_findFar_141 : decode cX7_findFar 141 = .ok (.iinc 3 1, 3) := by decide +kernel
theorem dX7_findFar_144 : decode cX7_findFar 144 = .ok (.goto (-77), 3) := by decide +kernel
theorem dX7_findFar_147 : decode cX7_findFar 147 = .ok (.iinc 2 1, 3) := by decide +kernel
theorem dX7_findFar_150 : decode cX7_findFar 150 = .ok (.goto (-91), 3) := by decide +kernel
theorem dX7_findFar_153 : decode cX7_findFar 153 = .ok (.return_, 1) := by decide +kernel
theorem dX7_water_0 : decode cX7_water 0 = .ok (.iload_n 1, 1) := by decide +kernel
theorem dX7_water_1 : decode cX7_water 1 = .ok (.invokestatic 128, 3) := by decide +kernel
theorem dX7_water_4 : decode cX7_water 4 = .ok (.ifCond .eq 24, 3) := by decide +kernel
theorem dX7_water_7 : decode cX7_water 7 = .ok (.aload_n 0, 1) := by decide +kernel
theorem dX7_water_8 : decode cX7_water 8 = .ok (.iload_n 2, 1) := by decide +kernel
theorem dX7_water_9 : decode cX7_water 9 = .ok (.iload_n 3, 1) := by decide +kernel
theorem dX7_water_10 : decode cX7_water 10 = .ok (.invokevirtual 112, 3) := by decide +kernel
theorem dX7_water_13 : decode cX7_water 13 = .ok (.ifCond .eq 15, 3) := by decide +kernel
theorem dX7_water_16 : decode cX7_water 16 = .ok (.aload_n 0, 1) := by decide +kernel
theorem dX7_water_17 : decode cX7_water 17 = .ok (.iconst 5, 1) := by decide +kernel
theorem dX7_water_18 : decode cX7_water 18 = .ok (.iload_n 3, 1) := by decide +kernel
theorem dX7_water_19 : decode cX7_water 19 = .ok (.imul, 1) := by decide +kernel
theorem dX7_water_20 : decode cX7_water 20 = .ok (.iload_n 2, 1) := by decide +kernel
theorem dX7_water_21 : decode cX7_water 21 = .ok (.iadd, 1) := by decide +kernel
theorem dX7_water_22 : decode cX7_water 22 = .ok (.invokevirtual 125, 3) := by decide +kernel
theorem dX7_water_25 : decode cX7_water 25 = .ok (.ifCond .ne 5, 3) := by decide +kernel
theorem dX7_water_28 : decode cX7_water 28 = .ok (.iconst (-1), 1) := by decide +kernel
theorem dX7_water_29 : decode cX7_water 29 = .ok (.ireturn, 1) := by decide +kernel
theorem dX7_water_30 : decode cX7_water 30 = .ok (.aload_n 0, 1) := by decide +kernel
theorem dX7_water_31 : decode cX7_water 31 = .ok (.iload_n 1, 1) := by decide +kernel
theorem dX7_water_32 : decode cX7_water 32 = .ok (.invokevirtual 156, 3) := by decide +kernel
theorem dX7_water_35 : decode cX7_water 35 = .ok (.aload_n 0, 1) := by decide +kernel
theorem dX7_water_36 : decode cX7_water 36 = .ok (.getfield 36, 3) := by decide +kernel
theorem dX7_water_39 : decode cX7_water 39 = .ok (.iconst 5, 1) := by decide +kernel
theorem dX7_water_40 : decode cX7_water 40 = .ok (.iload_n 3, 1) := by decide +kernel
theorem dX7_water_41 : decode cX7_water 41 = .ok (.imul, 1) := by decide +kernel
theorem dX7_water_42 : decode cX7_water 42 = .ok (.iload_n 2, 1) := by decide +kernel
theorem dX7_water_43 : decode cX7_water 43 = .ok (.iadd, 1) := by decide +kernel
theorem dX7_water_44 : decode cX7_water 44 = .ok (.iaload, 1) := by decide +kernel
theorem dX7_water_45 : decode cX7_water 45 = .ok (.ireturn, 1) := by decide +kernel
theorem dX7_help_0 : decode cX7_help 0 = .ok (.iload_n 1, 1) := by decide +kernel
theorem dX7_help_1 : decode cX7_help 1 = .ok (.invokestatic 128, 3) := by decide +kernel
theorem dX7_help_4 : decode cX7_help 4 = .ok (.ifCond .eq 12, 3) := by decide +kernel
theorem dX7_help_7 : decode cX7_help 7 = .ok (.iload_n 2, 1) := by decide +kernel
theorem dX7_help_8 : decode cX7_help 8 = .ok (.iconst 0, 1) := by decide +kernel
theorem dX7_help_9 : decode cX7_help 9 = .ok (.iconst 1, 1) := by decide +kernel
theorem dX7_help_10 : decode cX7_help 10 = .ok (.invokestatic 39, 3) := by decide +kernel
theorem dX7_help_13 : decode cX7_help 13 = .ok (.ifCond .ne 5, 3) := by decide +kernel
theorem dX7_help_16 : decode cX7_help 16 = .ok (.iconst (-1), 1) := by decide +kernel
theorem dX7_help_17 : decode cX7_help 17 = .ok (.ireturn, 1) := by decide +kernel
theorem dX7_help_18 : decode cX7_help 18 = .ok (.aload_n 0, 1) := by decide +kernel
theorem dX7_help_19 : decode cX7_help 19 = .ok (.iload_n 1, 1) := by decide +kernel
theorem dX7_help_20 : decode cX7_help 20 = .ok (.invokevirtual 122, 3) := by decide +kernel
theorem dX7_help_23 : decode cX7_help 23 = .ok (.istore_n 3, 1) := by decide +kernel
theorem dX7_help_24 : decode cX7_help 24 = .ok (.iload_n 3, 1) := by decide +kernel
theorem dX7_help_25 : decode cX7_help 25 = .ok (.aload_n 0, 1) := by decide +kernel
theorem dX7_help_26 : decode cX7_help 26 = .ok (.aload_n 0, 1) := by decide +kernel
theorem dX7_help_27 : decode cX7_help 27 = .ok (.getfield 16, 3) := by decide +kernel
theorem dX7_help_30 : decode cX7_help 30 = .ok (.bipush 20, 2) := by decide +kernel
theorem dX7_help_32 : decode cX7_help 32 = .ok (.iaload, 1) := by decide +kernel
theorem dX7_help_33 : decode cX7_help 33 = .ok (.aload_n 0, 1) := by decide +kernel
theorem dX7_help_34 : decode cX7_help 34 = .ok (.getfield 16, 3) := by decide +kernel
theorem dX7_help_37 : decode cX7_help 37 = .ok (.bipush 21, 2) := by decide +kernel
theorem dX7_help_39 : decode cX7_help 39 = .ok (.iaload, 1) := by decide +kernel
theorem dX7_help_40 : decode cX7_help 40 = .ok (.invokevirtual 131, 3) := by decide +kernel
theorem dX7_help_43 : decode cX7_help 43 = .ok (.iand, 1) := by decide +kernel
theorem dX7_help_44 : decode cX7_help 44 = .ok (.invokestatic 134, 3) := by decide +kernel
theorem dX7_help_47 : decode cX7_help 47 = .ok (.istore 4, 2) := by decide +kernel
theorem dX7_help_49 : decode cX7_help 49 = .ok (.bipush (-9), 2) := by decide +kernel
theorem dX7_help_51 : decode cX7_help 51 = .ok (.istore 5, 2) := by decide +kernel
theorem dX7_help_53 : decode cX7_help 53 = .ok (.iconst (-1), 1) := by decide +kernel
theorem dX7_help_54 : decode cX7_help 54 = .ok (.istore 6, 2) := by decide +kernel
theorem dX7_help_56 : decode cX7_help 56 = .ok (.iconst 0, 1) := by decide +kernel
theorem dX7_help_57 : decode cX7_help 57 = .ok (.istore 7, 2) := by decide +kernel
theorem dX7_help_59 : decode cX7_help 59 = .ok (.iload 7, 2) := by decide +kernel
theorem dX7_help_61 : decode cX7_help 61 = .ok (.bipush 20, 2) := by decide +kernel
theorem dX7_help_63 : decode cX7_help 63 = .ok (.if_icmp .ge 113, 3) := by decide +kernel
theorem dX7_help_66 : decode cX7_help 66 = .ok (.aload_n 0, 1) := by decide +kernel
theorem dX7_help_67 : decode cX7_help 67 = .ok (.iload 7, 2) := by decide +kernel
theorem dX7_help_69 : decode cX7_help 69 = .ok (.iconst 5, 1) := by decide +kernel
theorem dX7_help_70 : decode cX7_help 70 = .ok (.irem, 1) := by decide +kernel
theorem dX7_help_71 : decode cX7_help 71 = .ok (.iload 7, 2) := by decide +kernel
theorem dX7_help_73 : decode cX7_help 73 = .ok (.iconst 5, 1) := by decide +kernel
theorem dX7_help_74 : decode cX7_help 74 = .ok (.idiv, 1) := by decide +kernel
theorem dX7_help_75 : decode cX7_help 75 = .ok (.invokevirtual 112, 3) := by decide +kernel
theorem dX7_help_78 : decode cX7_help 78 = .ok (.ifCond .eq 92, 3) := by decide +kernel
theorem dX7_help_81 : decode cX7_help 81 = .ok (.aload_n 0, 1) := by decide +kernel
theorem dX7_help_82 : decode cX7_help 82 = .ok (.iload 7, 2) := by decide +kernel
theorem dX7_help_84 : decode cX7_help 84 = .ok (.invokevirtual 125, 3) := by decide +kernel
theorem dX7_help_87 : decode cX7_help 87 = .ok (.ifCond .eq 83, 3) := by decide +kernel
theorem dX7_help_90 : decode cX7_help 90 = .ok (.aload_n 0, 1) := by decide +kernel
theorem dX7_help_91 : decode cX7_help 91 = .ok (.getfield 16, 3) := by decide +kernel
theorem dX7_help_94 : decode cX7_help 94 = .ok (.bipush 20, 2) := by decide +kernel
theorem dX7_help_96 : decode cX7_help 96 = .ok (.iaload, 1) := by decide +kernel
theorem dX7_help_97 : decode cX7_help 97 = .ok (.iload 7, 2) := by decide +kernel
theorem dX7_help_99 : decode cX7_help 99 = .ok (.invokestatic 89, 3) := by decide +kernel
theorem dX7_help_102 : decode cX7_help 102 = .ok (.ifCond .ne 68, 3) := by decide +kernel
theorem dX7_help_105 : decode cX7_help 105 = .ok (.iload_n 3, 1) := by decide +kernel
theorem dX7_help_106 : decode cX7_help 106 = .ok (.aload_n 0, 1) := by decide +kernel
theorem dX7_help_107 : decode cX7_help 107 = .ok (.aload_n 0, 1) := by decide +kernel
theorem dX7_help_108 : decode cX7_help 108 = .ok (.getfield 16, 3) := by decide +kernel
theorem dX7_help_111 : decode cX7_help 111 = .ok (.bipush 20, 2) := by decide +kernel
theorem dX7_help_113 : decode cX7_help 113 = .ok (.iaload, 1) := by decide +kernel
theorem dX7_help_114 : decode cX7_help 114 = .ok (.iconst 1, 1) := by decide +kernel
theorem dX7_help_115 : decode cX7_help 115 = .ok (.iload 7, 2) := by decide +kernel
theorem dX7_help_117 : decode cX7_help 117 = .ok (.ishl, 1) := by decide +kernel
theorem dX7_help_118 : decode cX7_help 118 = .ok (.ior, 1) := by decide +kernel
theorem dX7_help_119 : decode cX7_help 119 = .ok (.aload_n 0, 1) := by decide +kernel
theorem dX7_help_120 : decode cX7_help 120 = .ok (.getfield 16, 3) := by decide +kernel
theorem dX7_help_123 : decode cX7_help 123 = .ok (.bipush 21, 2) := by decide +kernel
theorem dX7_help_125 : decode cX7_help 125 = .ok (.iaload, 1) := by decide +kernel
theorem dX7_help_126 : decode cX7_help 126 = .ok (.invokevirtual 131, 3) := by decide +kernel
theorem dX7_help_129 : decode cX7_help 129 = .ok (.iand, 1) := by decide +kernel
theorem dX7_help_130 : decode cX7_help 130 = .ok (.invokestatic 134, 3) := by decide +kernel
theorem dX7_help_133 : decode cX7_help 133 = .ok (.iload 4, 2) := by decide +kernel
theorem dX7_help_135 : decode cX7_help 135 = .ok (.isub, 1) := by decide +kernel
theorem dX7_help_136 : decode cX7_help 136 = .ok (.istore 8, 2) := by decide +kernel
theorem dX7_help_138 : decode cX7_help 138 = .ok (.iload 8, 2) := by decide +kernel
theorem dX7_help_140 : decode cX7_help 140 = .ok (.iload 6, 2) := by decide +kernel
theorem dX7_help_142 : decode cX7_help 142 = .ok (.if_icmp .le 8, 3) := by decide +kernel
theorem dX7_help_145 : decode cX7_help 145 = .ok (.iload 7, 2) := by decide +kernel
theorem dX7_help_147 : decode cX7_help 147 = .ok (.goto 5, 3) := by decide +kernel
theorem dX7_help_150 : decode cX7_help 150 = .ok (.iload 5, 2) := by decide +kernel
theorem dX7_help_152 : decode cX7_help 152 = .ok (.istore 5, 2) := by decide +kernel
theorem dX7_help_154 : decode cX7_help 154 = .ok (.iload 8, 2) := by decide +kernel
theorem dX7_help_156 : decode cX7_help 156 = .ok (.iload 6, 2) := by decide +kernel
theorem dX7_help_158 : decode cX7_help 158 = .ok (.if_icmp .le 8, 3) := by decide +kernel
theorem dX7_help_161 : decode cX7_help 161 = .ok (.iload 8, 2) := by decide +kernel
theorem dX7_help_163 : decode cX7_help 163 = .ok (.goto 5, 3) := by decide +kernel
theorem dX7_help_166 : decode cX7_help 166 = .ok (.iload 6, 2) := by decide +kernel
theorem dX7_help_168 : decode cX7_help 168 = .ok (.istore 6, 2) := by decide +kernel
theorem dX7_help_170 : decode cX7_help 170 = .ok (.iinc 7 1, 3) := by decide +kernel
theorem dX7_help_173 : decode cX7_help 173 = .ok (.goto (-114), 3) := by decide +kernel
theorem dX7_help_176 : decode cX7_help 176 = .ok (.iload 5, 2) := by decide +kernel
theorem dX7_help_178 : decode cX7_help 178 = .ok (.ifCond .lt 7, 3) := by decide +kernel
theorem dX7_help_181 : decode cX7_help 181 = .ok (.iload_n 2, 1) := by decide +kernel
theorem dX7_help_182 : decode cX7_help 182 = .ok (.ifCond .ne 8, 3) := by decide +kernel
theorem dX7_help_185 : decode cX7_help 185 = .ok (.iload 5, 2) := by decide +kernel
theorem dX7_help_187 : decode cX7_help 187 = .ok (.goto 5, 3) := by decide +kernel
theorem dX7_help_190 : decode cX7_help 190 = .ok (.iload 6, 2) := by decide +kernel
theorem dX7_help_192 : decode cX7_help 192 = .ok (.ireturn, 1) := by decide +kernel
theorem dX7_odds_0 : decode cX7_odds 0 = .ok (.aload_n 0, 1) := by decide +kernel
theorem dX7_odds_1 : decode cX7_odds 1 = .ok (.iload_n 1, 1) := by decide +kernel
theorem dX7_odds_2 : decode cX7_odds 2 = .ok (.iload_n 2, 1) := by decide +kernel
theorem dX7_odds_3 : decode cX7_odds 3 = .ok (.invokevirtual 112, 3) := by decide +kernel
theorem dX7_odds_6 : decode cX7_odds 6 = .ok (.ifCond .eq 34, 3) := by decide +kernel
theorem dX7_odds_9 : decode cX7_odds 9 = .ok (.iload_n 3, 1) := by decide +kernel
theorem dX7_odds_10 : decode cX7_odds 10 = .ok (.iconst 0, 1) := by decide +kernel
theorem dX7_odds_11 : decode cX7_odds 11 = .ok (.bipush 10, 2) := by decide +kernel
theorem dX7_odds_13 : decode cX7_odds 13 = .ok (.invokestatic 39, 3) := by decide +kernel
theorem dX7_odds_16 : decode cX7_odds 16 = .ok (.ifCond .eq 24, 3) := by decide +kernel
theorem dX7_odds_19 : decode cX7_odds 19 = .ok (.iload 4, 2) := by decide +kernel
theorem dX7_odds_21 : decode cX7_odds 21 = .ok (.iconst 0, 1) := by decide +kernel
theorem dX7_odds_22 : decode cX7_odds 22 = .ok (.bipush 6, 2) := by decide +kernel
theorem dX7_odds_24 : decode cX7_odds 24 = .ok (.invokestatic 39, 3) := by decide +kernel
theorem dX7_odds_27 : decode cX7_odds 27 = .ok (.ifCond .eq 13, 3) := by decide +kernel
theorem dX7_odds_30 : decode cX7_odds 30 = .ok (.iload 5, 2) := by decide +kernel
theorem dX7_odds_32 : decode cX7_odds 32 = .ok (.iconst 0, 1) := by decide +kernel
theorem dX7_odds_33 : decode cX7_odds 33 = .ok (.iconst 1, 1) := by decide +kernel
theorem dX7_odds_34 : decode cX7_odds 34 = .ok (.invokestatic 39, 3) := by decide +kernel
theorem dX7_odds_37 : decode cX7_odds 37 = .ok (.ifCond .ne 5, 3) := by decide +kernel
theorem dX7_odds_40 : decode cX7_odds 40 = .ok (.iconst (-1), 1) := by decide +kernel
theorem dX7_odds_41 : decode cX7_odds 41 = .ok (.ireturn, 1) := by decide +kernel
theorem dX7_odds_42 : decode cX7_odds 42 = .ok (.iconst 1, 1) := by decide +kernel
theorem dX7_odds_43 : decode cX7_odds 43 = .ok (.istore 6, 2) := by decide +kernel
theorem dX7_odds_45 : decode cX7_odds 45 = .ok (.iconst 0, 1) := by decide +kernel
theorem dX7_odds_46 : decode cX7_odds 46 = .ok (.istore 7, 2) := by decide +kernel
theorem dX7_odds_48 : decode cX7_odds 48 = .ok (.iconst 0, 1) := by decide +kernel
theorem dX7_odds_49 : decode cX7_odds 49 = .ok (.istore 8, 2) := by decide +kernel
theorem dX7_odds_51 : decode cX7_odds 51 = .ok (.iload 8, 2) := by decide +kernel
theorem dX7_odds_53 : decode cX7_odds 53 = .ok (.iload 4, 2) := by decide +kernel
theorem dX7_odds_55 : decode cX7_odds 55 = .ok (.if_icmp .ge 16, 3) := by decide +kernel
theorem dX7_odds_58 : decode cX7_odds 58 = .ok (.iload 6, 2) := by decide +kernel
theorem dX7_odds_60 : decode cX7_odds 60 = .ok (.bipush 10, 2) := by decide +kernel
theorem dX7_odds_62 : decode cX7_odds 62 = .ok (.imul, 1) := by decide +kernel
theorem dX7_odds_63 : decode cX7_odds 63 = .ok (.istore 6, 2) := by decide +kernel
theorem dX7_odds_65 : decode cX7_odds 65 = .ok (.iinc 8 1, 3) := by decide +kernel
theorem dX7_odds_68 : decode cX7_odds 68 = .ok (.goto (-17), 3) := by decide +kernel
theorem dX7_odds_71 : decode cX7_odds 71 = .ok (.iconst 0, 1) := by decide +kernel
theorem dX7_odds_72 : decode cX7_odds 72 = .ok (.istore 8, 2) := by decide +kernel
theorem dX7_odds_74 : decode cX7_odds 74 = .ok (.iload 8, 2) := by decide +kernel
theorem dX7_odds_76 : decode cX7_odds 76 = .ok (.iconst 1, 1) := by decide +kernel
theorem dX7_odds_77 : decode cX7_odds 77 = .ok (.iload 4, 2) := by decide +kernel
theorem dX7_odds_79 : decode cX7_odds 79 = .ok (.ishl, 1) := by decide +kernel
theorem dX7_odds_80 : decode cX7_odds 80 = .ok (.if_icmp .ge 110, 3) := by decide +kernel
theorem dX7_odds_83 : decode cX7_odds 83 = .ok (.aload_n 0, 1) := by decide +kernel
theorem dX7_odds_84 : decode cX7_odds 84 = .ok (.getfield 16, 3) := by decide +kernel
theorem dX7_odds_87 : decode cX7_odds 87 = .ok (.bipush 21, 2) := by decide +kernel
theorem dX7_odds_89 : decode cX7_odds 89 = .ok (.iaload, 1) := by decide +kernel
theorem dX7_odds_90 : decode cX7_odds 90 = .ok (.istore 9, 2) := by decide +kernel
theorem dX7_odds_92 : decode cX7_odds 92 = .ok (.iconst 1, 1) := by decide +kernel
theorem dX7_odds_93 : decode cX7_odds 93 = .ok (.istore 10, 2) := by decide +kernel
theorem dX7_odds_95 : decode cX7_odds 95 = .ok (.iconst 0, 1) := by decide +kernel
theorem dX7_odds_96 : decode cX7_odds 96 = .ok (.istore 11, 2) := by decide +kernel
theorem dX7_odds_98 : decode cX7_odds 98 = .ok (.iload 11, 2) := by decide +kernel
theorem dX7_odds_100 : decode cX7_odds 100 = .ok (.iload 4, 2) := by decide +kernel
theorem dX7_odds_102 : decode cX7_odds 102 = .ok (.if_icmp .ge 53, 3) := by decide +kernel
theorem dX7_odds_105 : decode cX7_odds 105 = .ok (.iload 10, 2) := by decide +kernel
theorem dX7_odds_107 : decode cX7_odds 107 = .ok (.iload 8, 2) := by decide +kernel
theorem dX7_odds_109 : decode cX7_odds 109 = .ok (.iload 11, 2) := by decide +kernel
theorem dX7_odds_111 : decode cX7_odds 111 = .ok (.invokestatic 89, 3) := by decide +kernel
theorem dX7_odds_114 : decode cX7_odds 114 = .ok (.ifCond .eq 7, 3) := by decide +kernel
theorem dX7_odds_117 : decode cX7_odds 117 = .ok (.iload_n 3, 1) := by decide +kernel
theorem dX7_odds_118 : decode cX7_odds 118 = .ok (.goto 7, 3) := by decide +kernel
theorem dX7_odds_121 : decode cX7_odds 121 = .ok (.bipush 10, 2) := by decide +kernel
theorem dX7_odds_123 : decode cX7_odds 123 = .ok (.iload_n 3, 1) := by decide +kernel
theorem dX7_odds_124 : decode cX7_odds 124 = .ok (.isub, 1) := by decide +kernel
theorem dX7_odds_125 : decode cX7_odds 125 = .ok (.imul, 1) := by decide +kernel
theorem dX7_odds_126 : decode cX7_odds 126 = .ok (.istore 10, 2) := by decide +kernel
theorem dX7_odds_128 : decode cX7_odds 128 = .ok (.iload 8, 2) := by decide +kernel
theorem dX7_odds_130 : decode cX7_odds 130 = .ok (.iload 11, 2) := by decide +kernel
theorem dX7_odds_132 : decode cX7_odds 132 = .ok (.invokestatic 89, 3) := by decide +kernel
theorem dX7_odds_135 : decode cX7_odds 135 = .ok (.ifCond .eq 10, 3) := by decide +kernel
theorem dX7_odds_138 : decode cX7_odds 138 = .ok (.iconst 1, 1) := by decide +kernel
theorem dX7_odds_139 : decode cX7_odds 139 = .ok (.iload 9, 2) := by decide +kernel
theorem dX7_odds_141 : decode cX7_odds 141 = .ok (.isub, 1) := by decide +kernel
theorem dX7_odds_142 : decode cX7_odds 142 = .ok (.goto 5, 3) := by decide +kernel
theorem dX7_odds_145 : decode cX7_odds 145 = .ok (.iload 9, 2) := by decide +kernel
theorem dX7_odds_147 : decode cX7_odds 147 = .ok (.istore 9, 2) := by decide +kernel
theorem dX7_odds_149 : decode cX7_odds 149 = .ok (.iinc 11 1, 3) := by decide +kernel
theorem dX7_odds_152 : decode cX7_odds 152 = .ok (.goto (-54), 3) := by decide +kernel
theorem dX7_odds_155 : decode cX7_odds 155 = .ok (.iload 7, 2) := by decide +kernel
theorem dX7_odds_157 : decode cX7_odds 157 = .ok (.aload_n 0, 1) := by decide +kernel
theorem dX7_odds_158 : decode cX7_odds 158 = .ok (.aload_n 0, 1) := by decide +kernel
theorem dX7_odds_159 : decode cX7_odds 159 = .ok (.getfield 16, 3) := by decide +kernel
theorem dX7_odds_162 : decode cX7_odds 162 = .ok (.bipush 20, 2) := by decide +kernel
theorem dX7_odds_164 : decode cX7_odds 164 = .ok (.iaload, 1) := by decide +kernel
theorem dX7_odds_165 : decode cX7_odds 165 = .ok (.iload_n 1, 1) := by decide +kernel
theorem dX7_odds_166 : decode cX7_odds 166 = .ok (.iload_n 2, 1) := by decide +kernel
theorem dX7_odds_167 : decode cX7_odds 167 = .ok (.iload 9, 2) := by decide +kernel
theorem dX7_odds_169 : decode cX7_odds 169 = .ok (.invokevirtual 118, 3) := by decide +kernel
theorem dX7_odds_172 : decode cX7_odds 172 = .ok (.ifCond .eq 8, 3) := by decide +kernel
theorem dX7_odds_175 : decode cX7_odds 175 = .ok (.iload 10, 2) := by decide +kernel
theorem dX7_odds_177 : decode cX7_odds 177 = .ok (.goto 4, 3) := by decide +kernel
theorem dX7_odds_180 : decode cX7_odds 180 = .ok (.iconst 0, 1) := by decide +kernel
theorem dX7_odds_181 : decode cX7_odds 181 = .ok (.iadd, 1) := by decide +kernel
theorem dX7_odds_182 : decode cX7_odds 182 = .ok (.istore 7, 2) := by decide +kernel
theorem dX7_odds_184 : decode cX7_odds 184 = .ok (.iinc 8 1, 3) := by decide +kernel
theorem dX7_odds_187 : decode cX7_odds 187 = .ok (.goto (-113), 3) := by decide +kernel
theorem dX7_odds_190 : decode cX7_odds 190 = .ok (.iload 7, 2) := by decide +kernel
theorem dX7_odds_192 : decode cX7_odds 192 = .ok (.istore 8, 2) := by decide +kernel
theorem dX7_odds_194 : decode cX7_odds 194 = .ok (.iload 6, 2) := by decide +kernel
theorem dX7_odds_196 : decode cX7_odds 196 = .ok (.istore 9, 2) := by decide +kernel
theorem dX7_odds_198 : decode cX7_odds 198 = .ok (.iload 9, 2) := by decide +kernel
theorem dX7_odds_200 : decode cX7_odds 200 = .ok (.ifCond .le 21, 3) := by decide +kernel
theorem dX7_odds_203 : decode cX7_odds 203 = .ok (.iload 8, 2) := by decide +kernel
theorem dX7_odds_205 : decode cX7_odds 205 = .ok (.iload 9, 2) := by decide +kernel
theorem dX7_odds_207 : decode cX7_odds 207 = .ok (.irem, 1) := by decide +kernel
theorem dX7_odds_208 : decode cX7_odds 208 = .ok (.istore 10, 2) := by decide +kernel
theorem dX7_odds_210 : decode cX7_odds 210 = .ok (.iload 9, 2) := by decide +kernel
theorem dX7_odds_212 : decode cX7_odds 212 = .ok (.istore 8, 2) := by decide +kernel
theorem dX7_odds_214 : decode cX7_odds 214 = .ok (.iload 10, 2) := by decide +kernel
theorem dX7_odds_216 : decode cX7_odds 216 = .ok (.istore 9, 2) := by decide +kernel
theorem dX7_odds_218 : decode cX7_odds 218 = .ok (.goto (-20), 3) := by decide +kernel
theorem dX7_odds_221 : decode cX7_odds 221 = .ok (.iload 5, 2) := by decide +kernel
theorem dX7_odds_223 : decode cX7_odds 223 = .ok (.ifCond .ne 8, 3) := by decide +kernel
theorem dX7_odds_226 : decode cX7_odds 226 = .ok (.iload 7, 2) := by decide +kernel
theorem dX7_odds_228 : decode cX7_odds 228 = .ok (.goto 5, 3) := by decide +kernel
theorem dX7_odds_231 : decode cX7_odds 231 = .ok (.iload 6, 2) := by decide +kernel
theorem dX7_odds_233 : decode cX7_odds 233 = .ok (.iload 8, 2) := by decide +kernel
theorem dX7_odds_235 : decode cX7_odds 235 = .ok (.idiv, 1) := by decide +kernel
theorem dX7_odds_236 : decode cX7_odds 236 = .ok (.ireturn, 1) := by decide +kernel
theorem dX7_saw_0 : decode cX7_saw 0 = .ok (.aload_n 0, 1) := by decide +kernel
theorem dX7_saw_1 : decode cX7_saw 1 = .ok (.iload_n 1, 1) := by decide +kernel
theorem dX7_saw_2 : decode cX7_saw 2 = .ok (.iload_n 2, 1) := by decide +kernel
theorem dX7_saw_3 : decode cX7_saw 3 = .ok (.invokevirtual 112, 3) := by decide +kernel
theorem dX7_saw_6 : decode cX7_saw 6 = .ok (.ifCond .eq 22, 3) := by decide +kernel
theorem dX7_saw_9 : decode cX7_saw 9 = .ok (.iload_n 3, 1) := by decide +kernel
theorem dX7_saw_10 : decode cX7_saw 10 = .ok (.iconst 0, 1) := by decide +kernel
theorem dX7_saw_11 : decode cX7_saw 11 = .ok (.iconst 1, 1) := by decide +kernel
theorem dX7_saw_12 : decode cX7_saw 12 = .ok (.invokestatic 39, 3) := by decide +kernel
theorem dX7_saw_15 : decode cX7_saw 15 = .ok (.ifCond .eq 13, 3) := by decide +kernel
theorem dX7_saw_18 : decode cX7_saw 18 = .ok (.iload 4, 2) := by decide +kernel
theorem dX7_saw_20 : decode cX7_saw 20 = .ok (.iconst 0, 1) := by decide +kernel
theorem dX7_saw_21 : decode cX7_saw 21 = .ok (.iconst 1, 1) := by decide +kernel
theorem dX7_saw_22 : decode cX7_saw 22 = .ok (.invokestatic 39, 3) := by decide +kernel
theorem dX7_saw_25 : decode cX7_saw 25 = .ok (.ifCond .ne 5, 3) := by decide +kernel
theorem dX7_saw_28 : decode cX7_saw 28 = .ok (.iconst (-1), 1) := by decide +kernel
theorem dX7_saw_29 : decode cX7_saw 29 = .ok (.ireturn, 1) := by decide +kernel
theorem dX7_saw_30 : decode cX7_saw 30 = .ok (.aload_n 0, 1) := by decide +kernel
theorem dX7_saw_31 : decode cX7_saw 31 = .ok (.getfield 109, 3) := by decide +kernel
theorem dX7_saw_34 : decode cX7_saw 34 = .ok (.bipush 6, 2) := by decide +kernel
theorem dX7_saw_36 : decode cX7_saw 36 = .ok (.if_icmp .ne 6, 3) := by decide +kernel
theorem dX7_saw_39 : decode cX7_saw 39 = .ok (.bipush (-3), 2) := by decide +kernel
theorem dX7_saw_41 : decode cX7_saw 41 = .ok (.ireturn, 1) := by decide +kernel
theorem dX7_saw_42 : decode cX7_saw 42 = .ok (.aload_n 0, 1) := by decide +kernel
theorem dX7_saw_43 : decode cX7_saw 43 = .ok (.getfield 27, 3) := by decide +kernel
theorem dX7_saw_46 : decode cX7_saw 46 = .ok (.iconst 3, 1) := by decide +kernel
theorem dX7_saw_47 : decode cX7_saw 47 = .ok (.aload_n 0, 1) := by decide +kernel
theorem dX7_saw_48 : decode cX7_saw 48 = .ok (.getfield 109, 3) := by decide +kernel
theorem dX7_saw_51 : decode cX7_saw 51 = .ok (.imul, 1) := by decide +kernel
theorem dX7_saw_52 : decode cX7_saw 52 = .ok (.iconst 5, 1) := by decide +kernel
theorem dX7_saw_53 : decode cX7_saw 53 = .ok (.iload_n 2, 1) := by decide +kernel
theorem dX7_saw_54 : decode cX7_saw 54 = .ok (.imul, 1) := by decide +kernel
theorem dX7_saw_55 : decode cX7_saw 55 = .ok (.iload_n 1, 1) := by decide +kernel
theorem dX7_saw_56 : decode cX7_saw 56 = .ok (.iadd, 1) := by decide +kernel
theorem dX7_saw_57 : decode cX7_saw 57 = .ok (.iastore, 1) := by decide +kernel
theorem dX7_saw_58 : decode cX7_saw 58 = .ok (.aload_n 0, 1) := by decide +kernel
theorem dX7_saw_59 : decode cX7_saw 59 = .ok (.getfield 27, 3) := by decide +kernel
theorem dX7_saw_62 : decode cX7_saw 62 = .ok (.iconst 3, 1) := by decide +kernel
theorem dX7_saw_63 : decode cX7_saw 63 = .ok (.aload_n 0, 1) := by decide +kernel
theorem dX7_saw_64 : decode cX7_saw 64 = .ok (.getfield 109, 3) := by decide +kernel
theorem dX7_saw_67 : decode cX7_saw 67 = .ok (.imul, 1) := by decide +kernel
theorem dX7_saw_68 : decode cX7_saw 68 = .ok (.iconst 1, 1) := by decide +kernel
theorem dX7_saw_69 : decode cX7_saw 69 = .ok (.iadd, 1) := by decide +kernel
theorem dX7_saw_70 : decode cX7_saw 70 = .ok (.iload_n 3, 1) := by decide +kernel
theorem dX7_saw_71 : decode cX7_saw 71 = .ok (.iastore, 1) := by decide +kernel
theorem dX7_saw_72 : decode cX7_saw 72 = .ok (.aload_n 0, 1) := by decide +kernel
theorem dX7_saw_73 : decode cX7_saw 73 = .ok (.getfield 27, 3) := by decide +kernel
theorem dX7_saw_76 : decode cX7_saw 76 = .ok (.iconst 3, 1) := by decide +kernel
theorem dX7_saw_77 : decode cX7_saw 77 = .ok (.aload_n 0, 1) := by decide +kernel
theorem dX7_saw_78 : decode cX7_saw 78 = .ok (.getfield 109, 3) := by decide +kernel
theorem dX7_saw_81 : decode cX7_saw 81 = .ok (.imul, 1) := by decide +kernel
theorem dX7_saw_82 : decode cX7_saw 82 = .ok (.iconst 2, 1) := by decide +kernel
theorem dX7_saw_83 : decode cX7_saw 83 = .ok (.iadd, 1) := by decide +kernel
theorem dX7_saw_84 : decode cX7_saw 84 = .ok (.iload 4, 2) := by decide +kernel
theorem dX7_saw_86 : decode cX7_saw 86 = .ok (.iastore, 1) := by decide +kernel
theorem dX7_saw_87 : decode cX7_saw 87 = .ok (.aload_n 0, 1) := by decide +kernel
theorem dX7_saw_88 : decode cX7_saw 88 = .ok (.dup, 1) := by decide +kernel
theorem dX7_saw_89 : decode cX7_saw 89 = .ok (.getfield 109, 3) := by decide +kernel
theorem dX7_saw_92 : decode cX7_saw 92 = .ok (.iconst 1, 1) := by decide +kernel
theorem dX7_saw_93 : decode cX7_saw 93 = .ok (.iadd, 1) := by decide +kernel
theorem dX7_saw_94 : decode cX7_saw 94 = .ok (.putfield 109, 3) := by decide +kernel
theorem dX7_saw_97 : decode cX7_saw 97 = .ok (.aload_n 0, 1) := by decide +kernel
theorem dX7_saw_98 : decode cX7_saw 98 = .ok (.getfield 109, 3) := by decide +kernel
theorem dX7_saw_101 : decode cX7_saw 101 = .ok (.ireturn, 1) := by decide +kernel
theorem dX7_forget_0 : decode cX7_forget 0 = .ok (.aload_n 0, 1) := by decide +kernel
theorem dX7_forget_1 : decode cX7_forget 1 = .ok (.getfield 109, 3) := by decide +kernel
theorem dX7_forget_4 : decode cX7_forget 4 = .ok (.istore_n 1, 1) := by decide +kernel
theorem dX7_forget_5 : decode cX7_forget 5 = .ok (.aload_n 0, 1) := by decide +kernel
theorem dX7_forget_6 : decode cX7_forget 6 = .ok (.iconst 0, 1) := by decide +kernel
theorem dX7_forget_7 : decode cX7_forget 7 = .ok (.putfield 109, 3) := by decide +kernel
theorem dX7_forget_10 : decode cX7_forget 10 = .ok (.iload_n 1, 1) := by decide +kernel
theorem dX7_forget_11 : decode cX7_forget 11 = .ok (.ireturn, 1) := by decide +kernel
theorem dX7_isSo_0 : decode cX7_isSo 0 = .ok (.iconst 1, 1) := by decide +kernel
theorem dX7_isSo_1 : decode cX7_isSo 1 = .ok (.istore_n 2, 1) := by decide +kernel
theorem dX7_isSo_2 : decode cX7_isSo 2 = .ok (.iconst 0, 1) := by decide +kernel
theorem dX7_isSo_3 : decode cX7_isSo 3 = .ok (.istore_n 3, 1) := by decide +kernel
theorem dX7_isSo_4 : decode cX7_isSo 4 = .ok (.iload_n 3, 1) := by decide +kernel
theorem dX7_isSo_5 : decode cX7_isSo 5 = .ok (.aload_n 0, 1) := by decide +kernel
theorem dX7_isSo_6 : decode cX7_isSo 6 = .ok (.getfield 109, 3) := by decide +kernel
theorem dX7_isSo_9 : decode cX7_isSo 9 = .ok (.if_icmp .ge 74, 3) := by decide +kernel
theorem dX7_isSo_12 : decode cX7_isSo 12 = .ok (.aload_n 0, 1) := by decide +kernel
theorem dX7_isSo_13 : decode cX7_isSo 13 = .ok (.getfield 27, 3) := by decide +kernel
theorem dX7_isSo_16 : decode cX7_isSo 16 = .ok (.iconst 3, 1) := by decide +kernel
theorem dX7_isSo_17 : decode cX7_isSo 17 = .ok (.iload_n 3, 1) := by decide +kernel
theorem dX7_isSo_18 : decode cX7_isSo 18 = .ok (.imul, 1) := by decide +kernel
theorem dX7_isSo_19 : decode cX7_isSo 19 = .ok (.iaload, 1) := by decide +kernel
theorem dX7_isSo_20 : decode cX7_isSo 20 = .ok (.istore 4, 2) := by decide +kernel
theorem dX7_isSo_22 : decode cX7_isSo 22 = .ok (.iload_n 2, 1) := by decide +kernel
theorem dX7_isSo_23 : decode cX7_isSo 23 = .ok (.ifCond .eq 52, 3) := by decide +kernel
theorem dX7_isSo_26 : decode cX7_isSo 26 = .ok (.aload_n 0, 1) := by decide +kernel
theorem dX7_isSo_27 : decode cX7_isSo 27 = .ok (.iload_n 1, 1) := by decide +kernel
theorem dX7_isSo_28 : decode cX7_isSo 28 = .ok (.iload 4, 2) := by decide +kernel
theorem dX7_isSo_30 : decode cX7_isSo 30 = .ok (.iconst 5, 1) := by decide +kernel
theorem dX7_isSo_31 : decode cX7_isSo 31 = .ok (.irem, 1) := by decide +kernel
theorem dX7_isSo_32 : decode cX7_isSo 32 = .ok (.iload 4, 2) := by decide +kernel
theorem dX7_isSo_34 : decode cX7_isSo 34 = .ok (.iconst 5, 1) := by decide +kernel
theorem dX7_isSo_35 : decode cX7_isSo 35 = .ok (.idiv, 1) := by decide +kernel
theorem dX7_isSo_36 : decode cX7_isSo 36 = .ok (.aload_n 0, 1) := by decide +kernel
theorem dX7_isSo_37 : decode cX7_isSo 37 = .ok (.getfield 27, 3) := by decide +kernel
theorem dX7_isSo_40 : decode cX7_isSo 40 = .ok (.iconst 3, 1) := by decide +kernel
theorem dX7_isSo_41 : decode cX7_isSo 41 = .ok (.iload_n 3, 1) := by decide +kernel
theorem dX7_isSo_42 : decode cX7_isSo 42 = .ok (.imul, 1) := by decide +kernel
theorem dX7_isSo_43 : decode cX7_isSo 43 = .ok (.iconst 1, 1) := by decide +kernel
theorem dX7_isSo_44 : decode cX7_isSo 44 = .ok (.iadd, 1) := by decide +kernel
theorem dX7_isSo_45 : decode cX7_isSo 45 = .ok (.iaload, 1) := by decide +kernel
theorem dX7_isSo_46 : decode cX7_isSo 46 = .ok (.invokevirtual 118, 3) := by decide +kernel
theorem dX7_isSo_49 : decode cX7_isSo 49 = .ok (.aload_n 0, 1) := by decide +kernel
theorem dX7_isSo_50 : decode cX7_isSo 50 = .ok (.getfield 27, 3) := by decide +kernel
theorem dX7_isSo_53 : decode cX7_isSo 53 = .ok (.iconst 3, 1) := by decide +kernel
theorem dX7_isSo_54 : decode cX7_isSo 54 = .ok (.iload_n 3, 1) := by decide +kernel
theorem dX7_isSo_55 : decode cX7_isSo 55 = .ok (.imul, 1) := by decide +kernel
theorem dX7_isSo_56 : decode cX7_isSo 56 = .ok (.iconst 2, 1) := by decide +kernel
theorem dX7_isSo_57 : decode cX7_isSo 57 = .ok (.iadd, 1) := by decide +kernel
theorem dX7_isSo_58 : decode cX7_isSo 58 = .ok (.iaload, 1) := by decide +kernel
theorem dX7_isSo_59 : decode cX7_isSo 59 = .ok (.iconst 1, 1) := by decide +kernel
theorem dX7_isSo_60 : decode cX7_isSo 60 = .ok (.if_icmp .ne 7, 3) := by decide +kernel
theorem dX7_isSo_63 : decode cX7_isSo 63 = .ok (.iconst 1, 1) := by decide +kernel
theorem dX7_isSo_64 : decode cX7_isSo 64 = .ok (.goto 4, 3) := by decide +kernel
theorem dX7_isSo_67 : decode cX7_isSo 67 = .ok (.iconst 0, 1) := by decide +kernel
theorem dX7_isSo_68 : decode cX7_isSo 68 = .ok (.if_icmp .ne 7, 3) := by decide +kernel
theorem dX7_isSo_71 : decode cX7_isSo 71 = .ok (.iconst 1, 1) := by decide +kernel
theorem dX7_isSo_72 : decode cX7_isSo 72 = .ok (.goto 4, 3) := by decide +kernel
theorem dX7_isSo_75 : decode cX7_isSo 75 = .ok (.iconst 0, 1) := by decide +kernel
theorem dX7_isSo_76 : decode cX7_isSo 76 = .ok (.istore_n 2, 1) := by decide +kernel
theorem dX7_isSo_77 : decode cX7_isSo 77 = .ok (.iinc 3 1, 3) := by decide +kernel
theorem dX7_isSo_80 : decode cX7_isSo 80 = .ok (.goto (-76), 3) := by decide +kernel
theorem dX7_isSo_83 : decode cX7_isSo 83 = .ok (.iload_n 2, 1) := by decide +kernel
theorem dX7_isSo_84 : decode cX7_isSo 84 = .ok (.ireturn, 1) := by decide +kernel
theorem dX7_moved_0 : decode cX7_moved 0 = .ok (.iload_n 1, 1) := by decide +kernel
theorem dX7_moved_1 : decode cX7_moved 1 = .ok (.iconst 0, 1) := by decide +kernel
theorem dX7_moved_2 : decode cX7_moved 2 = .ok (.iconst 1, 1) := by decide +kernel
theorem dX7_moved_3 : decode cX7_moved 3 = .ok (.invokestatic 39, 3) := by decide +kernel
theorem dX7_moved_6 : decode cX7_moved 6 = .ok (.ifCond .ne 5, 3) := by decide +kernel
theorem dX7_moved_9 : decode cX7_moved 9 = .ok (.iconst (-1), 1) := by decide +kernel
theorem dX7_moved_10 : decode cX7_moved 10 = .ok (.ireturn, 1) := by decide +kernel
theorem dX7_moved_11 : decode cX7_moved 11 = .ok (.iconst 0, 1) := by decide +kernel
theorem dX7_moved_12 : decode cX7_moved 12 = .ok (.istore_n 2, 1) := by decide +kernel
theorem dX7_moved_13 : decode cX7_moved 13 = .ok (.bipush (-9), 2) := by decide +kernel
theorem dX7_moved_15 : decode cX7_moved 15 = .ok (.istore_n 3, 1) := by decide +kernel
theorem dX7_moved_16 : decode cX7_moved 16 = .ok (.iconst 0, 1) := by decide +kernel
theorem dX7_moved_17 : decode cX7_moved 17 = .ok (.istore 4, 2) := by decide +kernel
theorem dX7_moved_19 : decode cX7_moved 19 = .ok (.iload 4, 2) := by decide +kernel
theorem dX7_moved_21 : decode cX7_moved 21 = .ok (.bipush 20, 2) := by decide +kernel
theorem dX7_moved_23 : decode cX7_moved 23 = .ok (.if_icmp .ge 135, 3) := by decide +kernel
theorem dX7_moved_26 : decode cX7_moved 26 = .ok (.iconst 0, 1) := by decide +kernel
theorem dX7_moved_27 : decode cX7_moved 27 = .ok (.istore 5, 2) := by decide +kernel
theorem dX7_moved_29 : decode cX7_moved 29 = .ok (.iload 5, 2) := by decide +kernel
theorem dX7_moved_31 : decode cX7_moved 31 = .ok (.bipush 20, 2) := by decide +kernel
theorem dX7_moved_33 : decode cX7_moved 33 = .ok (.if_icmp .ge 119, 3) := by decide +kernel
theorem dX7_moved_36 : decode cX7_moved 36 = .ok (.aload_n 0, 1) := by decide +kernel
theorem dX7_moved_37 : decode cX7_moved 37 = .ok (.getfield 16, 3) := by decide +kernel
theorem dX7_moved_40 : decode cX7_moved 40 = .ok (.bipush 20, 2) := by decide +kernel
theorem dX7_moved_42 : decode cX7_moved 42 = .ok (.iaload, 1) := by decide +kernel
theorem dX7_moved_43 : decode cX7_moved 43 = .ok (.iload 4, 2) := by decide +kernel
theorem dX7_moved_45 : decode cX7_moved 45 = .ok (.invokestatic 89, 3) := by decide +kernel
theorem dX7_moved_48 : decode cX7_moved 48 = .ok (.ifCond .eq 46, 3) := by decide +kernel
theorem dX7_moved_51 : decode cX7_moved 51 = .ok (.aload_n 0, 1) := by decide +kernel
theorem dX7_moved_52 : decode cX7_moved 52 = .ok (.iload 5, 2) := by decide +kernel
theorem dX7_moved_54 : decode cX7_moved 54 = .ok (.iconst 5, 1) := by decide +kernel
theorem dX7_moved_55 : decode cX7_moved 55 = .ok (.irem, 1) := by decide +kernel
theorem dX7_moved_56 : decode cX7_moved 56 = .ok (.iload 5, 2) := by decide +kernel
theorem dX7_moved_58 : decode cX7_moved 58 = .ok (.iconst 5, 1) := by decide +kernel
theorem dX7_moved_59 : decode cX7_moved 59 = .ok (.idiv, 1) := by decide +kernel
theorem dX7_moved_60 : decode cX7_moved 60 = .ok (.invokevirtual 112, 3) := by decide +kernel
theorem dX7_moved_63 : decode cX7_moved 63 = .ok (.ifCond .eq 31, 3) := by decide +kernel
theorem dX7_moved_66 : decode cX7_moved 66 = .ok (.aload_n 0, 1) := by decide +kernel
theorem dX7_moved_67 : decode cX7_moved 67 = .ok (.iload 5, 2) := by decide +kernel
theorem dX7_moved_69 : decode cX7_moved 69 = .ok (.invokevirtual 125, 3) := by decide +kernel
theorem dX7_moved_72 : decode cX7_moved 72 = .ok (.ifCond .eq 22, 3) := by decide +kernel
theorem dX7_moved_75 : decode cX7_moved 75 = .ok (.aload_n 0, 1) := by decide +kernel
theorem dX7_moved_76 : decode cX7_moved 76 = .ok (.getfield 16, 3) := by decide +kernel
theorem dX7_moved_79 : decode cX7_moved 79 = .ok (.bipush 20, 2) := by decide +kernel
theorem dX7_moved_81 : decode cX7_moved 81 = .ok (.iaload, 1) := by decide +kernel
theorem dX7_moved_82 : decode cX7_moved 82 = .ok (.iload 5, 2) := by decide +kernel
theorem dX7_moved_84 : decode cX7_moved 84 = .ok (.invokestatic 89, 3) := by decide +kernel
theorem dX7_moved_87 : decode cX7_moved 87 = .ok (.ifCond .ne 7, 3) := by decide +kernel
theorem dX7_moved_90 : decode cX7_moved 90 = .ok (.iconst 1, 1) := by decide +kernel
theorem dX7_moved_91 : decode cX7_moved 91 = .ok (.goto 4, 3) := by decide +kernel
theorem dX7_moved_94 : decode cX7_moved 94 = .ok (.iconst 0, 1) := by decide +kernel
theorem dX7_moved_95 : decode cX7_moved 95 = .ok (.istore 6, 2) := by decide +kernel
theorem dX7_moved_97 : decode cX7_moved 97 = .ok (.iload 6, 2) := by decide +kernel
theorem dX7_moved_99 : decode cX7_moved 99 = .ok (.ifCond .eq 47, 3) := by decide +kernel
theorem dX7_moved_102 : decode cX7_moved 102 = .ok (.aload_n 0, 1) := by decide +kernel
theorem dX7_moved_103 : decode cX7_moved 103 = .ok (.aload_n 0, 1) := by decide +kernel
theorem dX7_moved_104 : decode cX7_moved 104 = .ok (.getfield 16, 3) := by decide +kernel
theorem dX7_moved_107 : decode cX7_moved 107 = .ok (.bipush 20, 2) := by decide +kernel
theorem dX7_moved_109 : decode cX7_moved 109 = .ok (.iaload, 1) := by decide +kernel
theorem dX7_moved_110 : decode cX7_moved 110 = .ok (.iconst 1, 1) := by decide +kernel
theorem dX7_moved_111 : decode cX7_moved 111 = .ok (.iload 4, 2) := by decide +kernel
theorem dX7_moved_113 : decode cX7_moved 113 = .ok (.ishl, 1) := by decide +kernel
theorem dX7_moved_114 : decode cX7_moved 114 = .ok (.iconst 1, 1) := by decide +kernel
theorem dX7_moved_115 : decode cX7_moved 115 = .ok (.iload 5, 2) := by decide +kernel
theorem dX7_moved_117 : decode cX7_moved 117 = .ok (.ishl, 1) := by decide +kernel
theorem dX7_moved_118 : decode cX7_moved 118 = .ok (.ior, 1) := by decide +kernel
theorem dX7_moved_119 : decode cX7_moved 119 = .ok (.ixor, 1) := by decide +kernel
theorem dX7_moved_120 : decode cX7_moved 120 = .ok (.invokevirtual 160, 3) := by decide +kernel
theorem dX7_moved_123 : decode cX7_moved 123 = .ok (.ifCond .eq 23, 3) := by decide +kernel
theorem dX7_moved_126 : decode cX7_moved 126 = .ok (.iload_n 2, 1) := by decide +kernel
theorem dX7_moved_127 : decode cX7_moved 127 = .ok (.ifCond .ne 14, 3) := by decide +kernel
theorem dX7_moved_130 : decode cX7_moved 130 = .ok (.bipush 100, 2) := by decide +kernel
theorem dX7_moved_132 : decode cX7_moved 132 = .ok (.iload 4, 2) := by decide +kernel
theorem dX7_moved_134 : decode cX7_moved 134 = .ok (.imul, 1) := by decide +kernel
theorem dX7_moved_135 : decode cX7_moved 135 = .ok (.iload 5, 2) := by decide +kernel
theorem dX7_moved_137 : decode cX7_moved 137 = .ok (.iadd, 1) := by decide +kernel
theorem dX7_moved_138 : decode cX7_moved 138 = .ok (.goto 4, 3) := by decide +kernel
theorem dX7_moved_141 : decode cX7_moved 141 = .ok (.iload_n 3, 1) := by decide +kernel
theorem dX7_moved_142 : decode cX7_moved 142 = .ok (.istore_n 3, 1) := by decide +kernel
theorem dX7_moved_143 : decode cX7_moved 143 = .ok (.iinc 2 1, 3) := by decide +kernel
theorem dX7_moved_146 : decode cX7_moved 146 = .ok (.iinc 5 1, 3) := by decide +kernel
theorem dX7_moved_149 : decode cX7_moved 149 = .ok (.goto (-120), 3) := by decide +kernel
theorem dX7_moved_152 : decode cX7_moved 152 = .ok (.iinc 4 1, 3) := by decide +kernel
theorem dX7_moved_155 : decode cX7_moved 155 = .ok (.goto (-136), 3) := by decide +kernel
theorem dX7_moved_158 : decode cX7_moved 158 = .ok (.iload_n 1, 1) := by decide +kernel
theorem dX7_moved_159 : decode cX7_moved 159 = .ok (.ifCond .ne 7, 3) := by decide +kernel
theorem dX7_moved_162 : decode cX7_moved 162 = .ok (.iload_n 2, 1) := by decide +kernel
theorem dX7_moved_163 : decode cX7_moved 163 = .ok (.goto 4, 3) := by decide +kernel
theorem dX7_moved_166 : decode cX7_moved 166 = .ok (.iload_n 3, 1) := by decide +kernel
theorem dX7_moved_167 : decode cX7_moved 167 = .ok (.ireturn, 1) := by decide +kernel
theorem dX7_mark_0 : decode cX7_mark 0 = .ok (.iload_n 1, 1) := by decide +kernel
theorem dX7_mark_1 : decode cX7_mark 1 = .ok (.iconst 0, 1) := by decide +kernel
theorem dX7_mark_2 : decode cX7_mark 2 = .ok (.iconst 5, 1) := by decide +kernel
theorem dX7_mark_3 : decode cX7_mark 3 = .ok (.invokestatic 39, 3) := by decide +kernel
theorem dX7_mark_6 : decode cX7_mark 6 = .ok (.ifCond .eq 12, 3) := by decide +kernel
theorem dX7_mark_9 : decode cX7_mark 9 = .ok (.aload_n 0, 1) := by decide +kernel
theorem dX7_mark_10 : decode cX7_mark 10 = .ok (.iload_n 2, 1) := by decide +kernel
theorem dX7_mark_11 : decode cX7_mark 11 = .ok (.iload_n 3, 1) := by decide +kernel
theorem dX7_mark_12 : decode cX7_mark 12 = .ok (.invokevirtual 112, 3) := by decide +kernel
theorem dX7_mark_15 : decode cX7_mark 15 = .ok (.ifCond .ne 6, 3) := by decide +kernel
theorem dX7_mark_18 : decode cX7_mark 18 = .ok (.ldc 163, 2) := by decide +kernel
theorem dX7_mark_20 : decode cX7_mark 20 = .ok (.ireturn, 1) := by decide +kernel
theorem dX7_mark_21 : decode cX7_mark 21 = .ok (.iload_n 3, 1) := by decide +kernel
theorem dX7_mark_22 : decode cX7_mark 22 = .ok (.iload_n 2, 1) := by decide +kernel
theorem dX7_mark_23 : decode cX7_mark 23 = .ok (.ifCond .le 7, 3) := by decide +kernel
theorem dX7_mark_26 : decode cX7_mark 26 = .ok (.iconst 1, 1) := by decide +kernel
theorem dX7_mark_27 : decode cX7_mark 27 = .ok (.goto 4, 3) := by decide +kernel
theorem dX7_mark_30 : decode cX7_mark 30 = .ok (.iconst 0, 1) := by decide +kernel
theorem dX7_mark_31 : decode cX7_mark 31 = .ok (.iadd, 1) := by decide +kernel
theorem dX7_mark_32 : decode cX7_mark 32 = .ok (.iload_n 3, 1) := by decide +kernel
theorem dX7_mark_33 : decode cX7_mark 33 = .ok (.ifCond .le 7, 3) := by decide +kernel
theorem dX7_mark_36 : decode cX7_mark 36 = .ok (.iconst 1, 1) := by decide +kernel
theorem dX7_mark_37 : decode cX7_mark 37 = .ok (.goto 4, 3) := by decide +kernel
theorem dX7_mark_40 : decode cX7_mark 40 = .ok (.iconst 0, 1) := by decide +kernel
theorem dX7_mark_41 : decode cX7_mark 41 = .ok (.iadd, 1) := by decide +kernel
theorem dX7_mark_42 : decode cX7_mark 42 = .ok (.iload_n 2, 1) := by decide +kernel
theorem dX7_mark_43 : decode cX7_mark 43 = .ok (.iconst 1, 1) := by decide +kernel
theorem dX7_mark_44 : decode cX7_mark 44 = .ok (.iadd, 1) := by decide +kernel
theorem dX7_mark_45 : decode cX7_mark 45 = .ok (.aload_n 0, 1) := by decide +kernel
theorem dX7_mark_46 : decode cX7_mark 46 = .ok (.getfield 7, 3) := by decide +kernel
theorem dX7_mark_49 : decode cX7_mark 49 = .ok (.if_icmp .ge 7, 3) := by decide +kernel
theorem dX7_mark_52 : decode cX7_mark 52 = .ok (.iconst 1, 1) := by decide +kernel
theorem dX7_mark_53 : decode cX7_mark 53 = .ok (.goto 4, 3) := by decide +kernel
theorem dX7_mark_56 : decode cX7_mark 56 = .ok (.iconst 0, 1) := by decide +kernel
theorem dX7_mark_57 : decode cX7_mark 57 = .ok (.iadd, 1) := by decide +kernel
theorem dX7_mark_58 : decode cX7_mark 58 = .ok (.iload_n 3, 1) := by decide +kernel
theorem dX7_mark_59 : decode cX7_mark 59 = .ok (.iconst 1, 1) := by decide +kernel
theorem dX7_mark_60 : decode cX7_mark 60 = .ok (.iadd, 1) := by decide +kernel
theorem dX7_mark_61 : decode cX7_mark 61 = .ok (.aload_n 0, 1) := by decide +kernel
theorem dX7_mark_62 : decode cX7_mark 62 = .ok (.getfield 13, 3) := by decide +kernel
theorem dX7_mark_65 : decode cX7_mark 65 = .ok (.if_icmp .ge 7, 3) := by decide +kernel
theorem dX7_mark_68 : decode cX7_mark 68 = .ok (.iconst 1, 1) := by decide +kernel
theorem dX7_mark_69 : decode cX7_mark 69 = .ok (.goto 4, 3) := by decide +kernel
theorem dX7_mark_72 : decode cX7_mark 72 = .ok (.iconst 0, 1) := by decide +kernel
theorem dX7_mark_73 : decode cX7_mark 73 = .ok (.iadd, 1) := by decide +kernel
theorem dX7_mark_74 : decode cX7_mark 74 = .ok (.istore 4, 2) := by decide +kernel
theorem dX7_mark_76 : decode cX7_mark 76 = .ok (.aload_n 0, 1) := by decide +kernel
theorem dX7_mark_77 : decode cX7_mark 77 = .ok (.getfield 16, 3) := by decide +kernel
theorem dX7_mark_80 : decode cX7_mark 80 = .ok (.iconst 5, 1) := by decide +kernel
theorem dX7_mark_81 : decode cX7_mark 81 = .ok (.iload_n 3, 1) := by decide +kernel
theorem dX7_mark_82 : decode cX7_mark 82 = .ok (.imul, 1) := by decide +kernel
theorem dX7_mark_83 : decode cX7_mark 83 = .ok (.iload_n 2, 1) := by decide +kernel
theorem dX7_mark_84 : decode cX7_mark 84 = .ok (.iadd, 1) := by decide +kernel
theorem dX7_mark_85 : decode cX7_mark 85 = .ok (.iaload, 1) := by decide +kernel
theorem dX7_mark_86 : decode cX7_mark 86 = .ok (.istore 5, 2) := by decide +kernel
theorem dX7_mark_88 : decode cX7_mark 88 = .ok (.iload_n 1, 1) := by decide +kernel
theorem dX7_mark_89 : decode cX7_mark 89 = .ok (.tableswitch 142 1 5 #[35, 50, 66, 83, 120], 35) := by decide +kernel
theorem dX7_mark_124 : decode cX7_mark 124 = .ok (.aload_n 0, 1) := by decide +kernel
theorem dX7_mark_125 : decode cX7_mark 125 = .ok (.dup, 1) := by decide +kernel
theorem dX7_mark_126 : decode cX7_mark 126 = .ok (.getfield 164, 3) := by decide +kernel
theorem dX7_mark_129 : decode cX7_mark 129 = .ok (.ldc2_w 168, 3) := by decide +kernel
theorem dX7_mark_132 : decode cX7_mark 132 = .ok (.ladd, 1) := by decide +kernel
theorem dX7_mark_133 : decode cX7_mark 133 = .ok (.putfield 164, 3) := by decide +kernel
theorem dX7_mark_136 : decode cX7_mark 136 = .ok (.iload 4, 2) := by decide +kernel
theorem dX7_mark_138 : decode cX7_mark 138 = .ok (.ireturn, 1) := by decide +kernel
theorem dX7_mark_139 : decode cX7_mark 139 = .ok (.aload_n 0, 1) := by decide +kernel
theorem dX7_mark_140 : decode cX7_mark 140 = .ok (.dup, 1) := by decide +kernel
theorem dX7_mark_141 : decode cX7_mark 141 = .ok (.getfield 164, 3) := by decide +kernel
theorem dX7_mark_144 : decode cX7_mark 144 = .ok (.ldc2_w 170, 3) := by decide +kernel
theorem dX7_mark_147 : decode cX7_mark 147 = .ok (.ladd, 1) := by decide +kernel
theorem dX7_mark_148 : decode cX7_mark 148 = .ok (.putfield 164, 3) := by decide +kernel
theorem dX7_mark_151 : decode cX7_mark 151 = .ok (.iload_n 3, 1) := by decide +kernel
theorem dX7_mark_152 : decode cX7_mark 152 = .ok (.iload_n 2, 1) := by decide +kernel
theorem dX7_mark_153 : decode cX7_mark 153 = .ok (.isub, 1) := by decide +kernel
theorem dX7_mark_154 : decode cX7_mark 154 = .ok (.ireturn, 1) := by decide +kernel
theorem dX7_mark_155 : decode cX7_mark 155 = .ok (.aload_n 0, 1) := by decide +kernel
theorem dX7_mark_156 : decode cX7_mark 156 = .ok (.dup, 1) := by decide +kernel
theorem dX7_mark_157 : decode cX7_mark 157 = .ok (.getfield 164, 3) := by decide +kernel
theorem dX7_mark_160 : decode cX7_mark 160 = .ok (.ldc2_w 172, 3) := by decide +kernel
theorem dX7_mark_163 : decode cX7_mark 163 = .ok (.ladd, 1) := by decide +kernel
theorem dX7_mark_164 : decode cX7_mark 164 = .ok (.putfield 164, 3) := by decide +kernel
theorem dX7_mark_167 : decode cX7_mark 167 = .ok (.iconst 2, 1) := by decide +kernel
theorem dX7_mark_168 : decode cX7_mark 168 = .ok (.iload 4, 2) := by decide +kernel
theorem dX7_mark_170 : decode cX7_mark 170 = .ok (.imul, 1) := by decide +kernel
theorem dX7_mark_171 : decode cX7_mark 171 = .ok (.ireturn, 1) := by decide +kernel
theorem dX7_mark_172 : decode cX7_mark 172 = .ok (.aload_n 0, 1) := by decide +kernel
theorem dX7_mark_173 : decode cX7_mark 173 = .ok (.dup, 1) := by decide +kernel
theorem dX7_mark_174 : decode cX7_mark 174 = .ok (.getfield 164, 3) := by decide +kernel
theorem dX7_mark_177 : decode cX7_mark 177 = .ok (.ldc2_w 174, 3) := by decide +kernel
theorem dX7_mark_180 : decode cX7_mark 180 = .ok (.ladd, 1) := by decide +kernel
theorem dX7_mark_181 : decode cX7_mark 181 = .ok (.putfield 164, 3) := by decide +kernel
theorem dX7_mark_184 : decode cX7_mark 184 = .ok (.iload_n 3, 1) := by decide +kernel
theorem dX7_mark_185 : decode cX7_mark 185 = .ok (.iload_n 2, 1) := by decide +kernel
theorem dX7_mark_186 : decode cX7_mark 186 = .ok (.isub, 1) := by decide +kernel
theorem dX7_mark_187 : decode cX7_mark 187 = .ok (.iload 5, 2) := by decide +kernel
theorem dX7_mark_189 : decode cX7_mark 189 = .ok (.ifCond .ne 7, 3) := by decide +kernel
theorem dX7_mark_192 : decode cX7_mark 192 = .ok (.iconst 0, 1) := by decide +kernel
theorem dX7_mark_193 : decode cX7_mark 193 = .ok (.goto 14, 3) := by decide +kernel
theorem dX7_mark_196 : decode cX7_mark 196 = .ok (.aload_n 0, 1) := by decide +kernel
theorem dX7_mark_197 : decode cX7_mark 197 = .ok (.iload 5, 2) := by decide +kernel
theorem dX7_mark_199 : decode cX7_mark 199 = .ok (.iconst 1, 1) := by decide +kernel
theorem dX7_mark_200 : decode cX7_mark 200 = .ok (.isub, 1) := by decide +kernel
theorem dX7_mark_201 : decode cX7_mark 201 = .ok (.invokevirtual 122, 3) := by decide +kernel
theorem dX7_mark_204 : decode cX7_mark 204 = .ok (.invokestatic 134, 3) := by decide +kernel
theorem dX7_mark_207 : decode cX7_mark 207 = .ok (.iadd, 1) := by decide +kernel
theorem dX7_mark_208 : decode cX7_mark 208 = .ok (.ireturn, 1) := by decide +kernel
theorem dX7_mark_209 : decode cX7_mark 209 = .ok (.aload_n 0, 1) := by decide +kernel
theorem dX7_mark_210 : decode cX7_mark 210 = .ok (.dup, 1) := by decide +kernel
theorem dX7_mark_211 : decode cX7_mark 211 = .ok (.getfield 164, 3) := by decide +kernel
theorem dX7_mark_214 : decode cX7_mark 214 = .ok (.ldc2_w 176, 3) := by decide +kernel
theorem dX7_mark_217 : decode cX7_mark 217 = .ok (.ladd, 1) := by decide +kernel
theorem dX7_mark_218 : decode cX7_mark 218 = .ok (.putfield 164, 3) := by decide +kernel
theorem dX7_mark_221 : decode cX7_mark 221 = .ok (.iload_n 3, 1) := by decide +kernel
theorem dX7_mark_222 : decode cX7_mark 222 = .ok (.aload_n 0, 1) := by decide +kernel
theorem dX7_mark_223 : decode cX7_mark 223 = .ok (.getfield 16, 3) := by decide +kernel
theorem dX7_mark_226 : decode cX7_mark 226 = .ok (.bipush 22, 2) := by decide +kernel
theorem dX7_mark_228 : decode cX7_mark 228 = .ok (.iaload, 1) := by decide +kernel
theorem dX7_mark_229 : decode cX7_mark 229 = .ok (.iadd, 1) := by decide +kernel
theorem dX7_mark_230 : decode cX7_mark 230 = .ok (.ireturn, 1) := by decide +kernel
theorem dX7_mark_231 : decode cX7_mark 231 = .ok (.aload_n 0, 1) := by decide +kernel
theorem dX7_mark_232 : decode cX7_mark 232 = .ok (.dup, 1) := by decide +kernel
theorem dX7_mark_233 : decode cX7_mark 233 = .ok (.getfield 164, 3) := by decide +kernel
theorem dX7_mark_236 : decode cX7_mark 236 = .ok (.lconst 1, 1) := by decide +kernel
theorem dX7_mark_237 : decode cX7_mark 237 = .ok (.ladd, 1) := by decide +kernel
theorem dX7_mark_238 : decode cX7_mark 238 = .ok (.putfield 164, 3) := by decide +kernel
theorem dX7_mark_241 : decode cX7_mark 241 = .ok (.iload_n 3, 1) := by decide +kernel
theorem dX7_mark_242 : decode cX7_mark 242 = .ok (.ireturn, 1) := by decide +kernel
theorem dX7_keep_0 : decode cX7_keep 0 = .ok (.iload_n 1, 1) := by decide +kernel
theorem dX7_keep_1 : decode cX7_keep 1 = .ok (.iconst 0, 1) := by decide +kernel
theorem dX7_keep_2 : decode cX7_keep 2 = .ok (.iconst 1, 1) := by decide +kernel
theorem dX7_keep_3 : decode cX7_keep 3 = .ok (.invokestatic 39, 3) := by decide +kernel
theorem dX7_keep_6 : decode cX7_keep 6 = .ok (.ifCond .ne 5, 3) := by decide +kernel
theorem dX7_keep_9 : decode cX7_keep 9 = .ok (.iconst (-1), 1) := by decide +kernel
theorem dX7_keep_10 : decode cX7_keep 10 = .ok (.ireturn, 1) := by decide +kernel
theorem dX7_keep_11 : decode cX7_keep 11 = .ok (.iconst 0, 1) := by decide +kernel
theorem dX7_keep_12 : decode cX7_keep 12 = .ok (.istore_n 2, 1) := by decide +kernel
theorem dX7_keep_13 : decode cX7_keep 13 = .ok (.iload_n 2, 1) := by decide +kernel
theorem dX7_keep_14 : decode cX7_keep 14 = .ok (.sipush 254, 3) := by decide +kernel
theorem dX7_keep_17 : decode cX7_keep 17 = .ok (.if_icmp .ge 27, 3) := by decide +kernel
theorem dX7_keep_20 : decode cX7_keep 20 = .ok (.aload_n 0, 1) := by decide +kernel
theorem dX7_keep_21 : decode cX7_keep 21 = .ok (.getfield 20, 3) := by decide +kernel
theorem dX7_keep_24 : decode cX7_keep 24 = .ok (.sipush 254, 3) := by decide +kernel
theorem dX7_keep_27 : decode cX7_keep 27 = .ok (.iload_n 1, 1) := by decide +kernel
theorem dX7_keep_28 : decode cX7_keep 28 = .ok (.imul, 1) := by decide +kernel
theorem dX7_keep_29 : decode cX7_keep 29 = .ok (.iload_n 2, 1) := by decide +kernel
theorem dX7_keep_30 : decode cX7_keep 30 = .ok (.iadd, 1) := by decide +kernel
theorem dX7_keep_31 : decode cX7_keep 31 = .ok (.aload_n 0, 1) := by decide +kernel
theorem dX7_keep_32 : decode cX7_keep 32 = .ok (.getfield 16, 3) := by decide +kernel
theorem dX7_keep_35 : decode cX7_keep 35 = .ok (.iload_n 2, 1) := by decide +kernel
theorem dX7_keep_36 : decode cX7_keep 36 = .ok (.iaload, 1) := by decide +kernel
theorem dX7_keep_37 : decode cX7_keep 37 = .ok (.iastore, 1) := by decide +kernel
theorem dX7_keep_38 : decode cX7_keep 38 = .ok (.iinc 2 1, 3) := by decide +kernel
theorem dX7_keep_41 : decode cX7_keep 41 = .ok (.goto (-28), 3) := by decide +kernel
theorem dX7_keep_44 : decode cX7_keep 44 = .ok (.aload_n 0, 1) := by decide +kernel
theorem dX7_keep_45 : decode cX7_keep 45 = .ok (.getfield 23, 3) := by decide +kernel
theorem dX7_keep_48 : decode cX7_keep 48 = .ok (.iload_n 1, 1) := by decide +kernel
theorem dX7_keep_49 : decode cX7_keep 49 = .ok (.iconst 1, 1) := by decide +kernel
theorem dX7_keep_50 : decode cX7_keep 50 = .ok (.bastore, 1) := by decide +kernel
theorem dX7_keep_51 : decode cX7_keep 51 = .ok (.aload_n 0, 1) := by decide +kernel
theorem dX7_keep_52 : decode cX7_keep 52 = .ok (.getfield 16, 3) := by decide +kernel
theorem dX7_keep_55 : decode cX7_keep 55 = .ok (.bipush 22, 2) := by decide +kernel
theorem dX7_keep_57 : decode cX7_keep 57 = .ok (.iaload, 1) := by decide +kernel
theorem dX7_keep_58 : decode cX7_keep 58 = .ok (.ireturn, 1) := by decide +kernel
theorem dX7_back_0 : decode cX7_back 0 = .ok (.iload_n 1, 1) := by decide +kernel
theorem dX7_back_1 : decode cX7_back 1 = .ok (.iconst 0, 1) := by decide +kernel
theorem dX7_back_2 : decode cX7_back 2 = .ok (.iconst 1, 1) := by decide +kernel
theorem dX7_back_3 : decode cX7_back 3 = .ok (.invokestatic 39, 3) := by decide +kernel
theorem dX7_back_6 : decode cX7_back 6 = .ok (.ifCond .ne 5, 3) := by decide +kernel
theorem dX7_back_9 : decode cX7_back 9 = .ok (.iconst (-1), 1) := by decide +kernel
theorem dX7_back_10 : decode cX7_back 10 = .ok (.ireturn, 1) := by decide +kernel
theorem dX7_back_11 : decode cX7_back 11 = .ok (.aload_n 0, 1) := by decide +kernel
theorem dX7_back_12 : decode cX7_back 12 = .ok (.getfield 23, 3) := by decide +kernel
theorem dX7_back_15 : decode cX7_back 15 = .ok (.iload_n 1, 1) := by decide +kernel
theorem dX7_back_16 : decode cX7_back 16 = .ok (.baload, 1) := by decide +kernel
theorem dX7_back_17 : decode cX7_back 17 = .ok (.ifCond .ne 6, 3) := by decide +kernel
theorem dX7_back_20 : decode cX7_back 20 = .ok (.bipush (-2), 2) := by decide +kernel
theorem dX7_back_22 : decode cX7_back 22 = .ok (.ireturn, 1) := by decide +kernel
theorem dX7_back_23 : decode cX7_back 23 = .ok (.iconst 0, 1) := by decide +kernel
theorem dX7_back_24 : decode cX7_back 24 = .ok (.istore_n 2, 1) := by decide +kernel
theorem dX7_back_25 : decode cX7_back 25 = .ok (.iload_n 2, 1) := by decide +kernel
theorem dX7_back_26 : decode cX7_back 26 = .ok (.sipush 254, 3) := by decide +kernel
theorem dX7_back_29 : decode cX7_back 29 = .ok (.if_icmp .ge 27, 3) := by decide +kernel
theorem dX7_back_32 : decode cX7_back 32 = .ok (.aload_n 0, 1) := by decide +kernel
theorem dX7_back_33 : decode cX7_back 33 = .ok (.getfield 16, 3) := by decide +kernel
theorem dX7_back_36 : decode cX7_back 36 = .ok (.iload_n 2, 1) := by decide +kernel
theorem dX7_back_37 : decode cX7_back 37 = .ok (.aload_n 0, 1) := by decide +kernel
theorem dX7_back_38 : decode cX7_back 38 = .ok (.getfield 20, 3) := by decide +kernel
theorem dX7_back_41 : decode cX7_back 41 = .ok (.sipush 254, 3) := by decide +kernel
theorem dX7_back_44 : decode cX7_back 44 = .ok (.iload_n 1, 1) := by decide +kernel
theorem dX7_back_45 : decode cX7_back 45 = .ok (.imul, 1) := by decide +kernel
theorem dX7_back_46 : decode cX7_back 46 = .ok (.iload_n 2, 1) := by decide +kernel
theorem dX7_back_47 : decode cX7_back 47 = .ok (.iadd, 1) := by decide +kernel
theorem dX7_back_48 : decode cX7_back 48 = .ok (.iaload, 1) := by decide +kernel
theorem dX7_back_49 : decode cX7_back 49 = .ok (.iastore, 1) := by decide +kernel
theorem dX7_back_50 : decode cX7_back 50 = .ok (.iinc 2 1, 3) := by decide +kernel
theorem dX7_back_53 : decode cX7_back 53 = .ok (.goto (-28), 3) := by decide +kernel
theorem dX7_back_56 : decode cX7_back 56 = .ok (.aload_n 0, 1) := by decide +kernel
theorem dX7_back_57 : decode cX7_back 57 = .ok (.getfield 16, 3) := by decide +kernel
theorem dX7_back_60 : decode cX7_back 60 = .ok (.bipush 22, 2) := by decide +kernel
theorem dX7_back_62 : decode cX7_back 62 = .ok (.iaload, 1) := by decide +kernel
theorem dX7_back_63 : decode cX7_back 63 = .ok (.ireturn, 1) := by decide +kernel
theorem dX7_count_0 : decode cX7_count 0 = .ok (.iload_n 1, 1) := by decide +kernel
theorem dX7_count_1 : decode cX7_count 1 = .ok (.tableswitch 63 0 4 #[35, 40, 45, 50, 58], 35) := by decide +kernel
theorem dX7_count_36 : decode cX7_count 36 = .ok (.aload_n 0, 1) := by decide +kernel
theorem dX7_count_37 : decode cX7_count 37 = .ok (.getfield 7, 3) := by decide +kernel
theorem dX7_count_40 : decode cX7_count 40 = .ok (.ireturn, 1) := by decide +kernel
theorem dX7_count_41 : decode cX7_count 41 = .ok (.aload_n 0, 1) := by decide +kernel
theorem dX7_count_42 : decode cX7_count 42 = .ok (.getfield 13, 3) := by decide +kernel
theorem dX7_count_45 : decode cX7_count 45 = .ok (.ireturn, 1) := by decide +kernel
theorem dX7_count_46 : decode cX7_count 46 = .ok (.aload_n 0, 1) := by decide +kernel
theorem dX7_count_47 : decode cX7_count 47 = .ok (.getfield 109, 3) := by decide +kernel
theorem dX7_count_50 : decode cX7_count 50 = .ok (.ireturn, 1) := by decide +kernel
theorem dX7_count_51 : decode cX7_count 51 = .ok (.aload_n 0, 1) := by decide +kernel
theorem dX7_count_52 : decode cX7_count 52 = .ok (.getfield 16, 3) := by decide +kernel
theorem dX7_count_55 : decode cX7_count 55 = .ok (.bipush 23, 2) := by decide +kernel
theorem dX7_count_57 : decode cX7_count 57 = .ok (.iaload, 1) := by decide +kernel
theorem dX7_count_58 : decode cX7_count 58 = .ok (.ireturn, 1) := by decide +kernel
theorem dX7_count_59 : decode cX7_count 59 = .ok (.aload_n 0, 1) := by decide +kernel
theorem dX7_count_60 : decode cX7_count 60 = .ok (.getfield 43, 3) := by decide +kernel
theorem dX7_count_63 : decode cX7_count 63 = .ok (.ireturn, 1) := by decide +kernel
theorem dX7_count_64 : decode cX7_count 64 = .ok (.iconst (-1), 1) := by decide +kernel
theorem dX7_count_65 : decode cX7_count 65 = .ok (.ireturn, 1) := by decide +kernel
theorem dX7_trace_0 : decode cX7_trace 0 = .ok (.aload_n 0, 1) := by decide +kernel
theorem dX7_trace_1 : decode cX7_trace 1 = .ok (.getfield 164, 3) := by decide +kernel
theorem dX7_trace_4 : decode cX7_trace 4 = .ok (.lreturn, 1) := by decide +kernel
theorem dJ6_bitCount_0f7a4_0 : decode cJ6_bitCount_0f7a4 0 = .ok (.iload_n 0, 1) := by decide +kernel
theorem dJ6_bitCount_0f7a4_1 : decode cJ6_bitCount_0f7a4 1 = .ok (.iload_n 0, 1) := by decide +kernel
theorem dJ6_bitCount_0f7a4_2 : decode cJ6_bitCount_0f7a4 2 = .ok (.iconst 1, 1) := by decide +kernel
theorem dJ6_bitCount_0f7a4_3 : decode cJ6_bitCount_0f7a4 3 = .ok (.iushr, 1) := by decide +kernel
theorem dJ6_bitCount_0f7a4_4 : decode cJ6_bitCount_0f7a4 4 = .ok (.ldc_w 265, 3) := by decide +kernel
theorem dJ6_bitCount_0f7a4_7 : decode cJ6_bitCount_0f7a4 7 = .ok (.iand, 1) := by decide +kernel
theorem dJ6_bitCount_0f7a4_8 : decode cJ6_bitCount_0f7a4 8 = .ok (.isub, 1) := by decide +kernel
theorem dJ6_bitCount_0f7a4_9 : decode cJ6_bitCount_0f7a4 9 = .ok (.istore_n 0, 1) := by decide +kernel
theorem dJ6_bitCount_0f7a4_10 : decode cJ6_bitCount_0f7a4 10 = .ok (.iload_n 0, 1) := by decide +kernel
theorem dJ6_bitCount_0f7a4_11 : decode cJ6_bitCount_0f7a4 11 = .ok (.ldc_w 266, 3) := by decide +kernel
theorem dJ6_bitCount_0f7a4_14 : decode cJ6_bitCount_0f7a4 14 = .ok (.iand, 1) := by decide +kernel
theorem dJ6_bitCount_0f7a4_15 : decode cJ6_bitCount_0f7a4 15 = .ok (.iload_n 0, 1) := by decide +kernel
theorem dJ6_bitCount_0f7a4_16 : decode cJ6_bitCount_0f7a4 16 = .ok (.iconst 2, 1) := by decide +kernel
theorem dJ6_bitCount_0f7a4_17 : decode cJ6_bitCount_0f7a4 17 = .ok (.iushr, 1) := by decide +kernel
theorem dJ6_bitCount_0f7a4_18 : decode cJ6_bitCount_0f7a4 18 = .ok (.ldc_w 266, 3) := by decide +kernel
theorem dJ6_bitCount_0f7a4_21 : decode cJ6_bitCount_0f7a4 21 = .ok (.iand, 1) := by decide +kernel
theorem dJ6_bitCount_0f7a4_22 : decode cJ6_bitCount_0f7a4 22 = .ok (.iadd, 1) := by decide +kernel
theorem dJ6_bitCount_0f7a4_23 : decode cJ6_bitCount_0f7a4 23 = .ok (.istore_n 0, 1) := by decide +kernel
theorem dJ6_bitCount_0f7a4_24 : decode cJ6_bitCount_0f7a4 24 = .ok (.iload_n 0, 1) := by decide +kernel
theorem dJ6_bitCount_0f7a4_25 : decode cJ6_bitCount_0f7a4 25 = .ok (.iload_n 0, 1) := by decide +kernel
theorem dJ6_bitCount_0f7a4_26 : decode cJ6_bitCount_0f7a4 26 = .ok (.iconst 4, 1) := by decide +kernel
theorem dJ6_bitCount_0f7a4_27 : decode cJ6_bitCount_0f7a4 27 = .ok (.iushr, 1) := by decide +kernel
theorem dJ6_bitCount_0f7a4_28 : decode cJ6_bitCount_0f7a4 28 = .ok (.iadd, 1) := by decide +kernel
theorem dJ6_bitCount_0f7a4_29 : decode cJ6_bitCount_0f7a4 29 = .ok (.ldc_w 267, 3) := by decide +kernel
theorem dJ6_bitCount_0f7a4_32 : decode cJ6_bitCount_0f7a4 32 = .ok (.iand, 1) := by decide +kernel
theorem dJ6_bitCount_0f7a4_33 : decode cJ6_bitCount_0f7a4 33 = .ok (.istore_n 0, 1) := by decide +kernel
theorem dJ6_bitCount_0f7a4_34 : decode cJ6_bitCount_0f7a4 34 = .ok (.iload_n 0, 1) := by decide +kernel
theorem dJ6_bitCount_0f7a4_35 : decode cJ6_bitCount_0f7a4 35 = .ok (.iload_n 0, 1) := by decide +kernel
theorem dJ6_bitCount_0f7a4_36 : decode cJ6_bitCount_0f7a4 36 = .ok (.bipush 8, 2) := by decide +kernel
theorem dJ6_bitCount_0f7a4_38 : decode cJ6_bitCount_0f7a4 38 = .ok (.iushr, 1) := by decide +kernel
theorem dJ6_bitCount_0f7a4_39 : decode cJ6_bitCount_0f7a4 39 = .ok (.iadd, 1) := by decide +kernel
theorem dJ6_bitCount_0f7a4_40 : decode cJ6_bitCount_0f7a4 40 = .ok (.istore_n 0, 1) := by decide +kernel
theorem dJ6_bitCount_0f7a4_41 : decode cJ6_bitCount_0f7a4 41 = .ok (.iload_n 0, 1) := by decide +kernel
theorem dJ6_bitCount_0f7a4_42 : decode cJ6_bitCount_0f7a4 42 = .ok (.iload_n 0, 1) := by decide +kernel
theorem dJ6_bitCount_0f7a4_43 : decode cJ6_bitCount_0f7a4 43 = .ok (.bipush 16, 2) := by decide +kernel
theorem dJ6_bitCount_0f7a4_45 : decode cJ6_bitCount_0f7a4 45 = .ok (.iushr, 1) := by decide +kernel
theorem dJ6_bitCount_0f7a4_46 : decode cJ6_bitCount_0f7a4 46 = .ok (.iadd, 1) := by decide +kernel
theorem dJ6_bitCount_0f7a4_47 : decode cJ6_bitCount_0f7a4 47 = .ok (.istore_n 0, 1) := by decide +kernel
theorem dJ6_bitCount_0f7a4_48 : decode cJ6_bitCount_0f7a4 48 = .ok (.iload_n 0, 1) := by decide +kernel
theorem dJ6_bitCount_0f7a4_49 : decode cJ6_bitCount_0f7a4 49 = .ok (.bipush 63, 2) := by decide +kernel
theorem dJ6_bitCount_0f7a4_51 : decode cJ6_bitCount_0f7a4 51 = .ok (.iand, 1) := by decide +kernel
theorem dJ6_bitCount_0f7a4_52 : decode cJ6_bitCount_0f7a4 52 = .ok (.ireturn, 1) := by decide +kernel
theorem dL_law_0 : decode cL_law 0 = .ok (.new 7, 3) := by decide +kernel
theorem dL_law_3 : decode cL_law 3 = .ok (.dup, 1) := by decide +kernel
theorem dL_law_4 : decode cL_law 4 = .ok (.invokespecial 9, 3) := by decide +kernel
theorem dL_law_7 : decode cL_law 7 = .ok (.astore_n 1, 1) := by decide +kernel
theorem dL_law_8 : decode cL_law 8 = .ok (.new 10, 3) := by decide +kernel
theorem dL_law_11 : decode cL_law 11 = .ok (.dup, 1) := by decide +kernel
theorem dL_law_12 : decode cL_law 12 = .ok (.invokespecial 12, 3) := by decide +kernel
theorem dL_law_15 : decode cL_law 15 = .ok (.astore_n 2, 1) := by decide +kernel
theorem dL_law_16 : decode cL_law 16 = .ok (.iconst 0, 1) := by decide +kernel
theorem dL_law_17 : decode cL_law 17 = .ok (.istore_n 3, 1) := by decide +kernel
theorem dL_law_18 : decode cL_law 18 = .ok (.iload_n 3, 1) := by decide +kernel
theorem dL_law_19 : decode cL_law 19 = .ok (.aload_n 0, 1) := by decide +kernel
theorem dL_law_20 : decode cL_law 20 = .ok (.arraylength, 1) := by decide +kernel
theorem dL_law_21 : decode cL_law 21 = .ok (.bipush 6, 2) := by decide +kernel
theorem dL_law_23 : decode cL_law 23 = .ok (.isub, 1) := by decide +kernel
theorem dL_law_24 : decode cL_law 24 = .ok (.if_icmp .gt 792, 3) := by decide +kernel
theorem dL_law_27 : decode cL_law 27 = .ok (.aload_n 0, 1) := by decide +kernel
theorem dL_law_28 : decode cL_law 28 = .ok (.iload_n 3, 1) := by decide +kernel
theorem dL_law_29 : decode cL_law 29 = .ok (.iaload, 1) := by decide +kernel
theorem dL_law_30 : decode cL_law 30 = .ok (.bipush 31, 2) := by decide +kernel
theorem dL_law_32 : decode cL_law 32 = .ok (.iand, 1) := by decide +kernel
theorem dL_law_33 : decode cL_law 33 = .ok (.tableswitch 777 0 22 #[107, 130, 143, 156, 199, 232, 275, 308, 351, 364, 387, 400, 423, 466, 499, 562, 615, 628, 651, 694, 717, 740, 763], 107) := by decide +kernel
theorem dL_law_140 : decode cL_law 140 = .ok (.aload_n 1, 1) := by decide +kernel
theorem dL_law_141 : decode cL_law 141 = .ok (.aload_n 0, 1) := by decide +kernel
theorem dL_law_142 : decode cL_law 142 = .ok (.iload_n 3, 1) := by decide +kernel
theorem dL_law_143 : decode cL_law 143 = .ok (.iconst 1, 1) := by decide +kernel
theorem dL_law_144 : decode cL_law 144 = .ok (.iadd, 1) := by decide +kernel
theorem dL_law_145 : decode cL_law 145 = .ok (.iaload, 1) := by decide +kernel
theorem dL_law_146 : decode cL_law 146 = .ok (.invokevirtual 13, 3) := by decide +kernel
theorem dL_law_149 : decode cL_law 149 = .ok (.aload_n 2, 1) := by decide +kernel
theorem dL_law_150 : decode cL_law 150 = .ok (.aload_n 0, 1) := by decide +kernel
theorem dL_law_151 : decode cL_law 151 = .ok (.iload_n 3, 1) := by decide +kernel
theorem dL_law_152 : decode cL_law 152 = .ok (.iconst 1, 1) := by decide +kernel
theorem dL_law_153 : decode cL_law 153 = .ok (.iadd, 1) := by decide +kernel
theorem dL_law_154 : decode cL_law 154 = .ok (.iaload, 1) := by decide +kernel
theorem dL_law_155 : decode cL_law 155 = .ok (.invokevirtual 17, 3) := by decide +kernel
theorem dL_law_158 : decode cL_law 158 = .ok (.if_icmp .eq 652, 3) := by decide +kernel
theorem dL_law_161 : decode cL_law 161 = .ok (.iconst 0, 1) := by decide +kernel
theorem dL_law_162 : decode cL_law 162 = .ok (.ireturn, 1) := by decide +kernel
theorem dL_law_163 : decode cL_law 163 = .ok (.aload_n 1, 1) := by decide +kernel
theorem dL_law_164 : decode cL_law 164 = .ok (.invokevirtual 18, 3) := by decide +kernel
theorem dL_law_167 : decode cL_law 167 = .ok (.aload_n 2, 1) := by decide +kernel
theorem dL_law_168 : decode cL_law 168 = .ok (.invokevirtual 22, 3) := by decide +kernel
theorem dL_law_171 : decode cL_law 171 = .ok (.if_icmp .eq 639, 3) := by decide +kernel
theorem dL_law_174 : decode cL_law 174 = .ok (.iconst 0, 1) := by decide +kernel
theorem dL_law_175 : decode cL_law 175 = .ok (.ireturn, 1) := by decide +kernel
theorem dL_law_176 : decode cL_law 176 = .ok (.aload_n 1, 1) := by decide +kernel
theorem dL_law_177 : decode cL_law 177 = .ok (.invokevirtual 23, 3) := by decide +kernel
theorem dL_law_180 : decode cL_law 180 = .ok (.aload_n 2, 1) := by decide +kernel
theorem dL_law_181 : decode cL_law 181 = .ok (.invokevirtual 26, 3) := by decide +kernel
theorem dL_law_184 : decode cL_law 184 = .ok (.if_icmp .eq 626, 3) := by decide +kernel
theorem dL_law_187 : decode cL_law 187 = .ok (.iconst 0, 1) := by decide +kernel
theorem dL_law_188 : decode cL_law 188 = .ok (.ireturn, 1) := by decide +kernel
theorem dL_law_189 : decode cL_law 189 = .ok (.aload_n 1, 1) := by decide +kernel
theorem dL_law_190 : decode cL_law 190 = .ok (.aload_n 0, 1) := by decide +kernel
theorem dL_law_191 : decode cL_law 191 = .ok (.iload_n 3, 1) := by decide +kernel
theorem dL_law_192 : decode cL_law 192 = .ok (.iconst 1, 1) := by decide +kernel
theorem dL_law_193 : decode cL_law 193 = .ok (.iadd, 1) := by decide +kernel
theorem dL_law_194 : decode cL_law 194 = .ok (.iaload, 1) := by decide +kernel
theorem dL_law_195 : decode cL_law 195 = .ok (.aload_n 0, 1) := by decide +kernel
theorem dL_law_196 : decode cL_law 196 = .ok (.iload_n 3, 1) := by decide +kernel
theorem dL_law_197 : decode cL_law 197 = .ok (.iconst 2, 1) := by decide +kernel
theorem dL_law_198 : decode cL_law 198 = .ok (.iadd, 1) := by decide +kernel
theorem dL_law_199 : decode cL_law 199 = .ok (.iaload, 1) := by decide +kernel
theorem dL_law_200 : decode cL_law 200 = .ok (.aload_n 0, 1) := by decide +kernel
theorem dL_law_201 : decode cL_law 201 = .ok (.iload_n 3, 1) := by decide +kernel
theorem dL_law_202 : decode cL_law 202 = .ok (.iconst 3, 1) := by decide +kernel
theorem dL_law_203 : decode cL_law 203 = .ok (.iadd, 1) := by decide +kernel
theorem dL_law_204 : decode cL_law 204 = .ok (.iaload, 1) := by decide +kernel
theorem dL_law_205 : decode cL_law 205 = .ok (.invokevirtual 27, 3) := by decide +kernel
theorem dL_law_208 : decode cL_law 208 = .ok (.aload_n 2, 1) := by decide +kernel
theorem dL_law_209 : decode cL_law 209 = .ok (.aload_n 0, 1) := by decide +kernel
theorem dL_law_210 : decode cL_law 210 = .ok (.iload_n 3, 1) := by decide +kernel
theorem dL_law_211 : decode cL_law 211 = .ok (.iconst 1, 1) := by decide +kernel
theorem dL_law_212 : decode cL_law 212 = .ok (.iadd, 1) := by decide +kernel
theorem dL_law_213 : decode cL_law 213 = .ok (.iaload, 1) := by decide +kernel
theorem dL_law_214 : decode cL_law 214 = .ok (.aload_n 0, 1) := by decide +kernel
theorem dL_law_215 : decode cL_law 215 = .ok (.iload_n 3, 1) := by decide +kernel
theorem dL_law_216 : decode cL_law 216 = .ok (.iconst 2, 1) := by decide +kernel
theorem dL_law_217 : decode cL_law 217 = .ok (.iadd, 1) := by decide +kernel
theorem dL_law_218 : decode cL_law 218 = .ok (.iaload, 1) := by decide +kernel
theorem dL_law_219 : decode cL_law 219 = .ok (.aload_n 0, 1) := by decide +kernel
theorem dL_law_220 : decode cL_law 220 = .ok (.iload_n 3, 1) := by decide +kernel
theorem dL_law_221 : decode cL_law 221 = .ok (.iconst 3, 1) := by decide +kernel
theorem dL_law_222 : decode cL_law 222 = .ok (.iadd, 1) := by decide +kernel
theorem dL_law_223 : decode cL_law 223 = .ok (.iaload, 1) := by decide +kernel
theorem dL_law_224 : decode cL_law 224 = .ok (.invokevirtual 31, 3) := by decide +kernel
theorem dL_law_227 : decode cL_law 227 = .ok (.if_icmp .eq 583, 3) := by decide +kernel
theorem dL_law_230 : decode cL_law 230 = .ok (.iconst 0, 1) := by decide +kernel
theorem dL_law_231 : decode cL_law 231 = .ok (.ireturn, 1) := by decide +kernel
theorem dL_law_232 : decode cL_law 232 = .ok (.aload_n 1, 1) := by decide +kernel
theorem dL_law_233 : decode cL_law 233 = .ok (.aload_n 0, 1) := by decide +kernel
theorem dL_law_234 : decode cL_law 234 = .ok (.iload_n 3, 1) := by decide +kernel
theorem dL_law_235 : decode cL_law 235 = .ok (.iconst 1, 1) := by decide +kernel
theorem dL_law_236 : decode cL_law 236 = .ok (.iadd, 1) := by decide +kernel
theorem dL_law_237 : decode cL_law 237 = .ok (.iaload, 1) := by decide +kernel
theorem dL_law_238 : decode cL_law 238 = .ok (.aload_n 0, 1) := by decide +kernel
theorem dL_law_239 : decode cL_law 239 = .ok (.iload_n 3, 1) := by decide +kernel
theorem dL_law_240 : decode cL_law 240 = .ok (.iconst 2, 1) := by decide +kernel
theorem dL_law_241 : decode cL_law 241 = .ok (.iadd, 1) := by decide +kernel
theorem dL_law_242 : decode cL_law 242 = .ok (.iaload, 1) := by decide +kernel
theorem dL_law_243 : decode cL_law 243 = .ok (.invokevirtual 32, 3) := by decide +kernel
theorem dL_law_246 : decode cL_law 246 = .ok (.aload_n 2, 1) := by decide +kernel
theorem dL_law_247 : decode cL_law 247 = .ok (.aload_n 0, 1) := by decide +kernel
theorem dL_law_248 : decode cL_law 248 = .ok (.iload_n 3, 1) := by decide +kernel
theorem dL_law_249 : decode cL_law 249 = .ok (.iconst 1, 1) := by decide +kernel
theorem dL_law_250 : decode cL_law 250 = .ok (.iadd, 1) := by decide +kernel
theorem dL_law_251 : decode cL_law 251 = .ok (.iaload, 1) := by decide +kernel
theorem dL_law_252 : decode cL_law 252 = .ok (.aload_n 0, 1) := by decide +kernel
theorem dL_law_253 : decode cL_law 253 = .ok (.iload_n 3, 1) := by decide +kernel
theorem dL_law_254 : decode cL_law 254 = .ok (.iconst 2, 1) := by decide +kernel
theorem dL_law_255 : decode cL_law 255 = .ok (.iadd, 1) := by decide +kernel
theorem dL_law_256 : decode cL_law 256 = .ok (.iaload, 1) := by decide +kernel
theorem dL_law_257 : decode cL_law 257 = .ok (.invokevirtual 36, 3) := by decide +kernel
theorem dL_law_260 : decode cL_law 260 = .ok (.if_icmp .eq 550, 3) := by decide +kernel
theorem dL_law_263 : decode cL_law 263 = .ok (.iconst 0, 1) := by decide +kernel
theorem dL_law_264 : decode cL_law 264 = .ok (.ireturn, 1) := by decide +kernel
theorem dL_law_265 : decode cL_law 265 = .ok (.aload_n 1, 1) := by decide +kernel
theorem dL_law_266 : decode cL_law 266 = .ok (.aload_n 0, 1) := by decide +kernel
theorem dL_law_267 : decode cL_law 267 = .ok (.iload_n 3, 1) := by decide +kernel
theorem dL_law_268 : decode cL_law 268 = .ok (.iconst 1, 1) := by decide +kernel
theorem dL_law_269 : decode cL_law 269 = .ok (.iadd, 1) := by decide +kernel
theorem dL_law_270 : decode cL_law 270 = .ok (.iaload, 1) := by decide +kernel
theorem dL_law_271 : decode cL_law 271 = .ok (.aload_n 0, 1) := by decide +kernel
theorem dL_law_272 : decode cL_law 272 = .ok (.iload_n 3, 1) := by decide +kernel
theorem dL_law_273 : decode cL_law 273 = .ok (.iconst 2, 1) := by decide +kernel
theorem dL_law_274 : decode cL_law 274 = .ok (.iadd, 1) := by decide +kernel
theorem dL_law_275 : decode cL_law 275 = .ok (.iaload, 1) := by decide +kernel
theorem dL_law_276 : decode cL_law 276 = .ok (.aload_n 0, 1) := by decide +kernel
theorem dL_law_277 : decode cL_law 277 = .ok (.iload_n 3, 1) := by decide +kernel
theorem dL_law_278 : decode cL_law 278 = .ok (.iconst 3, 1) := by decide +kernel
theorem dL_law_279 : decode cL_law 279 = .ok (.iadd, 1) := by decide +kernel
theorem dL_law_280 : decode cL_law 280 = .ok (.iaload, 1) := by decide +kernel
theorem dL_law_281 : decode cL_law 281 = .ok (.invokevirtual 37, 3) := by decide +kernel
theorem dL_law_284 : decode cL_law 284 = .ok (.aload_n 2, 1) := by decide +kernel
theorem dL_law_285 : decode cL_law 285 = .ok (.aload_n 0, 1) := by decide +kernel
theorem dL_law_286 : decode cL_law 286 = .ok (.iload_n 3, 1) := by decide +kernel
theorem dL_law_287 : decode cL_law 287 = .ok (.iconst 1, 1) := by decide +kernel
theorem dL_law_288 : decode cL_law 288 = .ok (.iadd, 1) := by decide +kernel
theorem dL_law_289 : decode cL_law 289 = .ok (.iaload, 1) := by decide +kernel
theorem dL_law_290 : decode cL_law 290 = .ok (.aload_n 0, 1) := by decide +kernel
theorem dL_law_291 : decode cL_law 291 = .ok (.iload_n 3, 1) := by decide +kernel
theorem dL_law_292 : decode cL_law 292 = .ok (.iconst 2, 1) := by decide +kernel
theorem dL_law_293 : decode cL_law 293 = .ok (.iadd, 1) := by decide +kernel
theorem dL_law_294 : decode cL_law 294 = .ok (.iaload, 1) := by decide +kernel
theorem dL_law_295 : decode cL_law 295 = .ok (.aload_n 0, 1) := by decide +kernel
theorem dL_law_296 : decode cL_law 296 = .ok (.iload_n 3, 1) := by decide +kernel
theorem dL_law_297 : decode cL_law 297 = .ok (.iconst 3, 1) := by decide +kernel
theorem dL_law_298 : decode cL_law 298 = .ok (.iadd, 1) := by decide +kernel
theorem dL_law_299 : decode cL_law 299 = .ok (.iaload, 1) := by decide +kernel
theorem dL_law_300 : decode cL_law 300 = .ok (.invokevirtual 40, 3) := by decide +kernel
theorem dL_law_303 : decode cL_law 303 = .ok (.if_icmp .eq 507, 3) := by decide +kernel
theorem dL_law_306 : decode cL_law 306 = .ok (.iconst 0, 1) := by decide +kernel
theorem dL_law_307 : decode cL_law 307 = .ok (.ireturn, 1) := by decide +kernel
theorem dL_law_308 : decode cL_law 308 = .ok (.aload_n 1, 1) := by decide +kernel
theorem dL_law_309 : decode cL_law 309 = .ok (.aload_n 0, 1) := by decide +kernel
theorem dL_law_310 : decode cL_law 310 = .ok (.iload_n 3, 1) := by decide +kernel
theorem dL_law_311 : decode cL_law 311 = .ok (.iconst 1, 1) := by decide +kernel
theorem dL_law_312 : decode cL_law 312 = .ok (.iadd, 1) := by decide +kernel
theorem dL_law_313 : decode cL_law 313 = .ok (.iaload, 1) := by decide +kernel
theorem dL_law_314 : decode cL_law 314 = .ok (.aload_n 0, 1) := by decide +kernel
theorem dL_law_315 : decode cL_law 315 = .ok (.iload_n 3, 1) := by decide +kernel
theorem dL_law_316 : decode cL_law 316 = .ok (.iconst 2, 1) := by decide +kernel
theorem dL_law_317 : decode cL_law 317 = .ok (.iadd, 1) := by decide +kernel
theorem dL_law_318 : decode cL_law 318 = .ok (.iaload, 1) := by decide +kernel
theorem dL_law_319 : decode cL_law 319 = .ok (.invokevirtual 41, 3) := by decide +kernel
theorem dL_law_322 : decode cL_law 322 = .ok (.aload_n 2, 1) := by decide +kernel
theorem dL_law_323 : decode cL_law 323 = .ok (.aload_n 0, 1) := by decide +kernel
theorem dL_law_324 : decode cL_law 324 = .ok (.iload_n 3, 1) := by decide +kernel
theorem dL_law_325 : decode cL_law 325 = .ok (.iconst 1, 1) := by decide +kernel
theorem dL_law_326 : decode cL_law 326 = .ok (.iadd, 1) := by decide +kernel
theorem dL_law_327 : decode cL_law 327 = .ok (.iaload, 1) := by decide +kernel
theorem dL_law_328 : decode cL_law 328 = .ok (.aload_n 0, 1) := by decide +kernel
theorem dL_law_329 : decode cL_law 329 = .ok (.iload_n 3, 1) := by decide +kernel
theorem dL_law_330 : decode cL_law 330 = .ok (.iconst 2, 1) := by decide +kernel
theorem dL_law_331 : decode cL_law 331 = .ok (.iadd, 1) := by decide +kernel
theorem dL_law_332 : decode cL_law 332 = .ok (.iaload, 1) := by decide +kernel
theorem dL_law_333 : decode cL_law 333 = .ok (.invokevirtual 44, 3) := by decide +kernel
theorem dL_law_336 : decode cL_law 336 = .ok (.if_icmp .eq 474, 3) := by decide +kernel
theorem dL_law_339 : decode cL_law 339 = .ok (.iconst 0, 1) := by decide +kernel
theorem dL_law_340 : decode cL_law 340 = .ok (.ireturn, 1) := by decide +kernel
theorem dL_law_341 : decode cL_law 341 = .ok (.aload_n 1, 1) := by decide +kernel
theorem dL_law_342 : decode cL_law 342 = .ok (.aload_n 0, 1) := by decide +kernel
theorem dL_law_343 : decode cL_law 343 = .ok (.iload_n 3, 1) := by decide +kernel
theorem dL_law_344 : decode cL_law 344 = .ok (.iconst 1, 1) := by decide +kernel
theorem dL_law_345 : decode cL_law 345 = .ok (.iadd, 1) := by decide +kernel
theorem dL_law_346 : decode cL_law 346 = .ok (.iaload, 1) := by decide +kernel
theorem dL_law_347 : decode cL_law 347 = .ok (.aload_n 0, 1) := by decide +kernel
theorem dL_law_348 : decode cL_law 348 = .ok (.iload_n 3, 1) := by decide +kernel
theorem dL_law_349 : decode cL_law 349 = .ok (.iconst 2, 1) := by decide +kernel
theorem dL_law_350 : decode cL_law 350 = .ok (.iadd, 1) := by decide +kernel
theorem dL_law_351 : decode cL_law 351 = .ok (.iaload, 1) := by decide +kernel
theorem dL_law_352 : decode cL_law 352 = .ok (.aload_n 0, 1) := by decide +kernel
theorem dL_law_353 : decode cL_law 353 = .ok (.iload_n 3, 1) := by decide +kernel
theorem dL_law_354 : decode cL_law 354 = .ok (.iconst 3, 1) := by decide +kernel
theorem dL_law_355 : decode cL_law 355 = .ok (.iadd, 1) := by decide +kernel
theorem dL_law_356 : decode cL_law 356 = .ok (.iaload, 1) := by decide +kernel
theorem dL_law_357 : decode cL_law 357 = .ok (.invokevirtual 45, 3) := by decide +kernel
theorem dL_law_360 : decode cL_law 360 = .ok (.aload_n 2, 1) := by decide +kernel
theorem dL_law_361 : decode cL_law 361 = .ok (.aload_n 0, 1) := by decide +kernel
theorem dL_law_362 : decode cL_law 362 = .ok (.iload_n 3, 1) := by decide +kernel
theorem dL_law_363 : decode cL_law 363 = .ok (.iconst 1, 1) := by decide +kernel
theorem dL_law_364 : decode cL_law 364 = .ok (.iadd, 1) := by decide +kernel
theorem dL_law_365 : decode cL_law 365 = .ok (.iaload, 1) := by decide +kernel
theorem dL_law_366 : decode cL_law 366 = .ok (.aload_n 0, 1) := by decide +kernel
theorem dL_law_367 : decode cL_law 367 = .ok (.iload_n 3, 1) := by decide +kernel
theorem dL_law_368 : decode cL_law 368 = .ok (.iconst 2, 1) := by decide +kernel
theorem dL_law_369 : decode cL_law 369 = .ok (.iadd, 1) := by decide +kernel
theorem dL_law_370 : decode cL_law 370 = .ok (.iaload, 1) := by decide +kernel
theorem dL_law_371 : decode cL_law 371 = .ok (.aload_n 0, 1) := by decide +kernel
theorem dL_law_372 : decode cL_law 372 = .ok (.iload_n 3, 1) := by decide +kernel
theorem dL_law_373 : decode cL_law 373 = .ok (.iconst 3, 1) := by decide +kernel
theorem dL_law_374 : decode cL_law 374 = .ok (.iadd, 1) := by decide +kernel
theorem dL_law_375 : decode cL_law 375 = .ok (.iaload, 1) := by decide +kernel
theorem dL_law_376 : decode cL_law 376 = .ok (.invokevirtual 48, 3) := by decide +kernel
theorem dL_law_379 : decode cL_law 379 = .ok (.if_icmp .eq 431, 3) := by decide +kernel
theorem dL_law_382 : decode cL_law 382 = .ok (.iconst 0, 1) := by decide +kernel
theorem dL_law_383 : decode cL_law 383 = .ok (.ireturn, 1) := by decide +kernel
theorem dL_law_384 : decode cL_law 384 = .ok (.aload_n 1, 1) := by decide +kernel
theorem dL_law_385 : decode cL_law 385 = .ok (.invokevirtual 49, 3) := by decide +kernel
theorem dL_law_388 : decode cL_law 388 = .ok (.aload_n 2, 1) := by decide +kernel
theorem dL_law_389 : decode cL_law 389 = .ok (.invokevirtual 52, 3) := by decide +kernel
theorem dL_law_392 : decode cL_law 392 = .ok (.if_icmp .eq 418, 3) := by decide +kernel
theorem dL_law_395 : decode cL_law 395 = .ok (.iconst 0, 1) := by decide +kernel
theorem dL_law_396 : decode cL_law 396 = .ok (.ireturn, 1) := by decide +kernel
theorem dL_law_397 : decode cL_law 397 = .ok (.aload_n 1, 1) := by decide +kernel
theorem dL_law_398 : decode cL_law 398 = .ok (.aload_n 0, 1) := by decide +kernel
theorem dL_law_399 : decode cL_law 399 = .ok (.iload_n 3, 1) := by decide +kernel
theorem dL_law_400 : decode cL_law 400 = .ok (.iconst 1, 1) := by decide +kernel
theorem dL_law_401 : decode cL_law 401 = .ok (.iadd, 1) := by decide +kernel
theorem dL_law_402 : decode cL_law 402 = .ok (.iaload, 1) := by decide +kernel
theorem dL_law_403 : decode cL_law 403 = .ok (.invokevirtual 53, 3) := by decide +kernel
theorem dL_law_406 : decode cL_law 406 = .ok (.aload_n 2, 1) := by decide +kernel
theorem dL_law_407 : decode cL_law 407 = .ok (.aload_n 0, 1) := by decide +kernel
theorem dL_law_408 : decode cL_law 408 = .ok (.iload_n 3, 1) := by decide +kernel
theorem dL_law_409 : decode cL_law 409 = .ok (.iconst 1, 1) := by decide +kernel
theorem dL_law_410 : decode cL_law 410 = .ok (.iadd, 1) := by decide +kernel
theorem dL_law_411 : decode cL_law 411 = .ok (.iaload, 1) := by decide +kernel
theorem dL_law_412 : decode cL_law 412 = .ok (.invokevirtual 56, 3) := by decide +kernel
theorem dL_law_415 : decode cL_law 415 = .ok (.if_icmp .eq 395, 3) := by decide +kernel
theorem dL_law_418 : decode cL_law 418 = .ok (.iconst 0, 1) := by decide +kernel
theorem dL_law_419 : decode cL_law 419 = .ok (.ireturn, 1) := by decide +kernel
theorem dL_law_420 : decode cL_law 420 = .ok (.aload_n 1, 1) := by decide +kernel
theorem dL_law_421 : decode cL_law 421 = .ok (.invokevirtual 57, 3) := by decide +kernel
theorem dL_law_424 : decode cL_law 424 = .ok (.aload_n 2, 1) := by decide +kernel
theorem dL_law_425 : decode cL_law 425 = .ok (.invokevirtual 60, 3) := by decide +kernel
theorem dL_law_428 : decode cL_law 428 = .ok (.if_icmp .eq 382, 3) := by decide +kernel
theorem dL_law_431 : decode cL_law 431 = .ok (.iconst 0, 1) := by decide +kernel
theorem dL_law_432 : decode cL_law 432 = .ok (.ireturn, 1) := by decide +kernel
theorem dL_law_433 : decode cL_law 433 = .ok (.aload_n 1, 1) := by decide +kernel
theorem dL_law_434 : decode cL_law 434 = .ok (.aload_n 0, 1) := by decide +kernel
theorem dL_law_435 : decode cL_law 435 = .ok (.iload_n 3, 1) := by decide +kernel
theorem dL_law_436 : decode cL_law 436 = .ok (.iconst 1, 1) := by decide +kernel
theorem dL_law_437 : decode cL_law 437 = .ok (.iadd, 1) := by decide +kernel
theorem dL_law_438 : decode cL_law 438 = .ok (.iaload, 1) := by decide +kernel
theorem dL_law_439 : decode cL_law 439 = .ok (.invokevirtual 61, 3) := by decide +kernel
theorem dL_law_442 : decode cL_law 442 = .ok (.aload_n 2, 1) := by decide +kernel
theorem dL_law_443 : decode cL_law 443 = .ok (.aload_n 0, 1) := by decide +kernel
theorem dL_law_444 : decode cL_law 444 = .ok (.iload_n 3, 1) := by decide +kernel
theorem dL_law_445 : decode cL_law 445 = .ok (.iconst 1, 1) := by decide +kernel
theorem dL_law_446 : decode cL_law 446 = .ok (.iadd, 1) := by decide +kernel
theorem dL_law_447 : decode cL_law 447 = .ok (.iaload, 1) := by decide +kernel
theorem dL_law_448 : decode cL_law 448 = .ok (.invokevirtual 64, 3) := by decide +kernel
theorem dL_law_451 : decode cL_law 451 = .ok (.if_icmp .eq 359, 3) := by decide +kernel
theorem dL_law_454 : decode cL_law 454 = .ok (.iconst 0, 1) := by decide +kernel
theorem dL_law_455 : decode cL_law 455 = .ok (.ireturn, 1) := by decide +kernel
theorem dL_law_456 : decode cL_law 456 = .ok (.aload_n 1, 1) := by decide +kernel
theorem dL_law_457 : decode cL_law 457 = .ok (.aload_n 0, 1) := by decide +kernel
theorem dL_law_458 : decode cL_law 458 = .ok (.iload_n 3, 1) := by decide +kernel
theorem dL_law_459 : decode cL_law 459 = .ok (.iconst 1, 1) := by decide +kernel
theorem dL_law_460 : decode cL_law 460 = .ok (.iadd, 1) := by decide +kernel
theorem dL_law_461 : decode cL_law 461 = .ok (.iaload, 1) := by decide +kernel
theorem dL_law_462 : decode cL_law 462 = .ok (.aload_n 0, 1) := by decide +kernel
theorem dL_law_463 : decode cL_law 463 = .ok (.iload_n 3, 1) := by decide +kernel
theorem dL_law_464 : decode cL_law 464 = .ok (.iconst 2, 1) := by decide +kernel
theorem dL_law_465 : decode cL_law 465 = .ok (.iadd, 1) := by decide +kernel
theorem dL_law_466 : decode cL_law 466 = .ok (.iaload, 1) := by decide +kernel
theorem dL_law_467 : decode cL_law 467 = .ok (.aload_n 0, 1) := by decide +kernel
theorem dL_law_468 : decode cL_law 468 = .ok (.iload_n 3, 1) := by decide +kernel
theorem dL_law_469 : decode cL_law 469 = .ok (.iconst 3, 1) := by decide +kernel
theorem dL_law_470 : decode cL_law 470 = .ok (.iadd, 1) := by decide +kernel
theorem dL_law_471 : decode cL_law 471 = .ok (.iaload, 1) := by decide +kernel
theorem dL_law_472 : decode cL_law 472 = .ok (.invokevirtual 65, 3) := by decide +kernel
theorem dL_law_475 : decode cL_law 475 = .ok (.aload_n 2, 1) := by decide +kernel
theorem dL_law_476 : decode cL_law 476 = .ok (.aload_n 0, 1) := by decide +kernel
theorem dL_law_477 : decode cL_law 477 = .ok (.iload_n 3, 1) := by decide +kernel
theorem dL_law_478 : decode cL_law 478 = .ok (.iconst 1, 1) := by decide +kernel
theorem dL_law_479 : decode cL_law 479 = .ok (.iadd, 1) := by decide +kernel
theorem dL_law_480 : decode cL_law 480 = .ok (.iaload, 1) := by decide +kernel
theorem dL_law_481 : decode cL_law 481 = .ok (.aload_n 0, 1) := by decide +kernel
theorem dL_law_482 : decode cL_law 482 = .ok (.iload_n 3, 1) := by decide +kernel
theorem dL_law_483 : decode cL_law 483 = .ok (.iconst 2, 1) := by decide +kernel
theorem dL_law_484 : decode cL_law 484 = .ok (.iadd, 1) := by decide +kernel
theorem dL_law_485 : decode cL_law 485 = .ok (.iaload, 1) := by decide +kernel
theorem dL_law_486 : decode cL_law 486 = .ok (.aload_n 0, 1) := by decide +kernel
theorem dL_law_487 : decode cL_law 487 = .ok (.iload_n 3, 1) := by decide +kernel
theorem dL_law_488 : decode cL_law 488 = .ok (.iconst 3, 1) := by decide +kernel
theorem dL_law_489 : decode cL_law 489 = .ok (.iadd, 1) := by decide +kernel
theorem dL_law_490 : decode cL_law 490 = .ok (.iaload, 1) := by decide +kernel
theorem dL_law_491 : decode cL_law 491 = .ok (.invokevirtual 68, 3) := by decide +kernel
theorem dL_law_494 : decode cL_law 494 = .ok (.if_icmp .eq 316, 3) := by decide +kernel
theorem dL_law_497 : decode cL_law 497 = .ok (.iconst 0, 1) := by decide +kernel
theorem dL_law_498 : decode cL_law 498 = .ok (.ireturn, 1) := by decide +kernel
theorem dL_law_499 : decode cL_law 499 = .ok (.aload_n 1, 1) := by decide +kernel
theorem dL_law_500 : decode cL_law 500 = .ok (.aload_n 0, 1) := by decide +kernel
theorem dL_law_501 : decode cL_law 501 = .ok (.iload_n 3, 1) := by decide +kernel
theorem dL_law_502 : decode cL_law 502 = .ok (.iconst 1, 1) := by decide +kernel
theorem dL_law_503 : decode cL_law 503 = .ok (.iadd, 1) := by decide +kernel
theorem dL_law_504 : decode cL_law 504 = .ok (.iaload, 1) := by decide +kernel
theorem dL_law_505 : decode cL_law 505 = .ok (.aload_n 0, 1) := by decide +kernel
theorem dL_law_506 : decode cL_law 506 = .ok (.iload_n 3, 1) := by decide +kernel
theorem dL_law_507 : decode cL_law 507 = .ok (.iconst 2, 1) := by decide +kernel
theorem dL_law_508 : decode cL_law 508 = .ok (.iadd, 1) := by decide +kernel
theorem dL_law_509 : decode cL_law 509 = .ok (.iaload, 1) := by decide +kernel
theorem dL_law_510 : decode cL_law 510 = .ok (.invokevirtual 69, 3) := by decide +kernel
theorem dL_law_513 : decode cL_law 513 = .ok (.aload_n 2, 1) := by decide +kernel
theorem dL_law_514 : decode cL_law 514 = .ok (.aload_n 0, 1) := by decide +kernel
theorem dL_law_515 : decode cL_law 515 = .ok (.iload_n 3, 1) := by decide +kernel
theorem dL_law_516 : decode cL_law 516 = .ok (.iconst 1, 1) := by decide +kernel
theorem dL_law_517 : decode cL_law 517 = .ok (.iadd, 1) := by decide +kernel
theorem dL_law_518 : decode cL_law 518 = .ok (.iaload, 1) := by decide +kernel
theorem dL_law_519 : decode cL_law 519 = .ok (.aload_n 0, 1) := by decide +kernel
theorem dL_law_520 : decode cL_law 520 = .ok (.iload_n 3, 1) := by decide +kernel
theorem dL_law_521 : decode cL_law 521 = .ok (.iconst 2, 1) := by decide +kernel
theorem dL_law_522 : decode cL_law 522 = .ok (.iadd, 1) := by decide +kernel
theorem dL_law_523 : decode cL_law 523 = .ok (.iaload, 1) := by decide +kernel
theorem dL_law_524 : decode cL_law 524 = .ok (.invokevirtual 72, 3) := by decide +kernel
theorem dL_law_527 : decode cL_law 527 = .ok (.if_icmp .eq 283, 3) := by decide +kernel
theorem dL_law_530 : decode cL_law 530 = .ok (.iconst 0, 1) := by decide +kernel
theorem dL_law_531 : decode cL_law 531 = .ok (.ireturn, 1) := by decide +kernel
theorem dL_law_532 : decode cL_law 532 = .ok (.aload_n 1, 1) := by decide +kernel
theorem dL_law_533 : decode cL_law 533 = .ok (.aload_n 0, 1) := by decide +kernel
theorem dL_law_534 : decode cL_law 534 = .ok (.iload_n 3, 1) := by decide +kernel
theorem dL_law_535 : decode cL_law 535 = .ok (.iconst 1, 1) := by decide +kernel
theorem dL_law_536 : decode cL_law 536 = .ok (.iadd, 1) := by decide +kernel
theorem dL_law_537 : decode cL_law 537 = .ok (.iaload, 1) := by decide +kernel
theorem dL_law_538 : decode cL_law 538 = .ok (.aload_n 0, 1) := by decide +kernel
theorem dL_law_539 : decode cL_law 539 = .ok (.iload_n 3, 1) := by decide +kernel
theorem dL_law_540 : decode cL_law 540 = .ok (.iconst 2, 1) := by decide +kernel
theorem dL_law_541 : decode cL_law 541 = .ok (.iadd, 1) := by decide +kernel
theorem dL_law_542 : decode cL_law 542 = .ok (.iaload, 1) := by decide +kernel
theorem dL_law_543 : decode cL_law 543 = .ok (.aload_n 0, 1) := by decide +kernel
theorem dL_law_544 : decode cL_law 544 = .ok (.iload_n 3, 1) := by decide +kernel
theorem dL_law_545 : decode cL_law 545 = .ok (.iconst 3, 1) := by decide +kernel
theorem dL_law_546 : decode cL_law 546 = .ok (.iadd, 1) := by decide +kernel
theorem dL_law_547 : decode cL_law 547 = .ok (.iaload, 1) := by decide +kernel
theorem dL_law_548 : decode cL_law 548 = .ok (.aload_n 0, 1) := by decide +kernel
theorem dL_law_549 : decode cL_law 549 = .ok (.iload_n 3, 1) := by decide +kernel
theorem dL_law_550 : decode cL_law 550 = .ok (.iconst 4, 1) := by decide +kernel
theorem dL_law_551 : decode cL_law 551 = .ok (.iadd, 1) := by decide +kernel
theorem dL_law_552 : decode cL_law 552 = .ok (.iaload, 1) := by decide +kernel
theorem dL_law_553 : decode cL_law 553 = .ok (.aload_n 0, 1) := by decide +kernel
theorem dL_law_554 : decode cL_law 554 = .ok (.iload_n 3, 1) := by decide +kernel
theorem dL_law_555 : decode cL_law 555 = .ok (.iconst 5, 1) := by decide +kernel
theorem dL_law_556 : decode cL_law 556 = .ok (.iadd, 1) := by decide +kernel
theorem dL_law_557 : decode cL_law 557 = .ok (.iaload, 1) := by decide +kernel
theorem dL_law_558 : decode cL_law 558 = .ok (.invokevirtual 73, 3) := by decide +kernel
theorem dL_law_561 : decode cL_law 561 = .ok (.aload_n 2, 1) := by decide +kernel
theorem dL_law_562 : decode cL_law 562 = .ok (.aload_n 0, 1) := by decide +kernel
theorem dL_law_563 : decode cL_law 563 = .ok (.iload_n 3, 1) := by decide +kernel
theorem dL_law_564 : decode cL_law 564 = .ok (.iconst 1, 1) := by decide +kernel
theorem dL_law_565 : decode cL_law 565 = .ok (.iadd, 1) := by decide +kernel
theorem dL_law_566 : decode cL_law 566 = .ok (.iaload, 1) := by decide +kernel
theorem dL_law_567 : decode cL_law 567 = .ok (.aload_n 0, 1) := by decide +kernel
theorem dL_law_568 : decode cL_law 568 = .ok (.iload_n 3, 1) := by decide +kernel
theorem dL_law_569 : decode cL_law 569 = .ok (.iconst 2, 1) := by decide +kernel
theorem dL_law_570 : decode cL_law 570 = .ok (.iadd, 1) := by decide +kernel
theorem dL_law_571 : decode cL_law 571 = .ok (.iaload, 1) := by decide +kernel
theorem dL_law_572 : decode cL_law 572 = .ok (.aload_n 0, 1) := by decide +kernel
theorem dL_law_573 : decode cL_law 573 = .ok (.iload_n 3, 1) := by decide +kernel
theorem dL_law_574 : decode cL_law 574 = .ok (.iconst 3, 1) := by decide +kernel
theorem dL_law_575 : decode cL_law 575 = .ok (.iadd, 1) := by decide +kernel
theorem dL_law_576 : decode cL_law 576 = .ok (.iaload, 1) := by decide +kernel
theorem dL_law_577 : decode cL_law 577 = .ok (.aload_n 0, 1) := by decide +kernel
theorem dL_law_578 : decode cL_law 578 = .ok (.iload_n 3, 1) := by decide +kernel
theorem dL_law_579 : decode cL_law 579 = .ok (.iconst 4, 1) := by decide +kernel
theorem dL_law_580 : decode cL_law 580 = .ok (.iadd, 1) := by decide +kernel
theorem dL_law_581 : decode cL_law 581 = .ok (.iaload, 1) := by decide +kernel
theorem dL_law_582 : decode cL_law 582 = .ok (.aload_n 0, 1) := by decide +kernel
theorem dL_law_583 : decode cL_law 583 = .ok (.iload_n 3, 1) := by decide +kernel
theorem dL_law_584 : decode cL_law 584 = .ok (.iconst 5, 1) := by decide +kernel
theorem dL_law_585 : decode cL_law 585 = .ok (.iadd, 1) := by decide +kernel
theorem dL_law_586 : decode cL_law 586 = .ok (.iaload, 1) := by decide +kernel
theorem dL_law_587 : decode cL_law 587 = .ok (.invokevirtual 77, 3) := by decide +kernel
theorem dL_law_590 : decode cL_law 590 = .ok (.if_icmp .eq 220, 3) := by decide +kernel
theorem dL_law_593 : decode cL_law 593 = .ok (.iconst 0, 1) := by decide +kernel
theorem dL_law_594 : decode cL_law 594 = .ok (.ireturn, 1) := by decide +kernel
theorem dL_law_595 : decode cL_law 595 = .ok (.aload_n 1, 1) := by decide +kernel
theorem dL_law_596 : decode cL_law 596 = .ok (.aload_n 0, 1) := by decide +kernel
theorem dL_law_597 : decode cL_law 597 = .ok (.iload_n 3, 1) := by decide +kernel
theorem dL_law_598 : decode cL_law 598 = .ok (.iconst 1, 1) := by decide +kernel
theorem dL_law_599 : decode cL_law 599 = .ok (.iadd, 1) := by decide +kernel
theorem dL_law_600 : decode cL_law 600 = .ok (.iaload, 1) := by decide +kernel
theorem dL_law_601 : decode cL_law 601 = .ok (.aload_n 0, 1) := by decide +kernel
theorem dL_law_602 : decode cL_law 602 = .ok (.iload_n 3, 1) := by decide +kernel
theorem dL_law_603 : decode cL_law 603 = .ok (.iconst 2, 1) := by decide +kernel
theorem dL_law_604 : decode cL_law 604 = .ok (.iadd, 1) := by decide +kernel
theorem dL_law_605 : decode cL_law 605 = .ok (.iaload, 1) := by decide +kernel
theorem dL_law_606 : decode cL_law 606 = .ok (.aload_n 0, 1) := by decide +kernel
theorem dL_law_607 : decode cL_law 607 = .ok (.iload_n 3, 1) := by decide +kernel
theorem dL_law_608 : decode cL_law 608 = .ok (.iconst 3, 1) := by decide +kernel
theorem dL_law_609 : decode cL_law 609 = .ok (.iadd, 1) := by decide +kernel
theorem dL_law_610 : decode cL_law 610 = .ok (.iaload, 1) := by decide +kernel
theorem dL_law_611 : decode cL_law 611 = .ok (.aload_n 0, 1) := by decide +kernel
theorem dL_law_612 : decode cL_law 612 = .ok (.iload_n 3, 1) := by decide +kernel
theorem dL_law_613 : decode cL_law 613 = .ok (.iconst 4, 1) := by decide +kernel
theorem dL_law_614 : decode cL_law 614 = .ok (.iadd, 1) := by decide +kernel
theorem dL_law_615 : decode cL_law 615 = .ok (.iaload, 1) := by decide +kernel
theorem dL_law_616 : decode cL_law 616 = .ok (.invokevirtual 78, 3) := by decide +kernel
theorem dL_law_619 : decode cL_law 619 = .ok (.aload_n 2, 1) := by decide +kernel
theorem dL_law_620 : decode cL_law 620 = .ok (.aload_n 0, 1) := by decide +kernel
theorem dL_law_621 : decode cL_law 621 = .ok (.iload_n 3, 1) := by decide +kernel
theorem dL_law_622 : decode cL_law 622 = .ok (.iconst 1, 1) := by decide +kernel
theorem dL_law_623 : decode cL_law 623 = .ok (.iadd, 1) := by decide +kernel
theorem dL_law_624 : decode cL_law 624 = .ok (.iaload, 1) := by decide +kernel
theorem dL_law_625 : decode cL_law 625 = .ok (.aload_n 0, 1) := by decide +kernel
theorem dL_law_626 : decode cL_law 626 = .ok (.iload_n 3, 1) := by decide +kernel
theorem dL_law_627 : decode cL_law 627 = .ok (.iconst 2, 1) := by decide +kernel
theorem dL_law_628 : decode cL_law 628 = .ok (.iadd, 1) := by decide +kernel
theorem dL_law_629 : decode cL_law 629 = .ok (.iaload, 1) := by decide +kernel
theorem dL_law_630 : decode cL_law 630 = .ok (.aload_n 0, 1) := by decide +kernel
theorem dL_law_631 : decode cL_law 631 = .ok (.iload_n 3, 1) := by decide +kernel
theorem dL_law_632 : decode cL_law 632 = .ok (.iconst 3, 1) := by decide +kernel
theorem dL_law_633 : decode cL_law 633 = .ok (.iadd, 1) := by decide +kernel
theorem dL_law_634 : decode cL_law 634 = .ok (.iaload, 1) := by decide +kernel
theorem dL_law_635 : decode cL_law 635 = .ok (.aload_n 0, 1) := by decide +kernel
theorem dL_law_636 : decode cL_law 636 = .ok (.iload_n 3, 1) := by decide +kernel
theorem dL_law_637 : decode cL_law 637 = .ok (.iconst 4, 1) := by decide +kernel
theorem dL_law_638 : decode cL_law 638 = .ok (.iadd, 1) := by decide +kernel
theorem dL_law_639 : decode cL_law 639 = .ok (.iaload, 1) := by decide +kernel
theorem dL_law_640 : decode cL_law 640 = .ok (.invokevirtual 82, 3) := by decide +kernel
theorem dL_law_643 : decode cL_law 643 = .ok (.if_icmp .eq 167, 3) := by decide +kernel
theorem dL_law_646 : decode cL_law 646 = .ok (.iconst 0, 1) := by decide +kernel
theorem dL_law_647 : decode cL_law 647 = .ok (.ireturn, 1) := by decide +kernel
theorem dL_law_648 : decode cL_law 648 = .ok (.aload_n 1, 1) := by decide +kernel
theorem dL_law_649 : decode cL_law 649 = .ok (.invokevirtual 83, 3) := by decide +kernel
theorem dL_law_652 : decode cL_law 652 = .ok (.aload_n 2, 1) := by decide +kernel
theorem dL_law_653 : decode cL_law 653 = .ok (.invokevirtual 86, 3) := by decide +kernel
theorem dL_law_656 : decode cL_law 656 = .ok (.if_icmp .eq 154, 3) := by decide +kernel
theorem dL_law_659 : decode cL_law 659 = .ok (.iconst 0, 1) := by decide +kernel
theorem dL_law_660 : decode cL_law 660 = .ok (.ireturn, 1) := by decide +kernel
theorem dL_law_661 : decode cL_law 661 = .ok (.aload_n 1, 1) := by decide +kernel
theorem dL_law_662 : decode cL_law 662 = .ok (.aload_n 0, 1) := by decide +kernel
theorem dL_law_663 : decode cL_law 663 = .ok (.iload_n 3, 1) := by decide +kernel
theorem dL_law_664 : decode cL_law 664 = .ok (.iconst 1, 1) := by decide +kernel
theorem dL_law_665 : decode cL_law 665 = .ok (.iadd, 1) := by decide +kernel
theorem dL_law_666 : decode cL_law 666 = .ok (.iaload, 1) := by decide +kernel
theorem dL_law_667 : decode cL_law 667 = .ok (.invokevirtual 87, 3) := by decide +kernel
theorem dL_law_670 : decode cL_law 670 = .ok (.aload_n 2, 1) := by decide +kernel
theorem dL_law_671 : decode cL_law 671 = .ok (.aload_n 0, 1) := by decide +kernel
theorem dL_law_672 : decode cL_law 672 = .ok (.iload_n 3, 1) := by decide +kernel
theorem dL_law_673 : decode cL_law 673 = .ok (.iconst 1, 1) := by decide +kernel
theorem dL_law_674 : decode cL_law 674 = .ok (.iadd, 1) := by decide +kernel
theorem dL_law_675 : decode cL_law 675 = .ok (.iaload, 1) := by decide +kernel
theorem dL_law_676 : decode cL_law 676 = .ok (.invokevirtual 90, 3) := by decide +kernel
theorem dL_law_679 : decode cL_law 679 = .ok (.if_icmp .eq 131, 3) := by decide +kernel
theorem dL_law_682 : decode cL_law 682 = .ok (.iconst 0, 1) := by decide +kernel
theorem dL_law_683 : decode cL_law 683 = .ok (.ireturn, 1) := by decide +kernel
theorem dL_law_684 : decode cL_law 684 = .ok (.aload_n 1, 1) := by decide +kernel
theorem dL_law_685 : decode cL_law 685 = .ok (.aload_n 0, 1) := by decide +kernel
theorem dL_law_686 : decode cL_law 686 = .ok (.iload_n 3, 1) := by decide +kernel
theorem dL_law_687 : decode cL_law 687 = .ok (.iconst 1, 1) := by decide +kernel
theorem dL_law_688 : decode cL_law 688 = .ok (.iadd, 1) := by decide +kernel
theorem dL_law_689 : decode cL_law 689 = .ok (.iaload, 1) := by decide +kernel
theorem dL_law_690 : decode cL_law 690 = .ok (.aload_n 0, 1) := by decide +kernel
theorem dL_law_691 : decode cL_law 691 = .ok (.iload_n 3, 1) := by decide +kernel
theorem dL_law_692 : decode cL_law 692 = .ok (.iconst 2, 1) := by decide +kernel
theorem dL_law_693 : decode cL_law 693 = .ok (.iadd, 1) := by decide +kernel
theorem dL_law_694 : decode cL_law 694 = .ok (.iaload, 1) := by decide +kernel
theorem dL_law_695 : decode cL_law 695 = .ok (.aload_n 0, 1) := by decide +kernel
theorem dL_law_696 : decode cL_law 696 = .ok (.iload_n 3, 1) := by decide +kernel
theorem dL_law_697 : decode cL_law 697 = .ok (.iconst 3, 1) := by decide +kernel
theorem dL_law_698 : decode cL_law 698 = .ok (.iadd, 1) := by decide +kernel
theorem dL_law_699 : decode cL_law 699 = .ok (.iaload, 1) := by decide +kernel
theorem dL_law_700 : decode cL_law 700 = .ok (.invokevirtual 91, 3) := by decide +kernel
theorem dL_law_703 : decode cL_law 703 = .ok (.aload_n 2, 1) := by decide +kernel
theorem dL_law_704 : decode cL_law 704 = .ok (.aload_n 0, 1) := by decide +kernel
theorem dL_law_705 : decode cL_law 705 = .ok (.iload_n 3, 1) := by decide +kernel
theorem dL_law_706 : decode cL_law 706 = .ok (.iconst 1, 1) := by decide +kernel
theorem dL_law_707 : decode cL_law 707 = .ok (.iadd, 1) := by decide +kernel
theorem dL_law_708 : decode cL_law 708 = .ok (.iaload, 1) := by decide +kernel
theorem dL_law_709 : decode cL_law 709 = .ok (.aload_n 0, 1) := by decide +kernel
theorem dL_law_710 : decode cL_law 710 = .ok (.iload_n 3, 1) := by decide +kernel
theorem dL_law_711 : decode cL_law 711 = .ok (.iconst 2, 1) := by decide +kernel
theorem dL_law_712 : decode cL_law 712 = .ok (.iadd, 1) := by decide +kernel
theorem dL_law_713 : decode cL_law 713 = .ok (.iaload, 1) := by decide +kernel
theorem dL_law_714 : decode cL_law 714 = .ok (.aload_n 0, 1) := by decide +kernel
theorem dL_law_715 : decode cL_law 715 = .ok (.iload_n 3, 1) := by decide +kernel
theorem dL_law_716 : decode cL_law 716 = .ok (.iconst 3, 1) := by decide +kernel
theorem dL_law_717 : decode cL_law 717 = .ok (.iadd, 1) := by decide +kernel
theorem dL_law_718 : decode cL_law 718 = .ok (.iaload, 1) := by decide +kernel
theorem dL_law_719 : decode cL_law 719 = .ok (.invokevirtual 94, 3) := by decide +kernel
theorem dL_law_722 : decode cL_law 722 = .ok (.if_icmp .eq 88, 3) := by decide +kernel
theorem dL_law_725 : decode cL_law 725 = .ok (.iconst 0, 1) := by decide +kernel
theorem dL_law_726 : decode cL_law 726 = .ok (.ireturn, 1) := by decide +kernel
theorem dL_law_727 : decode cL_law 727 = .ok (.aload_n 1, 1) := by decide +kernel
theorem dL_law_728 : decode cL_law 728 = .ok (.aload_n 0, 1) := by decide +kernel
theorem dL_law_729 : decode cL_law 729 = .ok (.iload_n 3, 1) := by decide +kernel
theorem dL_law_730 : decode cL_law 730 = .ok (.iconst 1, 1) := by decide +kernel
theorem dL_law_731 : decode cL_law 731 = .ok (.iadd, 1) := by decide +kernel
theorem dL_law_732 : decode cL_law 732 = .ok (.iaload, 1) := by decide +kernel
theorem dL_law_733 : decode cL_law 733 = .ok (.invokevirtual 95, 3) := by decide +kernel
theorem dL_law_736 : decode cL_law 736 = .ok (.aload_n 2, 1) := by decide +kernel
theorem dL_law_737 : decode cL_law 737 = .ok (.aload_n 0, 1) := by decide +kernel
theorem dL_law_738 : decode cL_law 738 = .ok (.iload_n 3, 1) := by decide +kernel
theorem dL_law_739 : decode cL_law 739 = .ok (.iconst 1, 1) := by decide +kernel
theorem dL_law_740 : decode cL_law 740 = .ok (.iadd, 1) := by decide +kernel
theorem dL_law_741 : decode cL_law 741 = .ok (.iaload, 1) := by decide +kernel
theorem dL_law_742 : decode cL_law 742 = .ok (.invokevirtual 98, 3) := by decide +kernel
theorem dL_law_745 : decode cL_law 745 = .ok (.if_icmp .eq 65, 3) := by decide +kernel
theorem dL_law_748 : decode cL_law 748 = .ok (.iconst 0, 1) := by decide +kernel
theorem dL_law_749 : decode cL_law 749 = .ok (.ireturn, 1) := by decide +kernel
theorem dL_law_750 : decode cL_law 750 = .ok (.aload_n 1, 1) := by decide +kernel
theorem dL_law_751 : decode cL_law 751 = .ok (.aload_n 0, 1) := by decide +kernel
theorem dL_law_752 : decode cL_law 752 = .ok (.iload_n 3, 1) := by decide +kernel
theorem dL_law_753 : decode cL_law 753 = .ok (.iconst 1, 1) := by decide +kernel
theorem dL_law_754 : decode cL_law 754 = .ok (.iadd, 1) := by decide +kernel
theorem dL_law_755 : decode cL_law 755 = .ok (.iaload, 1) := by decide +kernel
theorem dL_law_756 : decode cL_law 756 = .ok (.invokevirtual 99, 3) := by decide +kernel
theorem dL_law_759 : decode cL_law 759 = .ok (.aload_n 2, 1) := by decide +kernel
theorem dL_law_760 : decode cL_law 760 = .ok (.aload_n 0, 1) := by decide +kernel
theorem dL_law_761 : decode cL_law 761 = .ok (.iload_n 3, 1) := by decide +kernel
theorem dL_law_762 : decode cL_law 762 = .ok (.iconst 1, 1) := by decide +kernel
theorem dL_law_763 : decode cL_law 763 = .ok (.iadd, 1) := by decide +kernel
theorem dL_law_764 : decode cL_law 764 = .ok (.iaload, 1) := by decide +kernel
theorem dL_law_765 : decode cL_law 765 = .ok (.invokevirtual 102, 3) := by decide +kernel
theorem dL_law_768 : decode cL_law 768 = .ok (.if_icmp .eq 42, 3) := by decide +kernel
theorem dL_law_771 : decode cL_law 771 = .ok (.iconst 0, 1) := by decide +kernel
theorem dL_law_772 : decode cL_law 772 = .ok (.ireturn, 1) := by decide +kernel
theorem dL_law_773 : decode cL_law 773 = .ok (.aload_n 1, 1) := by decide +kernel
theorem dL_law_774 : decode cL_law 774 = .ok (.aload_n 0, 1) := by decide +kernel
theorem dL_law_775 : decode cL_law 775 = .ok (.iload_n 3, 1) := by decide +kernel
theorem dL_law_776 : decode cL_law 776 = .ok (.iconst 1, 1) := by decide +kernel
theorem dL_law_777 : decode cL_law 777 = .ok (.iadd, 1) := by decide +kernel
theorem dL_law_778 : decode cL_law 778 = .ok (.iaload, 1) := by decide +kernel
theorem dL_law_779 : decode cL_law 779 = .ok (.invokevirtual 103, 3) := by decide +kernel
theorem dL_law_782 : decode cL_law 782 = .ok (.aload_n 2, 1) := by decide +kernel
theorem dL_law_783 : decode cL_law 783 = .ok (.aload_n 0, 1) := by decide +kernel
theorem dL_law_784 : decode cL_law 784 = .ok (.iload_n 3, 1) := by decide +kernel
theorem dL_law_785 : decode cL_law 785 = .ok (.iconst 1, 1) := by decide +kernel
theorem dL_law_786 : decode cL_law 786 = .ok (.iadd, 1) := by decide +kernel
theorem dL_law_787 : decode cL_law 787 = .ok (.iaload, 1) := by decide +kernel
theorem dL_law_788 : decode cL_law 788 = .ok (.invokevirtual 106, 3) := by decide +kernel
theorem dL_law_791 : decode cL_law 791 = .ok (.if_icmp .eq 19, 3) := by decide +kernel
theorem dL_law_794 : decode cL_law 794 = .ok (.iconst 0, 1) := by decide +kernel
theorem dL_law_795 : decode cL_law 795 = .ok (.ireturn, 1) := by decide +kernel
theorem dL_law_796 : decode cL_law 796 = .ok (.aload_n 1, 1) := by decide +kernel
theorem dL_law_797 : decode cL_law 797 = .ok (.invokevirtual 107, 3) := by decide +kernel
theorem dL_law_800 : decode cL_law 800 = .ok (.aload_n 2, 1) := by decide +kernel
theorem dL_law_801 : decode cL_law 801 = .ok (.invokevirtual 111, 3) := by decide +kernel
theorem dL_law_804 : decode cL_law 804 = .ok (.lcmp, 1) := by decide +kernel
theorem dL_law_805 : decode cL_law 805 = .ok (.ifCond .eq 5, 3) := by decide +kernel
theorem dL_law_808 : decode cL_law 808 = .ok (.iconst 0, 1) := by decide +kernel
theorem dL_law_809 : decode cL_law 809 = .ok (.ireturn, 1) := by decide +kernel
theorem dL_law_810 : decode cL_law 810 = .ok (.iinc 3 6, 3) := by decide +kernel
theorem dL_law_813 : decode cL_law 813 = .ok (.goto (-795), 3) := by decide +kernel
theorem dL_law_816 : decode cL_law 816 = .ok (.iconst 1, 1) := by decide +kernel
theorem dL_law_817 : decode cL_law 817 = .ok (.ireturn, 1) := by decide +kernel
