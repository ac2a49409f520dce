theorem dX0_init_0 : decode cX0_init 0 = .ok (.aload_n 0, 1) := by decide +kernel
theorem dX0_init_1 : decode cX0_init 1 = .ok (.invokespecial 1, 3) := by decide +kernel
theorem dX0_init_4 : decode cX0_init 4 = .ok (.return_, 1) := by decide +kernel
theorem dX0_markOf_0 : decode cX0_markOf 0 = .ok (.aload_n 1, 1) := by decide +kernel
theorem dX0_markOf_1 : decode cX0_markOf 1 = .ok (.dup, 1) := by decide +kernel
theorem dX0_markOf_2 : decode cX0_markOf 2 = .ok (.getfield 7, 3) := by decide +kernel
theorem dX0_markOf_5 : decode cX0_markOf 5 = .ok (.lconst 1, 1) := by decide +kernel
theorem dX0_markOf_6 : decode cX0_markOf 6 = .ok (.ladd, 1) := by decide +kernel
theorem dX0_markOf_7 : decode cX0_markOf 7 = .ok (.putfield 7, 3) := by decide +kernel
theorem dX0_markOf_10 : decode cX0_markOf 10 = .ok (.aload_n 1, 1) := by decide +kernel
theorem dX0_markOf_11 : decode cX0_markOf 11 = .ok (.getfield 13, 3) := by decide +kernel
theorem dX0_markOf_14 : decode cX0_markOf 14 = .ok (.getfield 17, 3) := by decide +kernel
theorem dX0_markOf_17 : decode cX0_markOf 17 = .ok (.iload_n 2, 1) := by decide +kernel
theorem dX0_markOf_18 : decode cX0_markOf 18 = .ok (.iaload, 1) := by decide +kernel
theorem dX0_markOf_19 : decode cX0_markOf 19 = .ok (.ireturn, 1) := by decide +kernel
theorem dX1_init_0 : decode cX1_init 0 = .ok (.aload_n 0, 1) := by decide +kernel
theorem dX1_init_1 : decode cX1_init 1 = .ok (.invokespecial 3, 3) := by decide +kernel
theorem dX1_init_4 : decode cX1_init 4 = .ok (.aload_n 0, 1) := by decide +kernel
theorem dX1_init_5 : decode cX1_init 5 = .ok (.bipush 6, 2) := by decide +kernel
theorem dX1_init_7 : decode cX1_init 7 = .ok (.newarray .int, 2) := by decide +kernel
theorem dX1_init_9 : decode cX1_init 9 = .ok (.putfield 9, 3) := by decide +kernel
theorem dX1_init_12 : decode cX1_init 12 = .ok (.aload_n 0, 1) := by decide +kernel
theorem dX1_init_13 : decode cX1_init 13 = .ok (.bipush 8, 2) := by decide +kernel
theorem dX1_init_15 : decode cX1_init 15 = .ok (.newarray .int, 2) := by decide +kernel
theorem dX1_init_17 : decode cX1_init 17 = .ok (.putfield 15, 3) := by decide +kernel
theorem dX1_init_20 : decode cX1_init 20 = .ok (.aload_n 0, 1) := by decide +kernel
theorem dX1_init_21 : decode cX1_init 21 = .ok (.bipush 8, 2) := by decide +kernel
theorem dX1_init_23 : decode cX1_init 23 = .ok (.newarray .int, 2) := by decide +kernel
theorem dX1_init_25 : decode cX1_init 25 = .ok (.putfield 18, 3) := by decide +kernel
theorem dX1_init_28 : decode cX1_init 28 = .ok (.aload_n 0, 1) := by decide +kernel
theorem dX1_init_29 : decode cX1_init 29 = .ok (.bipush 48, 2) := by decide +kernel
theorem dX1_init_31 : decode cX1_init 31 = .ok (.newarray .int, 2) := by decide +kernel
theorem dX1_init_33 : decode cX1_init 33 = .ok (.putfield 21, 3) := by decide +kernel
theorem dX1_init_36 : decode cX1_init 36 = .ok (.aload_n 0, 1) := by decide +kernel
theorem dX1_init_37 : decode cX1_init 37 = .ok (.bipush 48, 2) := by decide +kernel
theorem dX1_init_39 : decode cX1_init 39 = .ok (.newarray .int, 2) := by decide +kernel
theorem dX1_init_41 : decode cX1_init 41 = .ok (.putfield 24, 3) := by decide +kernel
theorem dX1_init_44 : decode cX1_init 44 = .ok (.aload_n 0, 1) := by decide +kernel
theorem dX1_init_45 : decode cX1_init 45 = .ok (.bipush 8, 2) := by decide +kernel
theorem dX1_init_47 : decode cX1_init 47 = .ok (.newarray .int, 2) := by decide +kernel
theorem dX1_init_49 : decode cX1_init 49 = .ok (.putfield 27, 3) := by decide +kernel
theorem dX1_init_52 : decode cX1_init 52 = .ok (.aload_n 0, 1) := by decide +kernel
theorem dX1_init_53 : decode cX1_init 53 = .ok (.bipush 8, 2) := by decide +kernel
theorem dX1_init_55 : decode cX1_init 55 = .ok (.newarray .int, 2) := by decide +kernel
theorem dX1_init_57 : decode cX1_init 57 = .ok (.putfield 30, 3) := by decide +kernel
theorem dX1_init_60 : decode cX1_init 60 = .ok (.aload_n 0, 1) := by decide +kernel
theorem dX1_init_61 : decode cX1_init 61 = .ok (.bipush 8, 2) := by decide +kernel
theorem dX1_init_63 : decode cX1_init 63 = .ok (.newarray .int, 2) := by decide +kernel
theorem dX1_init_65 : decode cX1_init 65 = .ok (.putfield 33, 3) := by decide +kernel
theorem dX1_init_68 : decode cX1_init 68 = .ok (.aload_n 0, 1) := by decide +kernel
theorem dX1_init_69 : decode cX1_init 69 = .ok (.bipush 8, 2) := by decide +kernel
theorem dX1_init_71 : decode cX1_init 71 = .ok (.newarray .int, 2) := by decide +kernel
theorem dX1_init_73 : decode cX1_init 73 = .ok (.putfield 36, 3) := by decide +kernel
theorem dX1_init_76 : decode cX1_init 76 = .ok (.return_, 1) := by decide +kernel
theorem dX1_beginAnew_0 : decode cX1_beginAnew 0 = .ok (.aload_n 0, 1) := by decide +kernel
theorem dX1_beginAnew_1 : decode cX1_beginAnew 1 = .ok (.iconst 0, 1) := by decide +kernel
theorem dX1_beginAnew_2 : decode cX1_beginAnew 2 = .ok (.putfield 39, 3) := by decide +kernel
theorem dX1_beginAnew_5 : decode cX1_beginAnew 5 = .ok (.aload_n 0, 1) := by decide +kernel
theorem dX1_beginAnew_6 : decode cX1_beginAnew 6 = .ok (.iconst 0, 1) := by decide +kernel
theorem dX1_beginAnew_7 : decode cX1_beginAnew 7 = .ok (.putfield 43, 3) := by decide +kernel
theorem dX1_beginAnew_10 : decode cX1_beginAnew 10 = .ok (.aload_n 0, 1) := by decide +kernel
theorem dX1_beginAnew_11 : decode cX1_beginAnew 11 = .ok (.iconst 0, 1) := by decide +kernel
theorem dX1_beginAnew_12 : decode cX1_beginAnew 12 = .ok (.putfield 46, 3) := by decide +kernel
theorem dX1_beginAnew_15 : decode cX1_beginAnew 15 = .ok (.aload_n 0, 1) := by decide +kernel
theorem dX1_beginAnew_16 : decode cX1_beginAnew 16 = .ok (.bipush 8, 2) := by decide +kernel
theorem dX1_beginAnew_18 : decode cX1_beginAnew 18 = .ok (.putfield 49, 3) := by decide +kernel
theorem dX1_beginAnew_21 : decode cX1_beginAnew 21 = .ok (.aload_n 0, 1) := by decide +kernel
theorem dX1_beginAnew_22 : decode cX1_beginAnew 22 = .ok (.bipush 15, 2) := by decide +kernel
theorem dX1_beginAnew_24 : decode cX1_beginAnew 24 = .ok (.putfield 52, 3) := by decide +kernel
theorem dX1_beginAnew_27 : decode cX1_beginAnew 27 = .ok (.aload_n 0, 1) := by decide +kernel
theorem dX1_beginAnew_28 : decode cX1_beginAnew 28 = .ok (.bipush 10, 2) := by decide +kernel
theorem dX1_beginAnew_30 : decode cX1_beginAnew 30 = .ok (.putfield 55, 3) := by decide +kernel
theorem dX1_beginAnew_33 : decode cX1_beginAnew 33 = .ok (.return_, 1) := by decide +kernel
theorem dX1_addSuspect_0 : decode cX1_addSuspect 0 = .ok (.aload_n 0, 1) := by decide +kernel
theorem dX1_addSuspect_1 : decode cX1_addSuspect 1 = .ok (.getfield 9, 3) := by decide +kernel
theorem dX1_addSuspect_4 : decode cX1_addSuspect 4 = .ok (.aload_n 0, 1) := by decide +kernel
theorem dX1_addSuspect_5 : decode cX1_addSuspect 5 = .ok (.getfield 39, 3) := by decide +kernel
theorem dX1_addSuspect_8 : decode cX1_addSuspect 8 = .ok (.iload_n 1, 1) := by decide +kernel
theorem dX1_addSuspect_9 : decode cX1_addSuspect 9 = .ok (.iastore, 1) := by decide +kernel
theorem dX1_addSuspect_10 : decode cX1_addSuspect 10 = .ok (.aload_n 0, 1) := by decide +kernel
theorem dX1_addSuspect_11 : decode cX1_addSuspect 11 = .ok (.dup, 1) := by decide +kernel
theorem dX1_addSuspect_12 : decode cX1_addSuspect 12 = .ok (.getfield 39, 3) := by decide +kernel
theorem dX1_addSuspect_15 : decode cX1_addSuspect 15 = .ok (.iconst 1, 1) := by decide +kernel
theorem dX1_addSuspect_16 : decode cX1_addSuspect 16 = .ok (.iadd, 1) := by decide +kernel
theorem dX1_addSuspect_17 : decode cX1_addSuspect 17 = .ok (.putfield 39, 3) := by decide +kernel
theorem dX1_addSuspect_20 : decode cX1_addSuspect 20 = .ok (.return_, 1) := by decide +kernel
theorem dX1_addFact_0 : decode cX1_addFact 0 = .ok (.aload_n 0, 1) := by decide +kernel
theorem dX1_addFact_1 : decode cX1_addFact 1 = .ok (.getfield 15, 3) := by decide +kernel
theorem dX1_addFact_4 : decode cX1_addFact 4 = .ok (.aload_n 0, 1) := by decide +kernel
theorem dX1_addFact_5 : decode cX1_addFact 5 = .ok (.getfield 43, 3) := by decide +kernel
theorem dX1_addFact_8 : decode cX1_addFact 8 = .ok (.aload_n 1, 1) := by decide +kernel
theorem dX1_addFact_9 : decode cX1_addFact 9 = .ok (.iconst 0, 1) := by decide +kernel
theorem dX1_addFact_10 : decode cX1_addFact 10 = .ok (.iaload, 1) := by decide +kernel
theorem dX1_addFact_11 : decode cX1_addFact 11 = .ok (.iastore, 1) := by decide +kernel
theorem dX1_addFact_12 : decode cX1_addFact 12 = .ok (.aload_n 0, 1) := by decide +kernel
theorem dX1_addFact_13 : decode cX1_addFact 13 = .ok (.getfield 18, 3) := by decide +kernel
theorem dX1_addFact_16 : decode cX1_addFact 16 = .ok (.aload_n 0, 1) := by decide +kernel
theorem dX1_addFact_17 : decode cX1_addFact 17 = .ok (.getfield 43, 3) := by decide +kernel
theorem dX1_addFact_20 : decode cX1_addFact 20 = .ok (.aload_n 1, 1) := by decide +kernel
theorem dX1_addFact_21 : decode cX1_addFact 21 = .ok (.iconst 1, 1) := by decide +kernel
theorem dX1_addFact_22 : decode cX1_addFact 22 = .ok (.iaload, 1) := by decide +kernel
theorem dX1_addFact_23 : decode cX1_addFact 23 = .ok (.iastore, 1) := by decide +kernel
theorem dX1_addFact_24 : decode cX1_addFact 24 = .ok (.iconst 0, 1) := by decide +kernel
theorem dX1_addFact_25 : decode cX1_addFact 25 = .ok (.istore_n 2, 1) := by decide +kernel
theorem dX1_addFact_26 : decode cX1_addFact 26 = .ok (.iload_n 2, 1) := by decide +kernel
theorem dX1_addFact_27 : decode cX1_addFact 27 = .ok (.bipush 6, 2) := by decide +kernel
theorem dX1_addFact_29 : decode cX1_addFact 29 = .ok (.if_icmp .ge 67, 3) := by decide +kernel
theorem dX1_addFact_32 : decode cX1_addFact 32 = .ok (.iload_n 2, 1) := by decide +kernel
theorem dX1_addFact_33 : decode cX1_addFact 33 = .ok (.aload_n 0, 1) := by decide +kernel
theorem dX1_addFact_34 : decode cX1_addFact 34 = .ok (.getfield 39, 3) := by decide +kernel
theorem dX1_addFact_37 : decode cX1_addFact 37 = .ok (.if_icmp .ge 14, 3) := by decide +kernel
theorem dX1_addFact_40 : decode cX1_addFact 40 = .ok (.aload_n 1, 1) := by decide +kernel
theorem dX1_addFact_41 : decode cX1_addFact 41 = .ok (.iconst 2, 1) := by decide +kernel
theorem dX1_addFact_42 : decode cX1_addFact 42 = .ok (.iload_n 2, 1) := by decide +kernel
theorem dX1_addFact_43 : decode cX1_addFact 43 = .ok (.iadd, 1) := by decide +kernel
theorem dX1_addFact_44 : decode cX1_addFact 44 = .ok (.iaload, 1) := by decide +kernel
theorem dX1_addFact_45 : decode cX1_addFact 45 = .ok (.bipush 9, 2) := by decide +kernel
theorem dX1_addFact_47 : decode cX1_addFact 47 = .ok (.isub, 1) := by decide +kernel
theorem dX1_addFact_48 : decode cX1_addFact 48 = .ok (.goto 4, 3) := by decide +kernel
theorem dX1_addFact_51 : decode cX1_addFact 51 = .ok (.iconst 0, 1) := by decide +kernel
theorem dX1_addFact_52 : decode cX1_addFact 52 = .ok (.istore_n 3, 1) := by decide +kernel
theorem dX1_addFact_53 : decode cX1_addFact 53 = .ok (.aload_n 0, 1) := by decide +kernel
theorem dX1_addFact_54 : decode cX1_addFact 54 = .ok (.getfield 21, 3) := by decide +kernel
theorem dX1_addFact_57 : decode cX1_addFact 57 = .ok (.aload_n 0, 1) := by decide +kernel
theorem dX1_addFact_58 : decode cX1_addFact 58 = .ok (.getfield 43, 3) := by decide +kernel
theorem dX1_addFact_61 : decode cX1_addFact 61 = .ok (.bipush 6, 2) := by decide +kernel
theorem dX1_addFact_63 : decode cX1_addFact 63 = .ok (.imul, 1) := by decide +kernel
theorem dX1_addFact_64 : decode cX1_addFact 64 = .ok (.iload_n 2, 1) := by decide +kernel
theorem dX1_addFact_65 : decode cX1_addFact 65 = .ok (.iadd, 1) := by decide +kernel
theorem dX1_addFact_66 : decode cX1_addFact 66 = .ok (.iload_n 3, 1) := by decide +kernel
theorem dX1_addFact_67 : decode cX1_addFact 67 = .ok (.iastore, 1) := by decide +kernel
theorem dX1_addFact_68 : decode cX1_addFact 68 = .ok (.aload_n 0, 1) := by decide +kernel
theorem dX1_addFact_69 : decode cX1_addFact 69 = .ok (.getfield 24, 3) := by decide +kernel
theorem dX1_addFact_72 : decode cX1_addFact 72 = .ok (.aload_n 0, 1) := by decide +kernel
theorem dX1_addFact_73 : decode cX1_addFact 73 = .ok (.getfield 43, 3) := by decide +kernel
theorem dX1_addFact_76 : decode cX1_addFact 76 = .ok (.bipush 6, 2) := by decide +kernel
theorem dX1_addFact_78 : decode cX1_addFact 78 = .ok (.imul, 1) := by decide +kernel
theorem dX1_addFact_79 : decode cX1_addFact 79 = .ok (.iload_n 2, 1) := by decide +kernel
theorem dX1_addFact_80 : decode cX1_addFact 80 = .ok (.iadd, 1) := by decide +kernel
theorem dX1_addFact_81 : decode cX1_addFact 81 = .ok (.iload_n 3, 1) := by decide +kernel
theorem dX1_addFact_82 : decode cX1_addFact 82 = .ok (.aload_n 1, 1) := by decide +kernel
theorem dX1_addFact_83 : decode cX1_addFact 83 = .ok (.iconst 1, 1) := by decide +kernel
theorem dX1_addFact_84 : decode cX1_addFact 84 = .ok (.iaload, 1) := by decide +kernel
theorem dX1_addFact_85 : decode cX1_addFact 85 = .ok (.imul, 1) := by decide +kernel
theorem dX1_addFact_86 : decode cX1_addFact 86 = .ok (.bipush 10, 2) := by decide +kernel
theorem dX1_addFact_88 : decode cX1_addFact 88 = .ok (.idiv, 1) := by decide +kernel
theorem dX1_addFact_89 : decode cX1_addFact 89 = .ok (.iastore, 1) := by decide +kernel
theorem dX1_addFact_90 : decode cX1_addFact 90 = .ok (.iinc 2 1, 3) := by decide +kernel
theorem dX1_addFact_93 : decode cX1_addFact 93 = .ok (.goto (-67), 3) := by decide +kernel
theorem dX1_addFact_96 : decode cX1_addFact 96 = .ok (.aload_n 0, 1) := by decide +kernel
theorem dX1_addFact_97 : decode cX1_addFact 97 = .ok (.dup, 1) := by decide +kernel
theorem dX1_addFact_98 : decode cX1_addFact 98 = .ok (.getfield 43, 3) := by decide +kernel
theorem dX1_addFact_101 : decode cX1_addFact 101 = .ok (.iconst 1, 1) := by decide +kernel
theorem dX1_addFact_102 : decode cX1_addFact 102 = .ok (.iadd, 1) := by decide +kernel
theorem dX1_addFact_103 : decode cX1_addFact 103 = .ok (.putfield 43, 3) := by decide +kernel
theorem dX1_addFact_106 : decode cX1_addFact 106 = .ok (.return_, 1) := by decide +kernel
theorem dX1_addAlibi_0 : decode cX1_addAlibi 0 = .ok (.aload_n 0, 1) := by decide +kernel
theorem dX1_addAlibi_1 : decode cX1_addAlibi 1 = .ok (.getfield 27, 3) := by decide +kernel
theorem dX1_addAlibi_4 : decode cX1_addAlibi 4 = .ok (.aload_n 0, 1) := by decide +kernel
theorem dX1_addAlibi_5 : decode cX1_addAlibi 5 = .ok (.getfield 46, 3) := by decide +kernel
theorem dX1_addAlibi_8 : decode cX1_addAlibi 8 = .ok (.aload_n 1, 1) := by decide +kernel
theorem dX1_addAlibi_9 : decode cX1_addAlibi 9 = .ok (.iconst 0, 1) := by decide +kernel
theorem dX1_addAlibi_10 : decode cX1_addAlibi 10 = .ok (.iaload, 1) := by decide +kernel
theorem dX1_addAlibi_11 : decode cX1_addAlibi 11 = .ok (.iastore, 1) := by decide +kernel
theorem dX1_addAlibi_12 : decode cX1_addAlibi 12 = .ok (.aload_n 0, 1) := by decide +kernel
theorem dX1_addAlibi_13 : decode cX1_addAlibi 13 = .ok (.getfield 30, 3) := by decide +kernel
theorem dX1_addAlibi_16 : decode cX1_addAlibi 16 = .ok (.aload_n 0, 1) := by decide +kernel
theorem dX1_addAlibi_17 : decode cX1_addAlibi 17 = .ok (.getfield 46, 3) := by decide +kernel
theorem dX1_addAlibi_20 : decode cX1_addAlibi 20 = .ok (.aload_n 1, 1) := by decide +kernel
theorem dX1_addAlibi_21 : decode cX1_addAlibi 21 = .ok (.iconst 1, 1) := by decide +kernel
theorem dX1_addAlibi_22 : decode cX1_addAlibi 22 = .ok (.iaload, 1) := by decide +kernel
theorem dX1_addAlibi_23 : decode cX1_addAlibi 23 = .ok (.iastore, 1) := by decide +kernel
theorem dX1_addAlibi_24 : decode cX1_addAlibi 24 = .ok (.aload_n 0, 1) := by decide +kernel
theorem dX1_addAlibi_25 : decode cX1_addAlibi 25 = .ok (.getfield 33, 3) := by decide +kernel
theorem dX1_addAlibi_28 : decode cX1_addAlibi 28 = .ok (.aload_n 0, 1) := by decide +kernel
theorem dX1_addAlibi_29 : decode cX1_addAlibi 29 = .ok (.getfield 46, 3) := by decide +kernel
theorem dX1_addAlibi_32 : decode cX1_addAlibi 32 = .ok (.aload_n 1, 1) := by decide +kernel
theorem dX1_addAlibi_33 : decode cX1_addAlibi 33 = .ok (.iconst 2, 1) := by decide +kernel
theorem dX1_addAlibi_34 : decode cX1_addAlibi 34 = .ok (.iaload, 1) := by decide +kernel
theorem dX1_addAlibi_35 : decode cX1_addAlibi 35 = .ok (.iastore, 1) := by decide +kernel
theorem dX1_addAlibi_36 : decode cX1_addAlibi 36 = .ok (.aload_n 0, 1) := by decide +kernel
theorem dX1_addAlibi_37 : decode cX1_addAlibi 37 = .ok (.getfield 36, 3) := by decide +kernel
theorem dX1_addAlibi_40 : decode cX1_addAlibi 40 = .ok (.aload_n 0, 1) := by decide +kernel
theorem dX1_addAlibi_41 : decode cX1_addAlibi 41 = .ok (.getfield 46, 3) := by decide +kernel
theorem dX1_addAlibi_44 : decode cX1_addAlibi 44 = .ok (.aload_n 1, 1) := by decide +kernel
theorem dX1_addAlibi_45 : decode cX1_addAlibi 45 = .ok (.iconst 3, 1) := by decide +kernel
theorem dX1_addAlibi_46 : decode cX1_addAlibi 46 = .ok (.iaload, 1) := by decide +kernel
theorem dX1_addAlibi_47 : decode cX1_addAlibi 47 = .ok (.iastore, 1) := by decide +kernel
theorem dX1_addAlibi_48 : decode cX1_addAlibi 48 = .ok (.aload_n 0, 1) := by decide +kernel
theorem dX1_addAlibi_49 : decode cX1_addAlibi 49 = .ok (.dup, 1) := by decide +kernel
theorem dX1_addAlibi_50 : decode cX1_addAlibi 50 = .ok (.getfield 46, 3) := by decide +kernel
theorem dX1_addAlibi_53 : decode cX1_addAlibi 53 = .ok (.iconst 1, 1) := by decide +kernel
theorem dX1_addAlibi_54 : decode cX1_addAlibi 54 = .ok (.iadd, 1) := by decide +kernel
theorem dX1_addAlibi_55 : decode cX1_addAlibi 55 = .ok (.putfield 46, 3) := by decide +kernel
theorem dX1_addAlibi_58 : decode cX1_addAlibi 58 = .ok (.return_, 1) := by decide +kernel
theorem dX1_costOf_0 : decode cX1_costOf 0 = .ok (.iconst 0, 1) := by decide +kernel
theorem dX1_costOf_1 : decode cX1_costOf 1 = .ok (.istore_n 2, 1) := by decide +kernel
theorem dX1_costOf_2 : decode cX1_costOf 2 = .ok (.iconst 0, 1) := by decide +kernel
theorem dX1_costOf_3 : decode cX1_costOf 3 = .ok (.istore_n 3, 1) := by decide +kernel
theorem dX1_costOf_4 : decode cX1_costOf 4 = .ok (.iload_n 3, 1) := by decide +kernel
theorem dX1_costOf_5 : decode cX1_costOf 5 = .ok (.aload_n 0, 1) := by decide +kernel
theorem dX1_costOf_6 : decode cX1_costOf 6 = .ok (.getfield 43, 3) := by decide +kernel
theorem dX1_costOf_9 : decode cX1_costOf 9 = .ok (.if_icmp .ge 27, 3) := by decide +kernel
theorem dX1_costOf_12 : decode cX1_costOf 12 = .ok (.iload_n 1, 1) := by decide +kernel
theorem dX1_costOf_13 : decode cX1_costOf 13 = .ok (.iload_n 3, 1) := by decide +kernel
theorem dX1_costOf_14 : decode cX1_costOf 14 = .ok (.invokestatic 58, 3) := by decide +kernel
theorem dX1_costOf_17 : decode cX1_costOf 17 = .ok (.iconst 1, 1) := by decide +kernel
theorem dX1_costOf_18 : decode cX1_costOf 18 = .ok (.if_icmp .ne 12, 3) := by decide +kernel
theorem dX1_costOf_21 : decode cX1_costOf 21 = .ok (.iload_n 2, 1) := by decide +kernel
theorem dX1_costOf_22 : decode cX1_costOf 22 = .ok (.aload_n 0, 1) := by decide +kernel
theorem dX1_costOf_23 : decode cX1_costOf 23 = .ok (.getfield 15, 3) := by decide +kernel
theorem dX1_costOf_26 : decode cX1_costOf 26 = .ok (.iload_n 3, 1) := by decide +kernel
theorem dX1_costOf_27 : decode cX1_costOf 27 = .ok (.iaload, 1) := by decide +kernel
theorem dX1_costOf_28 : decode cX1_costOf 28 = .ok (.iadd, 1) := by decide +kernel
theorem dX1_costOf_29 : decode cX1_costOf 29 = .ok (.istore_n 2, 1) := by decide +kernel
theorem dX1_costOf_30 : decode cX1_costOf 30 = .ok (.iinc 3 1, 3) := by decide +kernel
theorem dX1_costOf_33 : decode cX1_costOf 33 = .ok (.goto (-29), 3) := by decide +kernel
theorem dX1_costOf_36 : decode cX1_costOf 36 = .ok (.iload_n 2, 1) := by decide +kernel
theorem dX1_costOf_37 : decode cX1_costOf 37 = .ok (.ireturn, 1) := by decide +kernel
theorem dX1_doClash_0 : decode cX1_doClash 0 = .ok (.aload_n 0, 1) := by decide +kernel
theorem dX1_doClash_1 : decode cX1_doClash 1 = .ok (.getfield 27, 3) := by decide +kernel
theorem dX1_doClash_4 : decode cX1_doClash 4 = .ok (.iload_n 1, 1) := by decide +kernel
theorem dX1_doClash_5 : decode cX1_doClash 5 = .ok (.iaload, 1) := by decide +kernel
theorem dX1_doClash_6 : decode cX1_doClash 6 = .ok (.aload_n 0, 1) := by decide +kernel
theorem dX1_doClash_7 : decode cX1_doClash 7 = .ok (.getfield 27, 3) := by decide +kernel
theorem dX1_doClash_10 : decode cX1_doClash 10 = .ok (.iload_n 2, 1) := by decide +kernel
theorem dX1_doClash_11 : decode cX1_doClash 11 = .ok (.iaload, 1) := by decide +kernel
theorem dX1_doClash_12 : decode cX1_doClash 12 = .ok (.if_icmp .ne 52, 3) := by decide +kernel
theorem dX1_doClash_15 : decode cX1_doClash 15 = .ok (.aload_n 0, 1) := by decide +kernel
theorem dX1_doClash_16 : decode cX1_doClash 16 = .ok (.getfield 30, 3) := by decide +kernel
theorem dX1_doClash_19 : decode cX1_doClash 19 = .ok (.iload_n 1, 1) := by decide +kernel
theorem dX1_doClash_20 : decode cX1_doClash 20 = .ok (.iaload, 1) := by decide +kernel
theorem dX1_doClash_21 : decode cX1_doClash 21 = .ok (.aload_n 0, 1) := by decide +kernel
theorem dX1_doClash_22 : decode cX1_doClash 22 = .ok (.getfield 30, 3) := by decide +kernel
theorem dX1_doClash_25 : decode cX1_doClash 25 = .ok (.iload_n 2, 1) := by decide +kernel
theorem dX1_doClash_26 : decode cX1_doClash 26 = .ok (.iaload, 1) := by decide +kernel
theorem dX1_doClash_27 : decode cX1_doClash 27 = .ok (.if_icmp .eq 37, 3) := by decide +kernel
theorem dX1_doClash_30 : decode cX1_doClash 30 = .ok (.aload_n 0, 1) := by decide +kernel
theorem dX1_doClash_31 : decode cX1_doClash 31 = .ok (.getfield 33, 3) := by decide +kernel
theorem dX1_doClash_34 : decode cX1_doClash 34 = .ok (.iload_n 1, 1) := by decide +kernel
theorem dX1_doClash_35 : decode cX1_doClash 35 = .ok (.iaload, 1) := by decide +kernel
theorem dX1_doClash_36 : decode cX1_doClash 36 = .ok (.aload_n 0, 1) := by decide +kernel
theorem dX1_doClash_37 : decode cX1_doClash 37 = .ok (.getfield 36, 3) := by decide +kernel
theorem dX1_doClash_40 : decode cX1_doClash 40 = .ok (.iload_n 2, 1) := by decide +kernel
theorem dX1_doClash_41 : decode cX1_doClash 41 = .ok (.iaload, 1) := by decide +kernel
theorem dX1_doClash_42 : decode cX1_doClash 42 = .ok (.if_icmp .gt 22, 3) := by decide +kernel
theorem dX1_doClash_45 : decode cX1_doClash 45 = .ok (.aload_n 0, 1) := by decide +kernel
theorem dX1_doClash_46 : decode cX1_doClash 46 = .ok (.getfield 33, 3) := by decide +kernel
theorem dX1_doClash_49 : decode cX1_doClash 49 = .ok (.iload_n 2, 1) := by decide +kernel
theorem dX1_doClash_50 : decode cX1_doClash 50 = .ok (.iaload, 1) := by decide +kernel
theorem dX1_doClash_51 : decode cX1_doClash 51 = .ok (.aload_n 0, 1) := by decide +kernel
theorem dX1_doClash_52 : decode cX1_doClash 52 = .ok (.getfield 36, 3) := by decide +kernel
theorem dX1_doClash_55 : decode cX1_doClash 55 = .ok (.iload_n 1, 1) := by decide +kernel
theorem dX1_doClash_56 : decode cX1_doClash 56 = .ok (.iaload, 1) := by decide +kernel
theorem dX1_doClash_57 : decode cX1_doClash 57 = .ok (.if_icmp .gt 7, 3) := by decide +kernel
theorem dX1_doClash_60 : decode cX1_doClash 60 = .ok (.iconst 1, 1) := by decide +kernel
theorem dX1_doClash_61 : decode cX1_doClash 61 = .ok (.goto 4, 3) := by decide +kernel
theorem dX1_doClash_64 : decode cX1_doClash 64 = .ok (.iconst 0, 1) := by decide +kernel
theorem dX1_doClash_65 : decode cX1_doClash 65 = .ok (.ireturn, 1) := by decide +kernel
theorem dX2_init_0 : decode cX2_init 0 = .ok (.aload_n 0, 1) := by decide +kernel
theorem dX2_init_1 : decode cX2_init 1 = .ok (.invokespecial 1, 3) := by decide +kernel
theorem dX2_init_4 : decode cX2_init 4 = .ok (.return_, 1) := by decide +kernel
theorem dX2_markOf_0 : decode cX2_markOf 0 = .ok (.aload_n 1, 1) := by decide +kernel
theorem dX2_markOf_1 : decode cX2_markOf 1 = .ok (.dup, 1) := by decide +kernel
theorem dX2_markOf_2 : decode cX2_markOf 2 = .ok (.getfield 7, 3) := by decide +kernel
theorem dX2_markOf_5 : decode cX2_markOf 5 = .ok (.ldc2_w 13, 3) := by decide +kernel
theorem dX2_markOf_8 : decode cX2_markOf 8 = .ok (.ladd, 1) := by decide +kernel
theorem dX2_markOf_9 : decode cX2_markOf 9 = .ok (.putfield 7, 3) := by decide +kernel
theorem dX2_markOf_12 : decode cX2_markOf 12 = .ok (.aload_n 0, 1) := by decide +kernel
theorem dX2_markOf_13 : decode cX2_markOf 13 = .ok (.aload_n 1, 1) := by decide +kernel
theorem dX2_markOf_14 : decode cX2_markOf 14 = .ok (.iload_n 2, 1) := by decide +kernel
theorem dX2_markOf_15 : decode cX2_markOf 15 = .ok (.invokespecial 15, 3) := by decide +kernel
theorem dX2_markOf_18 : decode cX2_markOf 18 = .ok (.iconst 2, 1) := by decide +kernel
theorem dX2_markOf_19 : decode cX2_markOf 19 = .ok (.imul, 1) := by decide +kernel
theorem dX2_markOf_20 : decode cX2_markOf 20 = .ok (.ireturn, 1) := by decide +kernel
theorem dX3_init_0 : decode cX3_init 0 = .ok (.aload_n 0, 1) := by decide +kernel
theorem dX3_init_1 : decode cX3_init 1 = .ok (.invokespecial 1, 3) := by decide +kernel
theorem dX3_init_4 : decode cX3_init 4 = .ok (.return_, 1) := by decide +kernel
theorem dX3_markOf_0 : decode cX3_markOf 0 = .ok (.aload_n 1, 1) := by decide +kernel
theorem dX3_markOf_1 : decode cX3_markOf 1 = .ok (.dup, 1) := by decide +kernel
theorem dX3_markOf_2 : decode cX3_markOf 2 = .ok (.getfield 7, 3) := by decide +kernel
theorem dX3_markOf_5 : decode cX3_markOf 5 = .ok (.ldc2_w 13, 3) := by decide +kernel
theorem dX3_markOf_8 : decode cX3_markOf 8 = .ok (.ladd, 1) := by decide +kernel
theorem dX3_markOf_9 : decode cX3_markOf 9 = .ok (.putfield 7, 3) := by decide +kernel
theorem dX3_markOf_12 : decode cX3_markOf 12 = .ok (.aload_n 0, 1) := by decide +kernel
theorem dX3_markOf_13 : decode cX3_markOf 13 = .ok (.aload_n 1, 1) := by decide +kernel
theorem dX3_markOf_14 : decode cX3_markOf 14 = .ok (.iload_n 2, 1) := by decide +kernel
theorem dX3_markOf_15 : decode cX3_markOf 15 = .ok (.invokespecial 15, 3) := by decide +kernel
theorem dX3_markOf_18 : decode cX3_markOf 18 = .ok (.iload_n 2, 1) := by decide +kernel
theorem dX3_markOf_19 : decode cX3_markOf 19 = .ok (.iadd, 1) := by decide +kernel
theorem dX3_markOf_20 : decode cX3_markOf 20 = .ok (.ireturn, 1) := by decide +kernel
theorem dX4_init_0 : decode cX4_init 0 = .ok (.aload_n 0, 1) := by decide +kernel
theorem dX4_init_1 : decode cX4_init 1 = .ok (.invokespecial 1, 3) := by decide +kernel
theorem dX4_init_4 : decode cX4_init 4 = .ok (.return_, 1) := by decide +kernel
theorem dX4_markOf_0 : decode cX4_markOf 0 = .ok (.aload_n 1, 1) := by decide +kernel
theorem dX4_markOf_1 : decode cX4_markOf 1 = .ok (.dup, 1) := by decide +kernel
theorem dX4_markOf_2 : decode cX4_markOf 2 = .ok (.getfield 7, 3) := by decide +kernel
theorem dX4_markOf_5 : decode cX4_markOf 5 = .ok (.ldc2_w 13, 3) := by decide +kernel
theorem dX4_markOf_8 : decode cX4_markOf 8 = .ok (.ladd, 1) := by decide +kernel
theorem dX4_markOf_9 : decode cX4_markOf 9 = .ok (.putfield 7, 3) := by decide +kernel
theorem dX4_markOf_12 : decode cX4_markOf 12 = .ok (.aload_n 0, 1) := by decide +kernel
theorem dX4_markOf_13 : decode cX4_markOf 13 = .ok (.aload_n 1, 1) := by decide +kernel
theorem dX4_markOf_14 : decode cX4_markOf 14 = .ok (.iload_n 2, 1) := by decide +kernel
theorem dX4_markOf_15 : decode cX4_markOf 15 = .ok (.invokespecial 15, 3) := by decide +kernel
theorem dX4_markOf_18 : decode cX4_markOf 18 = .ok (.aload_n 1, 1) := by decide +kernel
theorem dX4_markOf_19 : decode cX4_markOf 19 = .ok (.getfield 19, 3) := by decide +kernel
theorem dX4_markOf_22 : decode cX4_markOf 22 = .ok (.getfield 23, 3) := by decide +kernel
theorem dX4_markOf_25 : decode cX4_markOf 25 = .ok (.invokestatic 29, 3) := by decide +kernel
theorem dX4_markOf_28 : decode cX4_markOf 28 = .ok (.iadd, 1) := by decide +kernel
theorem dX4_markOf_29 : decode cX4_markOf 29 = .ok (.ireturn, 1) := by decide +kernel
theorem dX5_init_0 : decode cX5_init 0 = .ok (.aload_n 0, 1) := by decide +kernel
theorem dX5_init_1 : decode cX5_init 1 = .ok (.invokespecial 3, 3) := by decide +kernel
theorem dX5_init_4 : decode cX5_init 4 = .ok (.aload_n 0, 1) := by decide +kernel
theorem dX5_init_5 : decode cX5_init 5 = .ok (.bipush 6, 2) := by decide +kernel
theorem dX5_init_7 : decode cX5_init 7 = .ok (.newarray .int, 2) := by decide +kernel
theorem dX5_init_9 : decode cX5_init 9 = .ok (.putfield 9, 3) := by decide +kernel
theorem dX5_init_12 : decode cX5_init 12 = .ok (.aload_n 0, 1) := by decide +kernel
theorem dX5_init_13 : decode cX5_init 13 = .ok (.bipush 6, 2) := by decide +kernel
theorem dX5_init_15 : decode cX5_init 15 = .ok (.newarray .int, 2) := by decide +kernel
theorem dX5_init_17 : decode cX5_init 17 = .ok (.putfield 15, 3) := by decide +kernel
theorem dX5_init_20 : decode cX5_init 20 = .ok (.aload_n 0, 1) := by decide +kernel
theorem dX5_init_21 : decode cX5_init 21 = .ok (.bipush 6, 2) := by decide +kernel
theorem dX5_init_23 : decode cX5_init 23 = .ok (.newarray .int, 2) := by decide +kernel
theorem dX5_init_25 : decode cX5_init 25 = .ok (.putfield 18, 3) := by decide +kernel
theorem dX5_init_28 : decode cX5_init 28 = .ok (.aload_n 0, 1) := by decide +kernel
theorem dX5_init_29 : decode cX5_init 29 = .ok (.bipush 6, 2) := by decide +kernel
theorem dX5_init_31 : decode cX5_init 31 = .ok (.newarray .int, 2) := by decide +kernel
theorem dX5_init_33 : decode cX5_init 33 = .ok (.putfield 21, 3) := by decide +kernel
theorem dX5_init_36 : decode cX5_init 36 = .ok (.return_, 1) := by decide +kernel
theorem dX5_countHours_0 : decode cX5_countHours 0 = .ok (.aload_n 0, 1) := by decide +kernel
theorem dX5_countHours_1 : decode cX5_countHours 1 = .ok (.aload_n 1, 1) := by decide +kernel
theorem dX5_countHours_2 : decode cX5_countHours 2 = .ok (.getfield 24, 3) := by decide +kernel
theorem dX5_countHours_5 : decode cX5_countHours 5 = .ok (.putfield 30, 3) := by decide +kernel
theorem dX5_countHours_8 : decode cX5_countHours 8 = .ok (.aload_n 1, 1) := by decide +kernel
theorem dX5_countHours_9 : decode cX5_countHours 9 = .ok (.getfield 31, 3) := by decide +kernel
theorem dX5_countHours_12 : decode cX5_countHours 12 = .ok (.aload_n 1, 1) := by decide +kernel
theorem dX5_countHours_13 : decode cX5_countHours 13 = .ok (.getfield 34, 3) := by decide +kernel
theorem dX5_countHours_16 : decode cX5_countHours 16 = .ok (.invokestatic 37, 3) := by decide +kernel
theorem dX5_countHours_19 : decode cX5_countHours 19 = .ok (.istore_n 3, 1) := by decide +kernel
theorem dX5_countHours_20 : decode cX5_countHours 20 = .ok (.iconst 0, 1) := by decide +kernel
theorem dX5_countHours_21 : decode cX5_countHours 21 = .ok (.istore 4, 2) := by decide +kernel
theorem dX5_countHours_23 : decode cX5_countHours 23 = .ok (.iload 4, 2) := by decide +kernel
theorem dX5_countHours_25 : decode cX5_countHours 25 = .ok (.aload_n 0, 1) := by decide +kernel
theorem dX5_countHours_26 : decode cX5_countHours 26 = .ok (.getfield 30, 3) := by decide +kernel
theorem dX5_countHours_29 : decode cX5_countHours 29 = .ok (.if_icmp .ge 88, 3) := by decide +kernel
theorem dX5_countHours_32 : decode cX5_countHours 32 = .ok (.iconst 0, 1) := by decide +kernel
theorem dX5_countHours_33 : decode cX5_countHours 33 = .ok (.istore 5, 2) := by decide +kernel
theorem dX5_countHours_35 : decode cX5_countHours 35 = .ok (.iconst 0, 1) := by decide +kernel
theorem dX5_countHours_36 : decode cX5_countHours 36 = .ok (.istore 6, 2) := by decide +kernel
theorem dX5_countHours_38 : decode cX5_countHours 38 = .ok (.iload 6, 2) := by decide +kernel
theorem dX5_countHours_40 : decode cX5_countHours 40 = .ok (.aload_n 1, 1) := by decide +kernel
theorem dX5_countHours_41 : decode cX5_countHours 41 = .ok (.getfield 41, 3) := by decide +kernel
theorem dX5_countHours_44 : decode cX5_countHours 44 = .ok (.if_icmp .ge 53, 3) := by decide +kernel
theorem dX5_countHours_47 : decode cX5_countHours 47 = .ok (.iload_n 2, 1) := by decide +kernel
theorem dX5_countHours_48 : decode cX5_countHours 48 = .ok (.iload 6, 2) := by decide +kernel
theorem dX5_countHours_50 : decode cX5_countHours 50 = .ok (.invokestatic 44, 3) := by decide +kernel
theorem dX5_countHours_53 : decode cX5_countHours 53 = .ok (.iconst 1, 1) := by decide +kernel
theorem dX5_countHours_54 : decode cX5_countHours 54 = .ok (.if_icmp .ne 37, 3) := by decide +kernel
theorem dX5_countHours_57 : decode cX5_countHours 57 = .ok (.aload_n 1, 1) := by decide +kernel
theorem dX5_countHours_58 : decode cX5_countHours 58 = .ok (.getfield 47, 3) := by decide +kernel
theorem dX5_countHours_61 : decode cX5_countHours 61 = .ok (.iload 6, 2) := by decide +kernel
theorem dX5_countHours_63 : decode cX5_countHours 63 = .ok (.iaload, 1) := by decide +kernel
theorem dX5_countHours_64 : decode cX5_countHours 64 = .ok (.iload 4, 2) := by decide +kernel
theorem dX5_countHours_66 : decode cX5_countHours 66 = .ok (.if_icmp .ne 25, 3) := by decide +kernel
theorem dX5_countHours_69 : decode cX5_countHours 69 = .ok (.iload 5, 2) := by decide +kernel
theorem dX5_countHours_71 : decode cX5_countHours 71 = .ok (.aload_n 1, 1) := by decide +kernel
theorem dX5_countHours_72 : decode cX5_countHours 72 = .ok (.getfield 50, 3) := by decide +kernel
theorem dX5_countHours_75 : decode cX5_countHours 75 = .ok (.iload 6, 2) := by decide +kernel
theorem dX5_countHours_77 : decode cX5_countHours 77 = .ok (.iaload, 1) := by decide +kernel
theorem dX5_countHours_78 : decode cX5_countHours 78 = .ok (.aload_n 1, 1) := by decide +kernel
theorem dX5_countHours_79 : decode cX5_countHours 79 = .ok (.getfield 53, 3) := by decide +kernel
theorem dX5_countHours_82 : decode cX5_countHours 82 = .ok (.iload 6, 2) := by decide +kernel
theorem dX5_countHours_84 : decode cX5_countHours 84 = .ok (.iaload, 1) := by decide +kernel
theorem dX5_countHours_85 : decode cX5_countHours 85 = .ok (.invokestatic 37, 3) := by decide +kernel
theorem dX5_countHours_88 : decode cX5_countHours 88 = .ok (.ior, 1) := by decide +kernel
theorem dX5_countHours_89 : decode cX5_countHours 89 = .ok (.istore 5, 2) := by decide +kernel
theorem dX5_countHours_91 : decode cX5_countHours 91 = .ok (.iinc 6 1, 3) := by decide +kernel
theorem dX5_countHours_94 : decode cX5_countHours 94 = .ok (.goto (-56), 3) := by decide +kernel
theorem dX5_countHours_97 : decode cX5_countHours 97 = .ok (.aload_n 0, 1) := by decide +kernel
theorem dX5_countHours_98 : decode cX5_countHours 98 = .ok (.getfield 18, 3) := by decide +kernel
theorem dX5_countHours_101 : decode cX5_countHours 101 = .ok (.iload 4, 2) := by decide +kernel
theorem dX5_countHours_103 : decode cX5_countHours 103 = .ok (.iload 5, 2) := by decide +kernel
theorem dX5_countHours_105 : decode cX5_countHours 105 = .ok (.iload_n 3, 1) := by decide +kernel
theorem dX5_countHours_106 : decode cX5_countHours 106 = .ok (.iand, 1) := by decide +kernel
theorem dX5_countHours_107 : decode cX5_countHours 107 = .ok (.invokestatic 56, 3) := by decide +kernel
theorem dX5_countHours_110 : decode cX5_countHours 110 = .ok (.iastore, 1) := by decide +kernel
theorem dX5_countHours_111 : decode cX5_countHours 111 = .ok (.iinc 4 1, 3) := by decide +kernel
theorem dX5_countHours_114 : decode cX5_countHours 114 = .ok (.goto (-91), 3) := by decide +kernel
theorem dX5_countHours_117 : decode cX5_countHours 117 = .ok (.return_, 1) := by decide +kernel
theorem dX5_hoursFromTo_0 : decode cX5_hoursFromTo 0 = .ok (.iconst 1, 1) := by decide +kernel
theorem dX5_hoursFromTo_1 : decode cX5_hoursFromTo 1 = .ok (.iload_n 1, 1) := by decide +kernel
theorem dX5_hoursFromTo_2 : decode cX5_hoursFromTo 2 = .ok (.iconst 1, 1) := by decide +kernel
theorem dX5_hoursFromTo_3 : decode cX5_hoursFromTo 3 = .ok (.iadd, 1) := by decide +kernel
theorem dX5_hoursFromTo_4 : decode cX5_hoursFromTo 4 = .ok (.ishl, 1) := by decide +kernel
theorem dX5_hoursFromTo_5 : decode cX5_hoursFromTo 5 = .ok (.iconst 1, 1) := by decide +kernel
theorem dX5_hoursFromTo_6 : decode cX5_hoursFromTo 6 = .ok (.iload_n 0, 1) := by decide +kernel
theorem dX5_hoursFromTo_7 : decode cX5_hoursFromTo 7 = .ok (.ishl, 1) := by decide +kernel
theorem dX5_hoursFromTo_8 : decode cX5_hoursFromTo 8 = .ok (.isub, 1) := by decide +kernel
theorem dX5_hoursFromTo_9 : decode cX5_hoursFromTo 9 = .ok (.ireturn, 1) := by decide +kernel
theorem dX5_weigh_0 : decode cX5_weigh 0 = .ok (.aload_n 0, 1) := by decide +kernel
theorem dX5_weigh_1 : decode cX5_weigh 1 = .ok (.iconst 0, 1) := by decide +kernel
theorem dX5_weigh_2 : decode cX5_weigh 2 = .ok (.putfield 62, 3) := by decide +kernel
theorem dX5_weigh_5 : decode cX5_weigh 5 = .ok (.iconst 0, 1) := by decide +kernel
theorem dX5_weigh_6 : decode cX5_weigh 6 = .ok (.istore_n 3, 1) := by decide +kernel
theorem dX5_weigh_7 : decode cX5_weigh 7 = .ok (.iload_n 3, 1) := by decide +kernel
theorem dX5_weigh_8 : decode cX5_weigh 8 = .ok (.aload_n 0, 1) := by decide +kernel
theorem dX5_weigh_9 : decode cX5_weigh 9 = .ok (.getfield 30, 3) := by decide +kernel
theorem dX5_weigh_12 : decode cX5_weigh 12 = .ok (.if_icmp .ge 37, 3) := by decide +kernel
theorem dX5_weigh_15 : decode cX5_weigh 15 = .ok (.aload_n 0, 1) := by decide +kernel
theorem dX5_weigh_16 : decode cX5_weigh 16 = .ok (.getfield 9, 3) := by decide +kernel
theorem dX5_weigh_19 : decode cX5_weigh 19 = .ok (.iload_n 3, 1) := by decide +kernel
theorem dX5_weigh_20 : decode cX5_weigh 20 = .ok (.aload_n 0, 1) := by decide +kernel
theorem dX5_weigh_21 : decode cX5_weigh 21 = .ok (.aload_n 1, 1) := by decide +kernel
theorem dX5_weigh_22 : decode cX5_weigh 22 = .ok (.iload_n 2, 1) := by decide +kernel
theorem dX5_weigh_23 : decode cX5_weigh 23 = .ok (.iload_n 3, 1) := by decide +kernel
theorem dX5_weigh_24 : decode cX5_weigh 24 = .ok (.invokevirtual 65, 3) := by decide +kernel
theorem dX5_weigh_27 : decode cX5_weigh 27 = .ok (.iastore, 1) := by decide +kernel
theorem dX5_weigh_28 : decode cX5_weigh 28 = .ok (.aload_n 0, 1) := by decide +kernel
theorem dX5_weigh_29 : decode cX5_weigh 29 = .ok (.dup, 1) := by decide +kernel
theorem dX5_weigh_30 : decode cX5_weigh 30 = .ok (.getfield 62, 3) := by decide +kernel
theorem dX5_weigh_33 : decode cX5_weigh 33 = .ok (.aload_n 0, 1) := by decide +kernel
theorem dX5_weigh_34 : decode cX5_weigh 34 = .ok (.getfield 9, 3) := by decide +kernel
theorem dX5_weigh_37 : decode cX5_weigh 37 = .ok (.iload_n 3, 1) := by decide +kernel
theorem dX5_weigh_38 : decode cX5_weigh 38 = .ok (.iaload, 1) := by decide +kernel
theorem dX5_weigh_39 : decode cX5_weigh 39 = .ok (.iadd, 1) := by decide +kernel
theorem dX5_weigh_40 : decode cX5_weigh 40 = .ok (.putfield 62, 3) := by decide +kernel
theorem dX5_weigh_43 : decode cX5_weigh 43 = .ok (.iinc 3 1, 3) := by decide +kernel
theorem dX5_weigh_46 : decode cX5_weigh 46 = .ok (.goto (-39), 3) := by decide +kernel
theorem dX5_weigh_49 : decode cX5_weigh 49 = .ok (.return_, 1) := by decide +kernel
theorem dX5_heldBy_0 : decode cX5_heldBy 0 = .ok (.aload_n 1, 1) := by decide +kernel
theorem dX5_heldBy_1 : decode cX5_heldBy 1 = .ok (.getfield 69, 3) := by decide +kernel
theorem dX5_heldBy_4 : decode cX5_heldBy 4 = .ok (.iload_n 3, 1) := by decide +kernel
theorem dX5_heldBy_5 : decode cX5_heldBy 5 = .ok (.iaload, 1) := by decide +kernel
theorem dX5_heldBy_6 : decode cX5_heldBy 6 = .ok (.istore 4, 2) := by decide +kernel
theorem dX5_heldBy_8 : decode cX5_heldBy 8 = .ok (.iconst 0, 1) := by decide +kernel
theorem dX5_heldBy_9 : decode cX5_heldBy 9 = .ok (.istore 5, 2) := by decide +kernel
theorem dX5_heldBy_11 : decode cX5_heldBy 11 = .ok (.iload 5, 2) := by decide +kernel
theorem dX5_heldBy_13 : decode cX5_heldBy 13 = .ok (.aload_n 1, 1) := by decide +kernel
theorem dX5_heldBy_14 : decode cX5_heldBy 14 = .ok (.getfield 72, 3) := by decide +kernel
theorem dX5_heldBy_17 : decode cX5_heldBy 17 = .ok (.if_icmp .ge 36, 3) := by decide +kernel
theorem dX5_heldBy_20 : decode cX5_heldBy 20 = .ok (.iload_n 2, 1) := by decide +kernel
theorem dX5_heldBy_21 : decode cX5_heldBy 21 = .ok (.iload 5, 2) := by decide +kernel
theorem dX5_heldBy_23 : decode cX5_heldBy 23 = .ok (.invokestatic 44, 3) := by decide +kernel
theorem dX5_heldBy_26 : decode cX5_heldBy 26 = .ok (.iconst 1, 1) := by decide +kernel
theorem dX5_heldBy_27 : decode cX5_heldBy 27 = .ok (.if_icmp .ne 20, 3) := by decide +kernel
theorem dX5_heldBy_30 : decode cX5_heldBy 30 = .ok (.iload 4, 2) := by decide +kernel
theorem dX5_heldBy_32 : decode cX5_heldBy 32 = .ok (.aload_n 1, 1) := by decide +kernel
theorem dX5_heldBy_33 : decode cX5_heldBy 33 = .ok (.getfield 75, 3) := by decide +kernel
theorem dX5_heldBy_36 : decode cX5_heldBy 36 = .ok (.iload 5, 2) := by decide +kernel
theorem dX5_heldBy_38 : decode cX5_heldBy 38 = .ok (.bipush 6, 2) := by decide +kernel
theorem dX5_heldBy_40 : decode cX5_heldBy 40 = .ok (.imul, 1) := by decide +kernel
theorem dX5_heldBy_41 : decode cX5_heldBy 41 = .ok (.iload_n 3, 1) := by decide +kernel
theorem dX5_heldBy_42 : decode cX5_heldBy 42 = .ok (.iadd, 1) := by decide +kernel
theorem dX5_heldBy_43 : decode cX5_heldBy 43 = .ok (.iaload, 1) := by decide +kernel
theorem dX5_heldBy_44 : decode cX5_heldBy 44 = .ok (.iadd, 1) := by decide +kernel
theorem dX5_heldBy_45 : decode cX5_heldBy 45 = .ok (.istore 4, 2) := by decide +kernel
theorem dX5_heldBy_47 : decode cX5_heldBy 47 = .ok (.iinc 5 1, 3) := by decide +kernel
theorem dX5_heldBy_50 : decode cX5_heldBy 50 = .ok (.goto (-39), 3) := by decide +kernel
theorem dX5_heldBy_53 : decode cX5_heldBy 53 = .ok (.iconst 0, 1) := by decide +kernel
theorem dX5_heldBy_54 : decode cX5_heldBy 54 = .ok (.iconst 0, 1) := by decide +kernel
theorem dX5_heldBy_55 : decode cX5_heldBy 55 = .ok (.iload 4, 2) := by decide +kernel
theorem dX5_heldBy_57 : decode cX5_heldBy 57 = .ok (.invokestatic 78, 3) := by decide +kernel
theorem dX5_heldBy_60 : decode cX5_heldBy 60 = .ok (.aload_n 0, 1) := by decide +kernel
theorem dX5_heldBy_61 : decode cX5_heldBy 61 = .ok (.getfield 18, 3) := by decide +kernel
theorem dX5_heldBy_64 : decode cX5_heldBy 64 = .ok (.iload_n 3, 1) := by decide +kernel
theorem dX5_heldBy_65 : decode cX5_heldBy 65 = .ok (.iaload, 1) := by decide +kernel
theorem dX5_heldBy_66 : decode cX5_heldBy 66 = .ok (.isub, 1) := by decide +kernel
theorem dX5_heldBy_67 : decode cX5_heldBy 67 = .ok (.invokestatic 78, 3) := by decide +kernel
theorem dX5_heldBy_70 : decode cX5_heldBy 70 = .ok (.ireturn, 1) := by decide +kernel
theorem dX5_sentence_0 : decode cX5_sentence 0 = .ok (.aload_n 0, 1) := by decide +kernel
theorem dX5_sentence_1 : decode cX5_sentence 1 = .ok (.getfield 62, 3) := by decide +kernel
theorem dX5_sentence_4 : decode cX5_sentence 4 = .ok (.ifCond .ne 7, 3) := by decide +kernel
theorem dX5_sentence_7 : decode cX5_sentence 7 = .ok (.iconst 0, 1) := by decide +kernel
theorem dX5_sentence_8 : decode cX5_sentence 8 = .ok (.goto 4, 3) := by decide +kernel
theorem dX5_sentence_11 : decode cX5_sentence 11 = .ok (.iload_n 1, 1) := by decide +kernel
theorem dX5_sentence_12 : decode cX5_sentence 12 = .ok (.istore_n 2, 1) := by decide +kernel
theorem dX5_sentence_13 : decode cX5_sentence 13 = .ok (.iconst 0, 1) := by decide +kernel
theorem dX5_sentence_14 : decode cX5_sentence 14 = .ok (.istore_n 3, 1) := by decide +kernel
theorem dX5_sentence_15 : decode cX5_sentence 15 = .ok (.iload_n 3, 1) := by decide +kernel
theorem dX5_sentence_16 : decode cX5_sentence 16 = .ok (.aload_n 0, 1) := by decide +kernel
theorem dX5_sentence_17 : decode cX5_sentence 17 = .ok (.getfield 30, 3) := by decide +kernel
theorem dX5_sentence_20 : decode cX5_sentence 20 = .ok (.if_icmp .ge 78, 3) := by decide +kernel
theorem dX5_sentence_23 : decode cX5_sentence 23 = .ok (.aload_n 0, 1) := by decide +kernel
theorem dX5_sentence_24 : decode cX5_sentence 24 = .ok (.getfield 15, 3) := by decide +kernel
theorem dX5_sentence_27 : decode cX5_sentence 27 = .ok (.iload_n 3, 1) := by decide +kernel
theorem dX5_sentence_28 : decode cX5_sentence 28 = .ok (.aload_n 0, 1) := by decide +kernel
theorem dX5_sentence_29 : decode cX5_sentence 29 = .ok (.getfield 62, 3) := by decide +kernel
theorem dX5_sentence_32 : decode cX5_sentence 32 = .ok (.ifCond .ne 7, 3) := by decide +kernel
theorem dX5_sentence_35 : decode cX5_sentence 35 = .ok (.iconst 0, 1) := by decide +kernel
theorem dX5_sentence_36 : decode cX5_sentence 36 = .ok (.goto 16, 3) := by decide +kernel
theorem dX5_sentence_39 : decode cX5_sentence 39 = .ok (.iload_n 1, 1) := by decide +kernel
theorem dX5_sentence_40 : decode cX5_sentence 40 = .ok (.aload_n 0, 1) := by decide +kernel
theorem dX5_sentence_41 : decode cX5_sentence 41 = .ok (.getfield 9, 3) := by decide +kernel
theorem dX5_sentence_44 : decode cX5_sentence 44 = .ok (.iload_n 3, 1) := by decide +kernel
theorem dX5_sentence_45 : decode cX5_sentence 45 = .ok (.iaload, 1) := by decide +kernel
theorem dX5_sentence_46 : decode cX5_sentence 46 = .ok (.imul, 1) := by decide +kernel
theorem dX5_sentence_47 : decode cX5_sentence 47 = .ok (.aload_n 0, 1) := by decide +kernel
theorem dX5_sentence_48 : decode cX5_sentence 48 = .ok (.getfield 62, 3) := by decide +kernel
theorem dX5_sentence_51 : decode cX5_sentence 51 = .ok (.idiv, 1) := by decide +kernel
theorem dX5_sentence_52 : decode cX5_sentence 52 = .ok (.iastore, 1) := by decide +kernel
theorem dX5_sentence_53 : decode cX5_sentence 53 = .ok (.aload_n 0, 1) := by decide +kernel
theorem dX5_sentence_54 : decode cX5_sentence 54 = .ok (.getfield 21, 3) := by decide +kernel
theorem dX5_sentence_57 : decode cX5_sentence 57 = .ok (.iload_n 3, 1) := by decide +kernel
theorem dX5_sentence_58 : decode cX5_sentence 58 = .ok (.aload_n 0, 1) := by decide +kernel
theorem dX5_sentence_59 : decode cX5_sentence 59 = .ok (.getfield 62, 3) := by decide +kernel
theorem dX5_sentence_62 : decode cX5_sentence 62 = .ok (.ifCond .ne 7, 3) := by decide +kernel
theorem dX5_sentence_65 : decode cX5_sentence 65 = .ok (.iconst 0, 1) := by decide +kernel
theorem dX5_sentence_66 : decode cX5_sentence 66 = .ok (.goto 16, 3) := by decide +kernel
theorem dX5_sentence_69 : decode cX5_sentence 69 = .ok (.iload_n 1, 1) := by decide +kernel
theorem dX5_sentence_70 : decode cX5_sentence 70 = .ok (.aload_n 0, 1) := by decide +kernel
theorem dX5_sentence_71 : decode cX5_sentence 71 = .ok (.getfield 9, 3) := by decide +kernel
theorem dX5_sentence_74 : decode cX5_sentence 74 = .ok (.iload_n 3, 1) := by decide +kernel
theorem dX5_sentence_75 : decode cX5_sentence 75 = .ok (.iaload, 1) := by decide +kernel
theorem dX5_sentence_76 : decode cX5_sentence 76 = .ok (.imul, 1) := by decide +kernel
theorem dX5_sentence_77 : decode cX5_sentence 77 = .ok (.aload_n 0, 1) := by decide +kernel
theorem dX5_sentence_78 : decode cX5_sentence 78 = .ok (.getfield 62, 3) := by decide +kernel
theorem dX5_sentence_81 : decode cX5_sentence 81 = .ok (.irem, 1) := by decide +kernel
theorem dX5_sentence_82 : decode cX5_sentence 82 = .ok (.iastore, 1) := by decide +kernel
theorem dX5_sentence_83 : decode cX5_sentence 83 = .ok (.iload_n 2, 1) := by decide +kernel
theorem dX5_sentence_84 : decode cX5_sentence 84 = .ok (.aload_n 0, 1) := by decide +kernel
theorem dX5_sentence_85 : decode cX5_sentence 85 = .ok (.getfield 15, 3) := by decide +kernel
theorem dX5_sentence_88 : decode cX5_sentence 88 = .ok (.iload_n 3, 1) := by decide +kernel
theorem dX5_sentence_89 : decode cX5_sentence 89 = .ok (.iaload, 1) := by decide +kernel
theorem dX5_sentence_90 : decode cX5_sentence 90 = .ok (.isub, 1) := by decide +kernel
theorem dX5_sentence_91 : decode cX5_sentence 91 = .ok (.istore_n 2, 1) := by decide +kernel
theorem dX5_sentence_92 : decode cX5_sentence 92 = .ok (.iinc 3 1, 3) := by decide +kernel
theorem dX5_sentence_95 : decode cX5_sentence 95 = .ok (.goto (-80), 3) := by decide +kernel
theorem dX5_sentence_98 : decode cX5_sentence 98 = .ok (.iconst 0, 1) := by decide +kernel
theorem dX5_sentence_99 : decode cX5_sentence 99 = .ok (.istore_n 3, 1) := by decide +kernel
theorem dX5_sentence_100 : decode cX5_sentence 100 = .ok (.iload_n 3, 1) := by decide +kernel
theorem dX5_sentence_101 : decode cX5_sentence 101 = .ok (.bipush 6, 2) := by decide +kernel
theorem dX5_sentence_103 : decode cX5_sentence 103 = .ok (.if_icmp .ge 20, 3) := by decide +kernel
theorem dX5_sentence_106 : decode cX5_sentence 106 = .ok (.iload_n 2, 1) := by decide +kernel
theorem dX5_sentence_107 : decode cX5_sentence 107 = .ok (.ifCond .le 16, 3) := by decide +kernel
theorem dX5_sentence_110 : decode cX5_sentence 110 = .ok (.aload_n 0, 1) := by decide +kernel
theorem dX5_sentence_111 : decode cX5_sentence 111 = .ok (.invokevirtual 83, 3) := by decide +kernel
theorem dX5_sentence_114 : decode cX5_sentence 114 = .ok (.iinc 2 (-1), 3) := by decide +kernel
theorem dX5_sentence_117 : decode cX5_sentence 117 = .ok (.iinc 3 1, 3) := by decide +kernel
theorem dX5_sentence_120 : decode cX5_sentence 120 = .ok (.goto (-20), 3) := by decide +kernel
theorem dX5_sentence_123 : decode cX5_sentence 123 = .ok (.return_, 1) := by decide +kernel
theorem dX5_giveOneDayMore_0 : decode cX5_giveOneDayMore 0 = .ok (.iconst 0, 1) := by decide +kernel
theorem dX5_giveOneDayMore_1 : decode cX5_giveOneDayMore 1 = .ok (.istore_n 1, 1) := by decide +kernel
theorem dX5_giveOneDayMore_2 : decode cX5_giveOneDayMore 2 = .ok (.iconst 1, 1) := by decide +kernel
theorem dX5_giveOneDayMore_3 : decode cX5_giveOneDayMore 3 = .ok (.istore_n 2, 1) := by decide +kernel
theorem dX5_giveOneDayMore_4 : decode cX5_giveOneDayMore 4 = .ok (.iload_n 2, 1) := by decide +kernel
theorem dX5_giveOneDayMore_5 : decode cX5_giveOneDayMore 5 = .ok (.aload_n 0, 1) := by decide +kernel
theorem dX5_giveOneDayMore_6 : decode cX5_giveOneDayMore 6 = .ok (.getfield 30, 3) := by decide +kernel
theorem dX5_giveOneDayMore_9 : decode cX5_giveOneDayMore 9 = .ok (.if_icmp .ge 26, 3) := by decide +kernel
theorem dX5_giveOneDayMore_12 : decode cX5_giveOneDayMore 12 = .ok (.aload_n 0, 1) := by decide +kernel
theorem dX5_giveOneDayMore_13 : decode cX5_giveOneDayMore 13 = .ok (.getfield 21, 3) := by decide +kernel
theorem dX5_giveOneDayMore_16 : decode cX5_giveOneDayMore 16 = .ok (.iload_n 2, 1) := by decide +kernel
theorem dX5_giveOneDayMore_17 : decode cX5_giveOneDayMore 17 = .ok (.iaload, 1) := by decide +kernel
theorem dX5_giveOneDayMore_18 : decode cX5_giveOneDayMore 18 = .ok (.aload_n 0, 1) := by decide +kernel
theorem dX5_giveOneDayMore_19 : decode cX5_giveOneDayMore 19 = .ok (.getfield 21, 3) := by decide +kernel
theorem dX5_giveOneDayMore_22 : decode cX5_giveOneDayMore 22 = .ok (.iload_n 1, 1) := by decide +kernel
theorem dX5_giveOneDayMore_23 : decode cX5_giveOneDayMore 23 = .ok (.iaload, 1) := by decide +kernel
theorem dX5_giveOneDayMore_24 : decode cX5_giveOneDayMore 24 = .ok (.if_icmp .le 5, 3) := by decide +kernel
theorem dX5_giveOneDayMore_27 : decode cX5_giveOneDayMore 27 = .ok (.iload_n 2, 1) := by decide +kernel
theorem dX5_giveOneDayMore_28 : decode cX5_giveOneDayMore 28 = .ok (.istore_n 1, 1) := by decide +kernel
theorem dX5_giveOneDayMore_29 : decode cX5_giveOneDayMore 29 = .ok (.iinc 2 1, 3) := by decide +kernel
theorem dX5_giveOneDayMore_32 : decode cX5_giveOneDayMore 32 = .ok (.goto (-28), 3) := by decide +kernel
theorem dX5_giveOneDayMore_35 : decode cX5_giveOneDayMore 35 = .ok (.aload_n 0, 1) := by decide +kernel
theorem dX5_giveOneDayMore_36 : decode cX5_giveOneDayMore 36 = .ok (.getfield 15, 3) := by decide +kernel
theorem dX5_giveOneDayMore_39 : decode cX5_giveOneDayMore 39 = .ok (.iload_n 1, 1) := by decide +kernel
theorem dX5_giveOneDayMore_40 : decode cX5_giveOneDayMore 40 = .ok (.dup2, 1) := by decide +kernel
theorem dX5_giveOneDayMore_41 : decode cX5_giveOneDayMore 41 = .ok (.iaload, 1) := by decide +kernel
theorem dX5_giveOneDayMore_42 : decode cX5_giveOneDayMore 42 = .ok (.iconst 1, 1) := by decide +kernel
theorem dX5_giveOneDayMore_43 : decode cX5_giveOneDayMore 43 = .ok (.iadd, 1) := by decide +kernel
theorem dX5_giveOneDayMore_44 : decode cX5_giveOneDayMore 44 = .ok (.iastore, 1) := by decide +kernel
theorem dX5_giveOneDayMore_45 : decode cX5_giveOneDayMore 45 = .ok (.aload_n 0, 1) := by decide +kernel
theorem dX5_giveOneDayMore_46 : decode cX5_giveOneDayMore 46 = .ok (.getfield 21, 3) := by decide +kernel
theorem dX5_giveOneDayMore_49 : decode cX5_giveOneDayMore 49 = .ok (.iload_n 1, 1) := by decide +kernel
theorem dX5_giveOneDayMore_50 : decode cX5_giveOneDayMore 50 = .ok (.iconst (-1), 1) := by decide +kernel
theorem dX5_giveOneDayMore_51 : decode cX5_giveOneDayMore 51 = .ok (.iastore, 1) := by decide +kernel
theorem dX5_giveOneDayMore_52 : decode cX5_giveOneDayMore 52 = .ok (.return_, 1) := by decide +kernel
theorem dX5_allServe_0 : decode cX5_allServe 0 = .ok (.iconst 0, 1) := by decide +kernel
theorem dX5_allServe_1 : decode cX5_allServe 1 = .ok (.istore_n 1, 1) := by decide +kernel
theorem dX5_allServe_2 : decode cX5_allServe 2 = .ok (.iconst 0, 1) := by decide +kernel
theorem dX5_allServe_3 : decode cX5_allServe 3 = .ok (.istore_n 2, 1) := by decide +kernel
theorem dX5_allServe_4 : decode cX5_allServe 4 = .ok (.iload_n 2, 1) := by decide +kernel
theorem dX5_allServe_5 : decode cX5_allServe 5 = .ok (.aload_n 0, 1) := by decide +kernel
theorem dX5_allServe_6 : decode cX5_allServe 6 = .ok (.getfield 30, 3) := by decide +kernel
theorem dX5_allServe_9 : decode cX5_allServe 9 = .ok (.if_icmp .ge 18, 3) := by decide +kernel
theorem dX5_allServe_12 : decode cX5_allServe 12 = .ok (.iload_n 1, 1) := by decide +kernel
theorem dX5_allServe_13 : decode cX5_allServe 13 = .ok (.aload_n 0, 1) := by decide +kernel
theorem dX5_allServe_14 : decode cX5_allServe 14 = .ok (.getfield 15, 3) := by decide +kernel
theorem dX5_allServe_17 : decode cX5_allServe 17 = .ok (.iload_n 2, 1) := by decide +kernel
theorem dX5_allServe_18 : decode cX5_allServe 18 = .ok (.iaload, 1) := by decide +kernel
theorem dX5_allServe_19 : decode cX5_allServe 19 = .ok (.iadd, 1) := by decide +kernel
theorem dX5_allServe_20 : decode cX5_allServe 20 = .ok (.istore_n 1, 1) := by decide +kernel
theorem dX5_allServe_21 : decode cX5_allServe 21 = .ok (.iinc 2 1, 3) := by decide +kernel
theorem dX5_allServe_24 : decode cX5_allServe 24 = .ok (.goto (-20), 3) := by decide +kernel
theorem dX5_allServe_27 : decode cX5_allServe 27 = .ok (.iload_n 1, 1) := by decide +kernel
theorem dX5_allServe_28 : decode cX5_allServe 28 = .ok (.ireturn, 1) := by decide +kernel
theorem dX6_init_0 : decode cX6_init 0 = .ok (.aload_n 0, 1) := by decide +kernel
theorem dX6_init_1 : decode cX6_init 1 = .ok (.invokespecial 3, 3) := by decide +kernel
theorem dX6_init_4 : decode cX6_init 4 = .ok (.aload_n 0, 1) := by decide +kernel
theorem dX6_init_5 : decode cX6_init 5 = .ok (.bipush 10, 2) := by decide +kernel
theorem dX6_init_7 : decode cX6_init 7 = .ok (.newarray .int, 2) := by decide +kernel
theorem dX6_init_9 : decode cX6_init 9 = .ok (.putfield 9, 3) := by decide +kernel
theorem dX6_init_12 : decode cX6_init 12 = .ok (.return_, 1) := by decide +kernel
theorem dX6_beginAnew_0 : decode cX6_beginAnew 0 = .ok (.aload_n 0, 1) := by decide +kernel
theorem dX6_beginAnew_1 : decode cX6_beginAnew 1 = .ok (.iconst 0, 1) := by decide +kernel
theorem dX6_beginAnew_2 : decode cX6_beginAnew 2 = .ok (.putfield 15, 3) := by decide +kernel
theorem dX6_beginAnew_5 : decode cX6_beginAnew 5 = .ok (.aload_n 0, 1) := by decide +kernel
theorem dX6_beginAnew_6 : decode cX6_beginAnew 6 = .ok (.iconst 0, 1) := by decide +kernel
theorem dX6_beginAnew_7 : decode cX6_beginAnew 7 = .ok (.putfield 19, 3) := by decide +kernel
theorem dX6_beginAnew_10 : decode cX6_beginAnew 10 = .ok (.aload_n 0, 1) := by decide +kernel
theorem dX6_beginAnew_11 : decode cX6_beginAnew 11 = .ok (.iload_n 1, 1) := by decide +kernel
theorem dX6_beginAnew_12 : decode cX6_beginAnew 12 = .ok (.putfield 22, 3) := by decide +kernel
theorem dX6_beginAnew_15 : decode cX6_beginAnew 15 = .ok (.aload_n 0, 1) := by decide +kernel
theorem dX6_beginAnew_16 : decode cX6_beginAnew 16 = .ok (.iconst 0, 1) := by decide +kernel
theorem dX6_beginAnew_17 : decode cX6_beginAnew 17 = .ok (.putfield 25, 3) := by decide +kernel
theorem dX6_beginAnew_20 : decode cX6_beginAnew 20 = .ok (.return_, 1) := by decide +kernel
theorem dX6_become_0 : decode cX6_become 0 = .ok (.aload_n 0, 1) := by decide +kernel
theorem dX6_become_1 : decode cX6_become 1 = .ok (.aload_n 1, 1) := by decide +kernel
theorem dX6_become_2 : decode cX6_become 2 = .ok (.getfield 15, 3) := by decide +kernel
theorem dX6_become_5 : decode cX6_become 5 = .ok (.putfield 15, 3) := by decide +kernel
theorem dX6_become_8 : decode cX6_become 8 = .ok (.aload_n 0, 1) := by decide +kernel
theorem dX6_become_9 : decode cX6_become 9 = .ok (.aload_n 1, 1) := by decide +kernel
theorem dX6_become_10 : decode cX6_become 10 = .ok (.getfield 19, 3) := by decide +kernel
theorem dX6_become_13 : decode cX6_become 13 = .ok (.putfield 19, 3) := by decide +kernel
theorem dX6_become_16 : decode cX6_become 16 = .ok (.aload_n 0, 1) := by decide +kernel
theorem dX6_become_17 : decode cX6_become 17 = .ok (.aload_n 1, 1) := by decide +kernel
theorem dX6_become_18 : decode cX6_become 18 = .ok (.getfield 22, 3) := by decide +kernel
theorem dX6_become_21 : decode cX6_become 21 = .ok (.putfield 22, 3) := by decide +kernel
theorem dX6_become_24 : decode cX6_become 24 = .ok (.aload_n 0, 1) := by decide +kernel
theorem dX6_become_25 : decode cX6_become 25 = .ok (.aload_n 1, 1) := by decide +kernel
theorem dX6_become_26 : decode cX6_become 26 = .ok (.getfield 25, 3) := by decide +kernel
theorem dX6_become_29 : decode cX6_become 29 = .ok (.putfield 25, 3) := by decide +kernel
theorem dX6_become_32 : decode cX6_become 32 = .ok (.aload_n 1, 1) := by decide +kernel
theorem dX6_become_33 : decode cX6_become 33 = .ok (.getfield 9, 3) := by decide +kernel
theorem dX6_become_36 : decode cX6_become 36 = .ok (.iconst 0, 1) := by decide +kernel
theorem dX6_become_37 : decode cX6_become 37 = .ok (.aload_n 0, 1) := by decide +kernel
theorem dX6_become_38 : decode cX6_become 38 = .ok (.getfield 9, 3) := by decide +kernel
theorem dX6_become_41 : decode cX6_become 41 = .ok (.iconst 0, 1) := by decide +kernel
theorem dX6_become_42 : decode cX6_become 42 = .ok (.bipush 10, 2) := by decide +kernel
theorem dX6_become_44 : decode cX6_become 44 = .ok (.invokestatic 28, 3) := by decide +kernel
theorem dX6_become_47 : decode cX6_become 47 = .ok (.return_, 1) := by decide +kernel
theorem dX6_remember_0 : decode cX6_remember 0 = .ok (.aload_n 0, 1) := by decide +kernel
theorem dX6_remember_1 : decode cX6_remember 1 = .ok (.getfield 25, 3) := by decide +kernel
theorem dX6_remember_4 : decode cX6_remember 4 = .ok (.bipush 10, 2) := by decide +kernel
theorem dX6_remember_6 : decode cX6_remember 6 = .ok (.if_icmp .lt 24, 3) := by decide +kernel
theorem dX6_remember_9 : decode cX6_remember 9 = .ok (.aload_n 0, 1) := by decide +kernel
theorem dX6_remember_10 : decode cX6_remember 10 = .ok (.getfield 9, 3) := by decide +kernel
theorem dX6_remember_13 : decode cX6_remember 13 = .ok (.iconst 1, 1) := by decide +kernel
theorem dX6_remember_14 : decode cX6_remember 14 = .ok (.aload_n 0, 1) := by decide +kernel
theorem dX6_remember_15 : decode cX6_remember 15 = .ok (.getfield 9, 3) := by decide +kernel
theorem dX6_remember_18 : decode cX6_remember 18 = .ok (.iconst 0, 1) := by decide +kernel
theorem dX6_remember_19 : decode cX6_remember 19 = .ok (.bipush 9, 2) := by decide +kernel
theorem dX6_remember_21 : decode cX6_remember 21 = .ok (.invokestatic 28, 3) := by decide +kernel
theorem dX6_remember_24 : decode cX6_remember 24 = .ok (.aload_n 0, 1) := by decide +kernel
theorem dX6_remember_25 : decode cX6_remember 25 = .ok (.bipush 9, 2) := by decide +kernel
theorem dX6_remember_27 : decode cX6_remember 27 = .ok (.putfield 25, 3) := by decide +kernel
theorem dX6_remember_30 : decode cX6_remember 30 = .ok (.aload_n 0, 1) := by decide +kernel
theorem dX6_remember_31 : decode cX6_remember 31 = .ok (.getfield 9, 3) := by decide +kernel
theorem dX6_remember_34 : decode cX6_remember 34 = .ok (.aload_n 0, 1) := by decide +kernel
theorem dX6_remember_35 : decode cX6_remember 35 = .ok (.getfield 25, 3) := by decide +kernel
theorem dX6_remember_38 : decode cX6_remember 38 = .ok (.aload_n 0, 1) := by decide +kernel
theorem dX6_remember_39 : decode cX6_remember 39 = .ok (.getfield 22, 3) := by decide +kernel
theorem dX6_remember_42 : decode cX6_remember 42 = .ok (.bipush 16, 2) := by decide +kernel
theorem dX6_remember_44 : decode cX6_remember 44 = .ok (.ishl, 1) := by decide +kernel
theorem dX6_remember_45 : decode cX6_remember 45 = .ok (.aload_n 0, 1) := by decide +kernel
theorem dX6_remember_46 : decode cX6_remember 46 = .ok (.getfield 19, 3) := by decide +kernel
theorem dX6_remember_49 : decode cX6_remember 49 = .ok (.bipush 8, 2) := by decide +kernel
theorem dX6_remember_51 : decode cX6_remember 51 = .ok (.ishl, 1) := by decide +kernel
theorem dX6_remember_52 : decode cX6_remember 52 = .ok (.ior, 1) := by decide +kernel
theorem dX6_remember_53 : decode cX6_remember 53 = .ok (.aload_n 0, 1) := by decide +kernel
theorem dX6_remember_54 : decode cX6_remember 54 = .ok (.getfield 15, 3) := by decide +kernel
theorem dX6_remember_57 : decode cX6_remember 57 = .ok (.ior, 1) := by decide +kernel
theorem dX6_remember_58 : decode cX6_remember 58 = .ok (.iastore, 1) := by decide +kernel
theorem dX6_remember_59 : decode cX6_remember 59 = .ok (.aload_n 0, 1) := by decide +kernel
theorem dX6_remember_60 : decode cX6_remember 60 = .ok (.dup, 1) := by decide +kernel
theorem dX6_remember_61 : decode cX6_remember 61 = .ok (.getfield 25, 3) := by decide +kernel
theorem dX6_remember_64 : decode cX6_remember 64 = .ok (.iconst 1, 1) := by decide +kernel
theorem dX6_remember_65 : decode cX6_remember 65 = .ok (.iadd, 1) := by decide +kernel
theorem dX6_remember_66 : decode cX6_remember 66 = .ok (.putfield 25, 3) := by decide +kernel
theorem dX6_remember_69 : decode cX6_remember 69 = .ok (.return_, 1) := by decide +kernel
theorem dX6_stepBack_0 : decode cX6_stepBack 0 = .ok (.aload_n 0, 1) := by decide +kernel
theorem dX6_stepBack_1 : decode cX6_stepBack 1 = .ok (.dup, 1) := by decide +kernel
theorem dX6_stepBack_2 : decode cX6_stepBack 2 = .ok (.getfield 25, 3) := by decide +kernel
theorem dX6_stepBack_5 : decode cX6_stepBack 5 = .ok (.iconst 1, 1) := by decide +kernel
theorem dX6_stepBack_6 : decode cX6_stepBack 6 = .ok (.isub, 1) := by decide +kernel
theorem dX6_stepBack_7 : decode cX6_stepBack 7 = .ok (.putfield 25, 3) := by decide +kernel
theorem dX6_stepBack_10 : decode cX6_stepBack 10 = .ok (.aload_n 0, 1) := by decide +kernel
theorem dX6_stepBack_11 : decode cX6_stepBack 11 = .ok (.aload_n 0, 1) := by decide +kernel
theorem dX6_stepBack_12 : decode cX6_stepBack 12 = .ok (.getfield 9, 3) := by decide +kernel
theorem dX6_stepBack_15 : decode cX6_stepBack 15 = .ok (.aload_n 0, 1) := by decide +kernel
theorem dX6_stepBack_16 : decode cX6_stepBack 16 = .ok (.getfield 25, 3) := by decide +kernel
theorem dX6_stepBack_19 : decode cX6_stepBack 19 = .ok (.iaload, 1) := by decide +kernel
theorem dX6_stepBack_20 : decode cX6_stepBack 20 = .ok (.sipush 255, 3) := by decide +kernel
theorem dX6_stepBack_23 : decode cX6_stepBack 23 = .ok (.iand, 1) := by decide +kernel
theorem dX6_stepBack_24 : decode cX6_stepBack 24 = .ok (.putfield 15, 3) := by decide +kernel
theorem dX6_stepBack_27 : decode cX6_stepBack 27 = .ok (.aload_n 0, 1) := by decide +kernel
theorem dX6_stepBack_28 : decode cX6_stepBack 28 = .ok (.aload_n 0, 1) := by decide +kernel
theorem dX6_stepBack_29 : decode cX6_stepBack 29 = .ok (.getfield 9, 3) := by decide +kernel
theorem dX6_stepBack_32 : decode cX6_stepBack 32 = .ok (.aload_n 0, 1) := by decide +kernel
theorem dX6_stepBack_33 : decode cX6_stepBack 33 = .ok (.getfield 25, 3) := by decide +kernel
theorem dX6_stepBack_36 : decode cX6_stepBack 36 = .ok (.iaload, 1) := by decide +kernel
theorem dX6_stepBack_37 : decode cX6_stepBack 37 = .ok (.bipush 8, 2) := by decide +kernel
theorem dX6_stepBack_39 : decode cX6_stepBack 39 = .ok (.ishr, 1) := by decide +kernel
theorem dX6_stepBack_40 : decode cX6_stepBack 40 = .ok (.sipush 255, 3) := by decide +kernel
theorem dX6_stepBack_43 : decode cX6_stepBack 43 = .ok (.iand, 1) := by decide +kernel
theorem dX6_stepBack_44 : decode cX6_stepBack 44 = .ok (.putfield 19, 3) := by decide +kernel
theorem dX6_stepBack_47 : decode cX6_stepBack 47 = .ok (.aload_n 0, 1) := by decide +kernel
theorem dX6_stepBack_48 : decode cX6_stepBack 48 = .ok (.aload_n 0, 1) := by decide +kernel
theorem dX6_stepBack_49 : decode cX6_stepBack 49 = .ok (.getfield 9, 3) := by decide +kernel
theorem dX6_stepBack_52 : decode cX6_stepBack 52 = .ok (.aload_n 0, 1) := by decide +kernel
theorem dX6_stepBack_53 : decode cX6_stepBack 53 = .ok (.getfield 25, 3) := by decide +kernel
theorem dX6_stepBack_56 : decode cX6_stepBack 56 = .ok (.iaload, 1) := by decide +kernel
theorem dX6_stepBack_57 : decode cX6_stepBack 57 = .ok (.bipush 16, 2) := by decide +kernel
theorem dX6_stepBack_59 : decode cX6_stepBack 59 = .ok (.ishr, 1) := by decide +kernel
theorem dX6_stepBack_60 : decode cX6_stepBack 60 = .ok (.putfield 22, 3) := by decide +kernel
theorem dX6_stepBack_63 : decode cX6_stepBack 63 = .ok (.return_, 1) := by decide +kernel
theorem dX7_init_0 : decode cX7_init 0 = .ok (.aload_n 0, 1) := by decide +kernel
theorem dX7_init_1 : decode cX7_init 1 = .ok (.invokespecial 3, 3) := by decide +kernel
theorem dX7_init_4 : decode cX7_init 4 = .ok (.aload_n 0, 1) := by decide +kernel
theorem dX7_init_5 : decode cX7_init 5 = .ok (.sipush 200, 3) := by decide +kernel
theorem dX7_init_8 : decode cX7_init 8 = .ok (.newarray .int, 2) := by decide +kernel
theorem dX7_init_10 : decode cX7_init 10 = .ok (.putfield 9, 3) := by decide +kernel
theorem dX7_init_13 : decode cX7_init 13 = .ok (.aload_n 0, 1) := by decide +kernel
theorem dX7_init_14 : decode cX7_init 14 = .ok (.bipush 8, 2) := by decide +kernel
theorem dX7_init_16 : decode cX7_init 16 = .ok (.newarray .int, 2) := by decide +kernel
theorem dX7_init_18 : decode cX7_init 18 = .ok (.putfield 15, 3) := by decide +kernel
theorem dX7_init_21 : decode cX7_init 21 = .ok (.return_, 1) := by decide +kernel
theorem dX7_readInto_0 : decode cX7_readInto 0 = .ok (.aload_n 1, 1) := by decide +kernel
theorem dX7_readInto_1 : decode cX7_readInto 1 = .ok (.invokevirtual 18, 3) := by decide +kernel
theorem dX7_readInto_4 : decode cX7_readInto 4 = .ok (.aload_n 0, 1) := by decide +kernel
theorem dX7_readInto_5 : decode cX7_readInto 5 = .ok (.iconst 0, 1) := by decide +kernel
theorem dX7_readInto_6 : decode cX7_readInto 6 = .ok (.putfield 23, 3) := by decide +kernel
theorem dX7_readInto_9 : decode cX7_readInto 9 = .ok (.aload_n 0, 1) := by decide +kernel
theorem dX7_readInto_10 : decode cX7_readInto 10 = .ok (.iconst 0, 1) := by decide +kernel
theorem dX7_readInto_11 : decode cX7_readInto 11 = .ok (.putfield 27, 3) := by decide +kernel
theorem dX7_readInto_14 : decode cX7_readInto 14 = .ok (.aload_n 0, 1) := by decide +kernel
theorem dX7_readInto_15 : decode cX7_readInto 15 = .ok (.iconst 0, 1) := by decide +kernel
theorem dX7_readInto_16 : decode cX7_readInto 16 = .ok (.putfield 31, 3) := by decide +kernel
theorem dX7_readInto_19 : decode cX7_readInto 19 = .ok (.iconst 0, 1) := by decide +kernel
theorem dX7_readInto_20 : decode cX7_readInto 20 = .ok (.istore_n 2, 1) := by decide +kernel
theorem dX7_readInto_21 : decode cX7_readInto 21 = .ok (.iload_n 2, 1) := by decide +kernel
theorem dX7_readInto_22 : decode cX7_readInto 22 = .ok (.sipush 200, 3) := by decide +kernel
theorem dX7_readInto_25 : decode cX7_readInto 25 = .ok (.if_icmp .gt 38, 3) := by decide +kernel
theorem dX7_readInto_28 : decode cX7_readInto 28 = .ok (.aload_n 0, 1) := by decide +kernel
theorem dX7_readInto_29 : decode cX7_readInto 29 = .ok (.invokevirtual 34, 3) := by decide +kernel
theorem dX7_readInto_32 : decode cX7_readInto 32 = .ok (.aload_n 0, 1) := by decide +kernel
theorem dX7_readInto_33 : decode cX7_readInto 33 = .ok (.getfield 37, 3) := by decide +kernel
theorem dX7_readInto_36 : decode cX7_readInto 36 = .ok (.ifCond .ne 5, 3) := by decide +kernel
theorem dX7_readInto_39 : decode cX7_readInto 39 = .ok (.iload_n 2, 1) := by decide +kernel
theorem dX7_readInto_40 : decode cX7_readInto 40 = .ok (.ireturn, 1) := by decide +kernel
theorem dX7_readInto_41 : decode cX7_readInto 41 = .ok (.aload_n 0, 1) := by decide +kernel
theorem dX7_readInto_42 : decode cX7_readInto 42 = .ok (.aload_n 1, 1) := by decide +kernel
theorem dX7_readInto_43 : decode cX7_readInto 43 = .ok (.invokevirtual 40, 3) := by decide +kernel
theorem dX7_readInto_46 : decode cX7_readInto 46 = .ok (.ifCond .ne 11, 3) := by decide +kernel
theorem dX7_readInto_49 : decode cX7_readInto 49 = .ok (.bipush (-10), 2) := by decide +kernel
theorem dX7_readInto_51 : decode cX7_readInto 51 = .ok (.aload_n 0, 1) := by decide +kernel
theorem dX7_readInto_52 : decode cX7_readInto 52 = .ok (.getfield 44, 3) := by decide +kernel
theorem dX7_readInto_55 : decode cX7_readInto 55 = .ok (.isub, 1) := by decide +kernel
theorem dX7_readInto_56 : decode cX7_readInto 56 = .ok (.ireturn, 1) := by decide +kernel
theorem dX7_readInto_57 : decode cX7_readInto 57 = .ok (.iinc 2 1, 3) := by decide +kernel
theorem dX7_readInto_60 : decode cX7_readInto 60 = .ok (.goto (-39), 3) := by decide +kernel
theorem dX7_readInto_63 : decode cX7_readInto 63 = .ok (.bipush (-10), 2) := by decide +kernel
theorem dX7_readInto_65 : decode cX7_readInto 65 = .ok (.aload_n 0, 1) := by decide +kernel
theorem dX7_readInto_66 : decode cX7_readInto 66 = .ok (.getfield 47, 3) := by decide +kernel
theorem dX7_readInto_69 : decode cX7_readInto 69 = .ok (.isub, 1) := by decide +kernel
theorem dX7_readInto_70 : decode cX7_readInto 70 = .ok (.ireturn, 1) := by decide +kernel
theorem dX7_readItem_0 : decode cX7_readItem 0 = .ok (.aload_n 0, 1) := by decide +kernel
theorem dX7_readItem_1 : decode cX7_readItem 1 = .ok (.getfield 37, 3) := by decide +kernel
theorem dX7_readItem_4 : decode cX7_readItem 4 = .ok (.iconst 1, 1) := by decide +kernel
theorem dX7_readItem_5 : decode cX7_readItem 5 = .ok (.if_icmp .ne 15, 3) := by decide +kernel
theorem dX7_readItem_8 : decode cX7_readItem 8 = .ok (.aload_n 0, 1) := by decide +kernel
theorem dX7_readItem_9 : decode cX7_readItem 9 = .ok (.aload_n 0, 1) := by decide +kernel
theorem dX7_readItem_10 : decode cX7_readItem 10 = .ok (.getfield 50, 3) := by decide +kernel
theorem dX7_readItem_13 : decode cX7_readItem 13 = .ok (.aload_n 1, 1) := by decide +kernel
theorem dX7_readItem_14 : decode cX7_readItem 14 = .ok (.invokevirtual 53, 3) := by decide +kernel
theorem dX7_readItem_17 : decode cX7_readItem 17 = .ok (.ifCond .ne 5, 3) := by decide +kernel
theorem dX7_readItem_20 : decode cX7_readItem 20 = .ok (.iconst 0, 1) := by decide +kernel
theorem dX7_readItem_21 : decode cX7_readItem 21 = .ok (.ireturn, 1) := by decide +kernel
theorem dX7_readItem_22 : decode cX7_readItem 22 = .ok (.aload_n 0, 1) := by decide +kernel
theorem dX7_readItem_23 : decode cX7_readItem 23 = .ok (.getfield 50, 3) := by decide +kernel
theorem dX7_readItem_26 : decode cX7_readItem 26 = .ok (.istore_n 2, 1) := by decide +kernel
theorem dX7_readItem_27 : decode cX7_readItem 27 = .ok (.iload_n 2, 1) := by decide +kernel
theorem dX7_readItem_28 : decode cX7_readItem 28 = .ok (.aload_n 1, 1) := by decide +kernel
theorem dX7_readItem_29 : decode cX7_readItem 29 = .ok (.invokestatic 57, 3) := by decide +kernel
theorem dX7_readItem_32 : decode cX7_readItem 32 = .ok (.istore_n 3, 1) := by decide +kernel
theorem dX7_readItem_33 : decode cX7_readItem 33 = .ok (.iconst 0, 1) := by decide +kernel
theorem dX7_readItem_34 : decode cX7_readItem 34 = .ok (.istore 4, 2) := by decide +kernel
theorem dX7_readItem_36 : decode cX7_readItem 36 = .ok (.iload 4, 2) := by decide +kernel
theorem dX7_readItem_38 : decode cX7_readItem 38 = .ok (.iload_n 3, 1) := by decide +kernel
theorem dX7_readItem_39 : decode cX7_readItem 39 = .ok (.if_icmp .ge 58, 3) := by decide +kernel
theorem dX7_readItem_42 : decode cX7_readItem 42 = .ok (.aload_n 0, 1) := by decide +kernel
theorem dX7_readItem_43 : decode cX7_readItem 43 = .ok (.invokevirtual 34, 3) := by decide +kernel
theorem dX7_readItem_46 : decode cX7_readItem 46 = .ok (.aload_n 0, 1) := by decide +kernel
theorem dX7_readItem_47 : decode cX7_readItem 47 = .ok (.getfield 37, 3) := by decide +kernel
theorem dX7_readItem_50 : decode cX7_readItem 50 = .ok (.iconst 2, 1) := by decide +kernel
theorem dX7_readItem_51 : decode cX7_readItem 51 = .ok (.if_icmp .ne 27, 3) := by decide +kernel
theorem dX7_readItem_54 : decode cX7_readItem 54 = .ok (.aload_n 0, 1) := by decide +kernel
theorem dX7_readItem_55 : decode cX7_readItem 55 = .ok (.getfield 50, 3) := by decide +kernel
theorem dX7_readItem_58 : decode cX7_readItem 58 = .ok (.aload_n 0, 1) := by decide +kernel
theorem dX7_readItem_59 : decode cX7_readItem 59 = .ok (.iload_n 2, 1) := by decide +kernel
theorem dX7_readItem_60 : decode cX7_readItem 60 = .ok (.iload 4, 2) := by decide +kernel
theorem dX7_readItem_62 : decode cX7_readItem 62 = .ok (.invokevirtual 61, 3) := by decide +kernel
theorem dX7_readItem_65 : decode cX7_readItem 65 = .ok (.iload_n 2, 1) := by decide +kernel
theorem dX7_readItem_66 : decode cX7_readItem 66 = .ok (.iload 4, 2) := by decide +kernel
theorem dX7_readItem_68 : decode cX7_readItem 68 = .ok (.aload_n 1, 1) := by decide +kernel
theorem dX7_readItem_69 : decode cX7_readItem 69 = .ok (.invokestatic 65, 3) := by decide +kernel
theorem dX7_readItem_72 : decode cX7_readItem 72 = .ok (.invokestatic 69, 3) := by decide +kernel
theorem dX7_readItem_75 : decode cX7_readItem 75 = .ok (.ifCond .ne 5, 3) := by decide +kernel
theorem dX7_readItem_78 : decode cX7_readItem 78 = .ok (.iconst 0, 1) := by decide +kernel
theorem dX7_readItem_79 : decode cX7_readItem 79 = .ok (.ireturn, 1) := by decide +kernel
theorem dX7_readItem_80 : decode cX7_readItem 80 = .ok (.aload_n 0, 1) := by decide +kernel
theorem dX7_readItem_81 : decode cX7_readItem 81 = .ok (.getfield 15, 3) := by decide +kernel
theorem dX7_readItem_84 : decode cX7_readItem 84 = .ok (.iload 4, 2) := by decide +kernel
theorem dX7_readItem_86 : decode cX7_readItem 86 = .ok (.aload_n 0, 1) := by decide +kernel
theorem dX7_readItem_87 : decode cX7_readItem 87 = .ok (.getfield 50, 3) := by decide +kernel
theorem dX7_readItem_90 : decode cX7_readItem 90 = .ok (.iastore, 1) := by decide +kernel
theorem dX7_readItem_91 : decode cX7_readItem 91 = .ok (.iinc 4 1, 3) := by decide +kernel
theorem dX7_readItem_94 : decode cX7_readItem 94 = .ok (.goto (-58), 3) := by decide +kernel
theorem dX7_readItem_97 : decode cX7_readItem 97 = .ok (.aload_n 0, 1) := by decide +kernel
theorem dX7_readItem_98 : decode cX7_readItem 98 = .ok (.invokevirtual 34, 3) := by decide +kernel
theorem dX7_readItem_101 : decode cX7_readItem 101 = .ok (.aload_n 0, 1) := by decide +kernel
theorem dX7_readItem_102 : decode cX7_readItem 102 = .ok (.getfield 37, 3) := by decide +kernel
theorem dX7_readItem_105 : decode cX7_readItem 105 = .ok (.iconst 3, 1) := by decide +kernel
theorem dX7_readItem_106 : decode cX7_readItem 106 = .ok (.if_icmp .eq 5, 3) := by decide +kernel
theorem dX7_readItem_109 : decode cX7_readItem 109 = .ok (.iconst 0, 1) := by decide +kernel
theorem dX7_readItem_110 : decode cX7_readItem 110 = .ok (.ireturn, 1) := by decide +kernel
theorem dX7_readItem_111 : decode cX7_readItem 111 = .ok (.aload_n 0, 1) := by decide +kernel
theorem dX7_readItem_112 : decode cX7_readItem 112 = .ok (.iload_n 2, 1) := by decide +kernel
theorem dX7_readItem_113 : decode cX7_readItem 113 = .ok (.aload_n 1, 1) := by decide +kernel
theorem dX7_readItem_114 : decode cX7_readItem 114 = .ok (.invokevirtual 73, 3) := by decide +kernel
theorem dX7_readItem_117 : decode cX7_readItem 117 = .ok (.iconst 1, 1) := by decide +kernel
theorem dX7_readItem_118 : decode cX7_readItem 118 = .ok (.ireturn, 1) := by decide +kernel
theorem dX7_mayBegin_0 : decode cX7_mayBegin 0 = .ok (.iload_n 1, 1) := by decide +kernel
theorem dX7_mayBegin_1 : decode cX7_mayBegin 1 = .ok (.lookupswitch 122 #[(97, 81), (100, 109), (102, 66), (115, 51), (116, 96)], 51) := by decide +kernel
theorem dX7_mayBegin_52 : decode cX7_mayBegin 52 = .ok (.aload_n 2, 1) := by decide +kernel
theorem dX7_mayBegin_53 : decode cX7_mayBegin 53 = .ok (.getfield 77, 3) := by decide +kernel
theorem dX7_mayBegin_56 : decode cX7_mayBegin 56 = .ok (.bipush 6, 2) := by decide +kernel
theorem dX7_mayBegin_58 : decode cX7_mayBegin 58 = .ok (.if_icmp .ge 7, 3) := by decide +kernel
theorem dX7_mayBegin_61 : decode cX7_mayBegin 61 = .ok (.iconst 1, 1) := by decide +kernel
theorem dX7_mayBegin_62 : decode cX7_mayBegin 62 = .ok (.goto 4, 3) := by decide +kernel
theorem dX7_mayBegin_65 : decode cX7_mayBegin 65 = .ok (.iconst 0, 1) := by decide +kernel
theorem dX7_mayBegin_66 : decode cX7_mayBegin 66 = .ok (.ireturn, 1) := by decide +kernel
theorem dX7_mayBegin_67 : decode cX7_mayBegin 67 = .ok (.aload_n 2, 1) := by decide +kernel
theorem dX7_mayBegin_68 : decode cX7_mayBegin 68 = .ok (.getfield 80, 3) := by decide +kernel
theorem dX7_mayBegin_71 : decode cX7_mayBegin 71 = .ok (.bipush 8, 2) := by decide +kernel
theorem dX7_mayBegin_73 : decode cX7_mayBegin 73 = .ok (.if_icmp .ge 7, 3) := by decide +kernel
theorem dX7_mayBegin_76 : decode cX7_mayBegin 76 = .ok (.iconst 1, 1) := by decide +kernel
theorem dX7_mayBegin_77 : decode cX7_mayBegin 77 = .ok (.goto 4, 3) := by decide +kernel
theorem dX7_mayBegin_80 : decode cX7_mayBegin 80 = .ok (.iconst 0, 1) := by decide +kernel
theorem dX7_mayBegin_81 : decode cX7_mayBegin 81 = .ok (.ireturn, 1) := by decide +kernel
theorem dX7_mayBegin_82 : decode cX7_mayBegin 82 = .ok (.aload_n 2, 1) := by decide +kernel
theorem dX7_mayBegin_83 : decode cX7_mayBegin 83 = .ok (.getfield 83, 3) := by decide +kernel
theorem dX7_mayBegin_86 : decode cX7_mayBegin 86 = .ok (.bipush 8, 2) := by decide +kernel
theorem dX7_mayBegin_88 : decode cX7_mayBegin 88 = .ok (.if_icmp .ge 7, 3) := by decide +kernel
theorem dX7_mayBegin_91 : decode cX7_mayBegin 91 = .ok (.iconst 1, 1) := by decide +kernel
theorem dX7_mayBegin_92 : decode cX7_mayBegin 92 = .ok (.goto 4, 3) := by decide +kernel
theorem dX7_mayBegin_95 : decode cX7_mayBegin 95 = .ok (.iconst 0, 1) := by decide +kernel
theorem dX7_mayBegin_96 : decode cX7_mayBegin 96 = .ok (.ireturn, 1) := by decide +kernel
theorem dX7_mayBegin_97 : decode cX7_mayBegin 97 = .ok (.aload_n 0, 1) := by decide +kernel
theorem dX7_mayBegin_98 : decode cX7_mayBegin 98 = .ok (.getfield 27, 3) := by decide +kernel
theorem dX7_mayBegin_101 : decode cX7_mayBegin 101 = .ok (.ifCond .ne 7, 3) := by decide +kernel
theorem dX7_mayBegin_104 : decode cX7_mayBegin 104 = .ok (.iconst 1, 1) := by decide +kernel
theorem dX7_mayBegin_105 : decode cX7_mayBegin 105 = .ok (.goto 4, 3) := by decide +kernel
theorem dX7_mayBegin_108 : decode cX7_mayBegin 108 = .ok (.iconst 0, 1) := by decide +kernel
theorem dX7_mayBegin_109 : decode cX7_mayBegin 109 = .ok (.ireturn, 1) := by decide +kernel
theorem dX7_mayBegin_110 : decode cX7_mayBegin 110 = .ok (.aload_n 0, 1) := by decide +kernel
theorem dX7_mayBegin_111 : decode cX7_mayBegin 111 = .ok (.getfield 31, 3) := by decide +kernel
theorem dX7_mayBegin_114 : decode cX7_mayBegin 114 = .ok (.ifCond .ne 7, 3) := by decide +kernel
theorem dX7_mayBegin_117 : decode cX7_mayBegin 117 = .ok (.iconst 1, 1) := by decide +kernel
theorem dX7_mayBegin_118 : decode cX7_mayBegin 118 = .ok (.goto 4, 3) := by decide +kernel
theorem dX7_mayBegin_121 : decode cX7_mayBegin 121 = .ok (.iconst 0, 1) := by decide +kernel
theorem dX7_mayBegin_122 : decode cX7_mayBegin 122 = .ok (.ireturn, 1) := by decide +kernel
theorem dX7_mayBegin_123 : decode cX7_mayBegin 123 = .ok (.iconst 0, 1) := by decide +kernel
theorem dX7_mayBegin_124 : decode cX7_mayBegin 124 = .ok (.ireturn, 1) := by decide +kernel
theorem dX7_numbersDue_0 : decode cX7_numbersDue 0 = .ok (.iload_n 0, 1) := by decide +kernel
theorem dX7_numbersDue_1 : decode cX7_numbersDue 1 = .ok (.lookupswitch 46 #[(97, 42), (102, 35), (116, 44)], 35) := by decide +kernel
theorem dX7_numbersDue_36 : decode cX7_numbersDue 36 = .ok (.iconst 2, 1) := by decide +kernel
theorem dX7_numbersDue_37 : decode cX7_numbersDue 37 = .ok (.aload_n 1, 1) := by decide +kernel
theorem dX7_numbersDue_38 : decode cX7_numbersDue 38 = .ok (.getfield 77, 3) := by decide +kernel
theorem dX7_numbersDue_41 : decode cX7_numbersDue 41 = .ok (.iadd, 1) := by decide +kernel
theorem dX7_numbersDue_42 : decode cX7_numbersDue 42 = .ok (.ireturn, 1) := by decide +kernel
theorem dX7_numbersDue_43 : decode cX7_numbersDue 43 = .ok (.iconst 4, 1) := by decide +kernel
theorem dX7_numbersDue_44 : decode cX7_numbersDue 44 = .ok (.ireturn, 1) := by decide +kernel
theorem dX7_numbersDue_45 : decode cX7_numbersDue 45 = .ok (.iconst 2, 1) := by decide +kernel
theorem dX7_numbersDue_46 : decode cX7_numbersDue 46 = .ok (.ireturn, 1) := by decide +kernel
theorem dX7_numbersDue_47 : decode cX7_numbersDue 47 = .ok (.iconst 1, 1) := by decide +kernel
theorem dX7_numbersDue_48 : decode cX7_numbersDue 48 = .ok (.ireturn, 1) := by decide +kernel
theorem dX7_least_0 : decode cX7_least 0 = .ok (.iload_n 1, 1) := by decide +kernel
theorem dX7_least_1 : decode cX7_least 1 = .ok (.bipush 102, 2) := by decide +kernel
theorem dX7_least_3 : decode cX7_least 3 = .ok (.if_icmp .ne 9, 3) := by decide +kernel
theorem dX7_least_6 : decode cX7_least 6 = .ok (.iload_n 2, 1) := by decide +kernel
theorem dX7_least_7 : decode cX7_least 7 = .ok (.ifCond .ne 5, 3) := by decide +kernel
theorem dX7_least_10 : decode cX7_least 10 = .ok (.iconst 1, 1) := by decide +kernel
theorem dX7_least_11 : decode cX7_least 11 = .ok (.ireturn, 1) := by decide +kernel
theorem dX7_least_12 : decode cX7_least 12 = .ok (.iload_n 1, 1) := by decide +kernel
theorem dX7_least_13 : decode cX7_least 13 = .ok (.bipush 97, 2) := by decide +kernel
theorem dX7_least_15 : decode cX7_least 15 = .ok (.if_icmp .ne 15, 3) := by decide +kernel
theorem dX7_least_18 : decode cX7_least 18 = .ok (.iload_n 2, 1) := by decide +kernel
theorem dX7_least_19 : decode cX7_least 19 = .ok (.iconst 3, 1) := by decide +kernel
theorem dX7_least_20 : decode cX7_least 20 = .ok (.if_icmp .ne 10, 3) := by decide +kernel
theorem dX7_least_23 : decode cX7_least 23 = .ok (.aload_n 0, 1) := by decide +kernel
theorem dX7_least_24 : decode cX7_least 24 = .ok (.getfield 15, 3) := by decide +kernel
theorem dX7_least_27 : decode cX7_least 27 = .ok (.iconst 2, 1) := by decide +kernel
theorem dX7_least_28 : decode cX7_least 28 = .ok (.iaload, 1) := by decide +kernel
theorem dX7_least_29 : decode cX7_least 29 = .ok (.ireturn, 1) := by decide +kernel
theorem dX7_least_30 : decode cX7_least 30 = .ok (.iload_n 1, 1) := by decide +kernel
theorem dX7_least_31 : decode cX7_least 31 = .ok (.bipush 116, 2) := by decide +kernel
theorem dX7_least_33 : decode cX7_least 33 = .ok (.if_icmp .ne 17, 3) := by decide +kernel
theorem dX7_least_36 : decode cX7_least 36 = .ok (.iload_n 2, 1) := by decide +kernel
theorem dX7_least_37 : decode cX7_least 37 = .ok (.iconst 1, 1) := by decide +kernel
theorem dX7_least_38 : decode cX7_least 38 = .ok (.if_icmp .ne 12, 3) := by decide +kernel
theorem dX7_least_41 : decode cX7_least 41 = .ok (.aload_n 0, 1) := by decide +kernel
theorem dX7_least_42 : decode cX7_least 42 = .ok (.getfield 15, 3) := by decide +kernel
theorem dX7_least_45 : decode cX7_least 45 = .ok (.iconst 0, 1) := by decide +kernel
theorem dX7_least_46 : decode cX7_least 46 = .ok (.iaload, 1) := by decide +kernel
theorem dX7_least_47 : decode cX7_least 47 = .ok (.goto 4, 3) := by decide +kernel
theorem dX7_least_50 : decode cX7_least 50 = .ok (.iconst 0, 1) := by decide +kernel
theorem dX7_least_51 : decode cX7_least 51 = .ok (.ireturn, 1) := by decide +kernel
theorem dX7_most_0 : decode cX7_most 0 = .ok (.iload_n 0, 1) := by decide +kernel
theorem dX7_most_1 : decode cX7_most 1 = .ok (.lookupswitch 96 #[(97, 68), (102, 46), (115, 43), (116, 93)], 43) := by decide +kernel
theorem dX7_most_44 : decode cX7_most 44 = .ok (.bipush 20, 2) := by decide +kernel
theorem dX7_most_46 : decode cX7_most 46 = .ok (.ireturn, 1) := by decide +kernel
theorem dX7_most_47 : decode cX7_most 47 = .ok (.iload_n 1, 1) := by decide +kernel
theorem dX7_most_48 : decode cX7_most 48 = .ok (.ifCond .ne 8, 3) := by decide +kernel
theorem dX7_most_51 : decode cX7_most 51 = .ok (.bipush 9, 2) := by decide +kernel
theorem dX7_most_53 : decode cX7_most 53 = .ok (.goto 15, 3) := by decide +kernel
theorem dX7_most_56 : decode cX7_most 56 = .ok (.iload_n 1, 1) := by decide +kernel
theorem dX7_most_57 : decode cX7_most 57 = .ok (.iconst 1, 1) := by decide +kernel
theorem dX7_most_58 : decode cX7_most 58 = .ok (.if_icmp .ne 8, 3) := by decide +kernel
theorem dX7_most_61 : decode cX7_most 61 = .ok (.bipush 10, 2) := by decide +kernel
theorem dX7_most_63 : decode cX7_most 63 = .ok (.goto 5, 3) := by decide +kernel
theorem dX7_most_66 : decode cX7_most 66 = .ok (.bipush 18, 2) := by decide +kernel
theorem dX7_most_68 : decode cX7_most 68 = .ok (.ireturn, 1) := by decide +kernel
theorem dX7_most_69 : decode cX7_most 69 = .ok (.iload_n 1, 1) := by decide +kernel
theorem dX7_most_70 : decode cX7_most 70 = .ok (.ifCond .ne 12, 3) := by decide +kernel
theorem dX7_most_73 : decode cX7_most 73 = .ok (.aload_n 2, 1) := by decide +kernel
theorem dX7_most_74 : decode cX7_most 74 = .ok (.getfield 77, 3) := by decide +kernel
theorem dX7_most_77 : decode cX7_most 77 = .ok (.iconst 1, 1) := by decide +kernel
theorem dX7_most_78 : decode cX7_most 78 = .ok (.isub, 1) := by decide +kernel
theorem dX7_most_79 : decode cX7_most 79 = .ok (.goto 14, 3) := by decide +kernel
theorem dX7_most_82 : decode cX7_most 82 = .ok (.iload_n 1, 1) := by decide +kernel
theorem dX7_most_83 : decode cX7_most 83 = .ok (.iconst 1, 1) := by decide +kernel
theorem dX7_most_84 : decode cX7_most 84 = .ok (.if_icmp .ne 7, 3) := by decide +kernel
theorem dX7_most_87 : decode cX7_most 87 = .ok (.iconst 3, 1) := by decide +kernel
theorem dX7_most_88 : decode cX7_most 88 = .ok (.goto 5, 3) := by decide +kernel
theorem dX7_most_91 : decode cX7_most 91 = .ok (.bipush 23, 2) := by decide +kernel
theorem dX7_most_93 : decode cX7_most 93 = .ok (.ireturn, 1) := by decide +kernel
theorem dX7_most_94 : decode cX7_most 94 = .ok (.bipush 23, 2) := by decide +kernel
theorem dX7_most_96 : decode cX7_most 96 = .ok (.ireturn, 1) := by decide +kernel
theorem dX7_most_97 : decode cX7_most 97 = .ok (.bipush 60, 2) := by decide +kernel
theorem dX7_most_99 : decode cX7_most 99 = .ok (.ireturn, 1) := by decide +kernel
theorem dX7_addItem_0 : decode cX7_addItem 0 = .ok (.iload_n 1, 1) := by decide +kernel
theorem dX7_addItem_1 : decode cX7_addItem 1 = .ok (.lookupswitch 106 #[(97, 67), (102, 56), (115, 43), (116, 78)], 43) := by decide +kernel
theorem dX7_addItem_44 : decode cX7_addItem 44 = .ok (.aload_n 2, 1) := by decide +kernel
theorem dX7_addItem_45 : decode cX7_addItem 45 = .ok (.aload_n 0, 1) := by decide +kernel
theorem dX7_addItem_46 : decode cX7_addItem 46 = .ok (.getfield 15, 3) := by decide +kernel
theorem dX7_addItem_49 : decode cX7_addItem 49 = .ok (.iconst 0, 1) := by decide +kernel
theorem dX7_addItem_50 : decode cX7_addItem 50 = .ok (.iaload, 1) := by decide +kernel
theorem dX7_addItem_51 : decode cX7_addItem 51 = .ok (.invokevirtual 86, 3) := by decide +kernel
theorem dX7_addItem_54 : decode cX7_addItem 54 = .ok (.goto 68, 3) := by decide +kernel
theorem dX7_addItem_57 : decode cX7_addItem 57 = .ok (.aload_n 2, 1) := by decide +kernel
theorem dX7_addItem_58 : decode cX7_addItem 58 = .ok (.aload_n 0, 1) := by decide +kernel
theorem dX7_addItem_59 : decode cX7_addItem 59 = .ok (.getfield 15, 3) := by decide +kernel
theorem dX7_addItem_62 : decode cX7_addItem 62 = .ok (.invokevirtual 90, 3) := by decide +kernel
theorem dX7_addItem_65 : decode cX7_addItem 65 = .ok (.goto 57, 3) := by decide +kernel
theorem dX7_addItem_68 : decode cX7_addItem 68 = .ok (.aload_n 2, 1) := by decide +kernel
theorem dX7_addItem_69 : decode cX7_addItem 69 = .ok (.aload_n 0, 1) := by decide +kernel
theorem dX7_addItem_70 : decode cX7_addItem 70 = .ok (.getfield 15, 3) := by decide +kernel
theorem dX7_addItem_73 : decode cX7_addItem 73 = .ok (.invokevirtual 94, 3) := by decide +kernel
theorem dX7_addItem_76 : decode cX7_addItem 76 = .ok (.goto 46, 3) := by decide +kernel
theorem dX7_addItem_79 : decode cX7_addItem 79 = .ok (.aload_n 2, 1) := by decide +kernel
theorem dX7_addItem_80 : decode cX7_addItem 80 = .ok (.aload_n 0, 1) := by decide +kernel
theorem dX7_addItem_81 : decode cX7_addItem 81 = .ok (.getfield 15, 3) := by decide +kernel
theorem dX7_addItem_84 : decode cX7_addItem 84 = .ok (.iconst 0, 1) := by decide +kernel
theorem dX7_addItem_85 : decode cX7_addItem 85 = .ok (.iaload, 1) := by decide +kernel
theorem dX7_addItem_86 : decode cX7_addItem 86 = .ok (.putfield 97, 3) := by decide +kernel
theorem dX7_addItem_89 : decode cX7_addItem 89 = .ok (.aload_n 2, 1) := by decide +kernel
theorem dX7_addItem_90 : decode cX7_addItem 90 = .ok (.aload_n 0, 1) := by decide +kernel
theorem dX7_addItem_91 : decode cX7_addItem 91 = .ok (.getfield 15, 3) := by decide +kernel
theorem dX7_addItem_94 : decode cX7_addItem 94 = .ok (.iconst 1, 1) := by decide +kernel
theorem dX7_addItem_95 : decode cX7_addItem 95 = .ok (.iaload, 1) := by decide +kernel
theorem dX7_addItem_96 : decode cX7_addItem 96 = .ok (.putfield 100, 3) := by decide +kernel
theorem dX7_addItem_99 : decode cX7_addItem 99 = .ok (.aload_n 0, 1) := by decide +kernel
theorem dX7_addItem_100 : decode cX7_addItem 100 = .ok (.iconst 1, 1) := by decide +kernel
theorem dX7_addItem_101 : decode cX7_addItem 101 = .ok (.putfield 27, 3) := by decide +kernel
theorem dX7_addItem_104 : decode cX7_addItem 104 = .ok (.goto 18, 3) := by decide +kernel
theorem dX7_addItem_107 : decode cX7_addItem 107 = .ok (.aload_n 2, 1) := by decide +kernel
theorem dX7_addItem_108 : decode cX7_addItem 108 = .ok (.aload_n 0, 1) := by decide +kernel
theorem dX7_addItem_109 : decode cX7_addItem 109 = .ok (.getfield 15, 3) := by decide +kernel
theorem dX7_addItem_112 : decode cX7_addItem 112 = .ok (.iconst 0, 1) := by decide +kernel
theorem dX7_addItem_113 : decode cX7_addItem 113 = .ok (.iaload, 1) := by decide +kernel
theorem dX7_addItem_114 : decode cX7_addItem 114 = .ok (.putfield 103, 3) := by decide +kernel
theorem dX7_addItem_117 : decode cX7_addItem 117 = .ok (.aload_n 0, 1) := by decide +kernel
theorem dX7_addItem_118 : decode cX7_addItem 118 = .ok (.iconst 1, 1) := by decide +kernel
theorem dX7_addItem_119 : decode cX7_addItem 119 = .ok (.putfield 31, 3) := by decide +kernel
theorem dX7_addItem_122 : decode cX7_addItem 122 = .ok (.return_, 1) := by decide +kernel
theorem dX7_nextToken_0 : decode cX7_nextToken 0 = .ok (.aload_n 0, 1) := by decide +kernel
theorem dX7_nextToken_1 : decode cX7_nextToken 1 = .ok (.getfield 23, 3) := by decide +kernel
theorem dX7_nextToken_4 : decode cX7_nextToken 4 = .ok (.aload_n 0, 1) := by decide +kernel
theorem dX7_nextToken_5 : decode cX7_nextToken 5 = .ok (.getfield 47, 3) := by decide +kernel
theorem dX7_nextToken_8 : decode cX7_nextToken 8 = .ok (.if_icmp .ge 30, 3) := by decide +kernel
theorem dX7_nextToken_11 : decode cX7_nextToken 11 = .ok (.aload_n 0, 1) := by decide +kernel
theorem dX7_nextToken_12 : decode cX7_nextToken 12 = .ok (.getfield 9, 3) := by decide +kernel
theorem dX7_nextToken_15 : decode cX7_nextToken 15 = .ok (.aload_n 0, 1) := by decide +kernel
theorem dX7_nextToken_16 : decode cX7_nextToken 16 = .ok (.getfield 23, 3) := by decide +kernel
theorem dX7_nextToken_19 : decode cX7_nextToken 19 = .ok (.iaload, 1) := by decide +kernel
theorem dX7_nextToken_20 : decode cX7_nextToken 20 = .ok (.bipush 32, 2) := by decide +kernel
theorem dX7_nextToken_22 : decode cX7_nextToken 22 = .ok (.if_icmp .ne 16, 3) := by decide +kernel
theorem dX7_nextToken_25 : decode cX7_nextToken 25 = .ok (.aload_n 0, 1) := by decide +kernel
theorem dX7_nextToken_26 : decode cX7_nextToken 26 = .ok (.dup, 1) := by decide +kernel
theorem dX7_nextToken_27 : decode cX7_nextToken 27 = .ok (.getfield 23, 3) := by decide +kernel
theorem dX7_nextToken_30 : decode cX7_nextToken 30 = .ok (.iconst 1, 1) := by decide +kernel
theorem dX7_nextToken_31 : decode cX7_nextToken 31 = .ok (.iadd, 1) := by decide +kernel
theorem dX7_nextToken_32 : decode cX7_nextToken 32 = .ok (.putfield 23, 3) := by decide +kernel
theorem dX7_nextToken_35 : decode cX7_nextToken 35 = .ok (.goto (-35), 3) := by decide +kernel
theorem dX7_nextToken_38 : decode cX7_nextToken 38 = .ok (.aload_n 0, 1) := by decide +kernel
theorem dX7_nextToken_39 : decode cX7_nextToken 39 = .ok (.aload_n 0, 1) := by decide +kernel
theorem dX7_nextToken_40 : decode cX7_nextToken 40 = .ok (.getfield 23, 3) := by decide +kernel
theorem dX7_nextToken_43 : decode cX7_nextToken 43 = .ok (.putfield 44, 3) := by decide +kernel
theorem dX7_nextToken_46 : decode cX7_nextToken 46 = .ok (.aload_n 0, 1) := by decide +kernel
theorem dX7_nextToken_47 : decode cX7_nextToken 47 = .ok (.iconst 0, 1) := by decide +kernel
theorem dX7_nextToken_48 : decode cX7_nextToken 48 = .ok (.putfield 50, 3) := by decide +kernel
theorem dX7_nextToken_51 : decode cX7_nextToken 51 = .ok (.aload_n 0, 1) := by decide +kernel
theorem dX7_nextToken_52 : decode cX7_nextToken 52 = .ok (.getfield 23, 3) := by decide +kernel
theorem dX7_nextToken_55 : decode cX7_nextToken 55 = .ok (.aload_n 0, 1) := by decide +kernel
theorem dX7_nextToken_56 : decode cX7_nextToken 56 = .ok (.getfield 47, 3) := by decide +kernel
theorem dX7_nextToken_59 : decode cX7_nextToken 59 = .ok (.if_icmp .lt 11, 3) := by decide +kernel
theorem dX7_nextToken_62 : decode cX7_nextToken 62 = .ok (.aload_n 0, 1) := by decide +kernel
theorem dX7_nextToken_63 : decode cX7_nextToken 63 = .ok (.iconst 0, 1) := by decide +kernel
theorem dX7_nextToken_64 : decode cX7_nextToken 64 = .ok (.putfield 37, 3) := by decide +kernel
theorem dX7_nextToken_67 : decode cX7_nextToken 67 = .ok (.goto 92, 3) := by decide +kernel
theorem dX7_nextToken_70 : decode cX7_nextToken 70 = .ok (.aload_n 0, 1) := by decide +kernel
theorem dX7_nextToken_71 : decode cX7_nextToken 71 = .ok (.getfield 9, 3) := by decide +kernel
theorem dX7_nextToken_74 : decode cX7_nextToken 74 = .ok (.aload_n 0, 1) := by decide +kernel
theorem dX7_nextToken_75 : decode cX7_nextToken 75 = .ok (.getfield 23, 3) := by decide +kernel
theorem dX7_nextToken_78 : decode cX7_nextToken 78 = .ok (.iaload, 1) := by decide +kernel
theorem dX7_nextToken_79 : decode cX7_nextToken 79 = .ok (.bipush 59, 2) := by decide +kernel
theorem dX7_nextToken_81 : decode cX7_nextToken 81 = .ok (.if_icmp .ne 21, 3) := by decide +kernel
theorem dX7_nextToken_84 : decode cX7_nextToken 84 = .ok (.aload_n 0, 1) := by decide +kernel
theorem dX7_nextToken_85 : decode cX7_nextToken 85 = .ok (.iconst 3, 1) := by decide +kernel
theorem dX7_nextToken_86 : decode cX7_nextToken 86 = .ok (.putfield 37, 3) := by decide +kernel
theorem dX7_nextToken_89 : decode cX7_nextToken 89 = .ok (.aload_n 0, 1) := by decide +kernel
theorem dX7_nextToken_90 : decode cX7_nextToken 90 = .ok (.dup, 1) := by decide +kernel
theorem dX7_nextToken_91 : decode cX7_nextToken 91 = .ok (.getfield 23, 3) := by decide +kernel
theorem dX7_nextToken_94 : decode cX7_nextToken 94 = .ok (.iconst 1, 1) := by decide +kernel
theorem dX7_nextToken_95 : decode cX7_nextToken 95 = .ok (.iadd, 1) := by decide +kernel
theorem dX7_nextToken_96 : decode cX7_nextToken 96 = .ok (.putfield 23, 3) := by decide +kernel
theorem dX7_nextToken_99 : decode cX7_nextToken 99 = .ok (.goto 60, 3) := by decide +kernel
theorem dX7_nextToken_102 : decode cX7_nextToken 102 = .ok (.aload_n 0, 1) := by decide +kernel
theorem dX7_nextToken_103 : decode cX7_nextToken 103 = .ok (.getfield 9, 3) := by decide +kernel
theorem dX7_nextToken_106 : decode cX7_nextToken 106 = .ok (.aload_n 0, 1) := by decide +kernel
theorem dX7_nextToken_107 : decode cX7_nextToken 107 = .ok (.getfield 23, 3) := by decide +kernel
theorem dX7_nextToken_110 : decode cX7_nextToken 110 = .ok (.iaload, 1) := by decide +kernel
theorem dX7_nextToken_111 : decode cX7_nextToken 111 = .ok (.bipush 97, 2) := by decide +kernel
theorem dX7_nextToken_113 : decode cX7_nextToken 113 = .ok (.bipush 122, 2) := by decide +kernel
theorem dX7_nextToken_115 : decode cX7_nextToken 115 = .ok (.invokestatic 69, 3) := by decide +kernel
theorem dX7_nextToken_118 : decode cX7_nextToken 118 = .ok (.ifCond .eq 10, 3) := by decide +kernel
theorem dX7_nextToken_121 : decode cX7_nextToken 121 = .ok (.aload_n 0, 1) := by decide +kernel
theorem dX7_nextToken_122 : decode cX7_nextToken 122 = .ok (.invokevirtual 106, 3) := by decide +kernel
theorem dX7_nextToken_125 : decode cX7_nextToken 125 = .ok (.goto 34, 3) := by decide +kernel
theorem dX7_nextToken_128 : decode cX7_nextToken 128 = .ok (.aload_n 0, 1) := by decide +kernel
theorem dX7_nextToken_129 : decode cX7_nextToken 129 = .ok (.getfield 9, 3) := by decide +kernel
theorem dX7_nextToken_132 : decode cX7_nextToken 132 = .ok (.aload_n 0, 1) := by decide +kernel
theorem dX7_nextToken_133 : decode cX7_nextToken 133 = .ok (.getfield 23, 3) := by decide +kernel
theorem dX7_nextToken_136 : decode cX7_nextToken 136 = .ok (.iaload, 1) := by decide +kernel
theorem dX7_nextToken_137 : decode cX7_nextToken 137 = .ok (.bipush 48, 2) := by decide +kernel
theorem dX7_nextToken_139 : decode cX7_nextToken 139 = .ok (.bipush 57, 2) := by decide +kernel
theorem dX7_nextToken_141 : decode cX7_nextToken 141 = .ok (.invokestatic 69, 3) := by decide +kernel
theorem dX7_nextToken_144 : decode cX7_nextToken 144 = .ok (.ifCond .eq 10, 3) := by decide +kernel
theorem dX7_nextToken_147 : decode cX7_nextToken 147 = .ok (.aload_n 0, 1) := by decide +kernel
theorem dX7_nextToken_148 : decode cX7_nextToken 148 = .ok (.invokevirtual 109, 3) := by decide +kernel
theorem dX7_nextToken_151 : decode cX7_nextToken 151 = .ok (.goto 8, 3) := by decide +kernel
theorem dX7_nextToken_154 : decode cX7_nextToken 154 = .ok (.aload_n 0, 1) := by decide +kernel
theorem dX7_nextToken_155 : decode cX7_nextToken 155 = .ok (.iconst 4, 1) := by decide +kernel
theorem dX7_nextToken_156 : decode cX7_nextToken 156 = .ok (.putfield 37, 3) := by decide +kernel
theorem dX7_nextToken_159 : decode cX7_nextToken 159 = .ok (.return_, 1) := by decide +kernel
theorem dX7_takeLetters_0 : decode cX7_takeLetters 0 = .ok (.aload_n 0, 1) := by decide +kernel
theorem dX7_takeLetters_1 : decode cX7_takeLetters 1 = .ok (.getfield 9, 3) := by decide +kernel
theorem dX7_takeLetters_4 : decode cX7_takeLetters 4 = .ok (.aload_n 0, 1) := by decide +kernel
theorem dX7_takeLetters_5 : decode cX7_takeLetters 5 = .ok (.getfield 23, 3) := by decide +kernel
theorem dX7_takeLetters_8 : decode cX7_takeLetters 8 = .ok (.iaload, 1) := by decide +kernel
theorem dX7_takeLetters_9 : decode cX7_takeLetters 9 = .ok (.istore_n 1, 1) := by decide +kernel
theorem dX7_takeLetters_10 : decode cX7_takeLetters 10 = .ok (.aload_n 0, 1) := by decide +kernel
theorem dX7_takeLetters_11 : decode cX7_takeLetters 11 = .ok (.getfield 23, 3) := by decide +kernel
theorem dX7_takeLetters_14 : decode cX7_takeLetters 14 = .ok (.aload_n 0, 1) := by decide +kernel
theorem dX7_takeLetters_15 : decode cX7_takeLetters 15 = .ok (.getfield 47, 3) := by decide +kernel
theorem dX7_takeLetters_18 : decode cX7_takeLetters 18 = .ok (.if_icmp .ge 35, 3) := by decide +kernel
theorem dX7_takeLetters_21 : decode cX7_takeLetters 21 = .ok (.aload_n 0, 1) := by decide +kernel
theorem dX7_takeLetters_22 : decode cX7_takeLetters 22 = .ok (.getfield 9, 3) := by decide +kernel
theorem dX7_takeLetters_25 : decode cX7_takeLetters 25 = .ok (.aload_n 0, 1) := by decide +kernel
theorem dX7_takeLetters_26 : decode cX7_takeLetters 26 = .ok (.getfield 23, 3) := by decide +kernel
theorem dX7_takeLetters_29 : decode cX7_takeLetters 29 = .ok (.iaload, 1) := by decide +kernel
theorem dX7_takeLetters_30 : decode cX7_takeLetters 30 = .ok (.bipush 97, 2) := by decide +kernel
theorem dX7_takeLetters_32 : decode cX7_takeLetters 32 = .ok (.bipush 122, 2) := by decide +kernel
theorem dX7_takeLetters_34 : decode cX7_takeLetters 34 = .ok (.invokestatic 69, 3) := by decide +kernel
theorem dX7_takeLetters_37 : decode cX7_takeLetters 37 = .ok (.ifCond .eq 16, 3) := by decide +kernel
theorem dX7_takeLetters_40 : decode cX7_takeLetters 40 = .ok (.aload_n 0, 1) := by decide +kernel
theorem dX7_takeLetters_41 : decode cX7_takeLetters 41 = .ok (.dup, 1) := by decide +kernel
theorem dX7_takeLetters_42 : decode cX7_takeLetters 42 = .ok (.getfield 23, 3) := by decide +kernel
theorem dX7_takeLetters_45 : decode cX7_takeLetters 45 = .ok (.iconst 1, 1) := by decide +kernel
theorem dX7_takeLetters_46 : decode cX7_takeLetters 46 = .ok (.iadd, 1) := by decide +kernel
theorem dX7_takeLetters_47 : decode cX7_takeLetters 47 = .ok (.putfield 23, 3) := by decide +kernel
theorem dX7_takeLetters_50 : decode cX7_takeLetters 50 = .ok (.goto (-40), 3) := by decide +kernel
theorem dX7_takeLetters_53 : decode cX7_takeLetters 53 = .ok (.aload_n 0, 1) := by decide +kernel
theorem dX7_takeLetters_54 : decode cX7_takeLetters 54 = .ok (.iconst 1, 1) := by decide +kernel
theorem dX7_takeLetters_55 : decode cX7_takeLetters 55 = .ok (.putfield 37, 3) := by decide +kernel
theorem dX7_takeLetters_58 : decode cX7_takeLetters 58 = .ok (.aload_n 0, 1) := by decide +kernel
theorem dX7_takeLetters_59 : decode cX7_takeLetters 59 = .ok (.aload_n 0, 1) := by decide +kernel
theorem dX7_takeLetters_60 : decode cX7_takeLetters 60 = .ok (.getfield 23, 3) := by decide +kernel
theorem dX7_takeLetters_63 : decode cX7_takeLetters 63 = .ok (.aload_n 0, 1) := by decide +kernel
theorem dX7_takeLetters_64 : decode cX7_takeLetters 64 = .ok (.getfield 44, 3) := by decide +kernel
theorem dX7_takeLetters_67 : decode cX7_takeLetters 67 = .ok (.isub, 1) := by decide +kernel
theorem dX7_takeLetters_68 : decode cX7_takeLetters 68 = .ok (.iconst 1, 1) := by decide +kernel
theorem dX7_takeLetters_69 : decode cX7_takeLetters 69 = .ok (.if_icmp .ne 7, 3) := by decide +kernel
theorem dX7_takeLetters_72 : decode cX7_takeLetters 72 = .ok (.iload_n 1, 1) := by decide +kernel
theorem dX7_takeLetters_73 : decode cX7_takeLetters 73 = .ok (.goto 4, 3) := by decide +kernel
theorem dX7_takeLetters_76 : decode cX7_takeLetters 76 = .ok (.iconst 0, 1) := by decide +kernel
theorem dX7_takeLetters_77 : decode cX7_takeLetters 77 = .ok (.putfield 50, 3) := by decide +kernel
theorem dX7_takeLetters_80 : decode cX7_takeLetters 80 = .ok (.return_, 1) := by decide +kernel
theorem dX7_takeNumber_0 : decode cX7_takeNumber 0 = .ok (.aload_n 0, 1) := by decide +kernel
theorem dX7_takeNumber_1 : decode cX7_takeNumber 1 = .ok (.getfield 9, 3) := by decide +kernel
theorem dX7_takeNumber_4 : decode cX7_takeNumber 4 = .ok (.aload_n 0, 1) := by decide +kernel
theorem dX7_takeNumber_5 : decode cX7_takeNumber 5 = .ok (.getfield 23, 3) := by decide +kernel
theorem dX7_takeNumber_8 : decode cX7_takeNumber 8 = .ok (.iaload, 1) := by decide +kernel
theorem dX7_takeNumber_9 : decode cX7_takeNumber 9 = .ok (.istore_n 1, 1) := by decide +kernel
theorem dX7_takeNumber_10 : decode cX7_takeNumber 10 = .ok (.aload_n 0, 1) := by decide +kernel
theorem dX7_takeNumber_11 : decode cX7_takeNumber 11 = .ok (.getfield 23, 3) := by decide +kernel
theorem dX7_takeNumber_14 : decode cX7_takeNumber 14 = .ok (.aload_n 0, 1) := by decide +kernel
theorem dX7_takeNumber_15 : decode cX7_takeNumber 15 = .ok (.getfield 47, 3) := by decide +kernel
theorem dX7_takeNumber_18 : decode cX7_takeNumber 18 = .ok (.if_icmp .ge 65, 3) := by decide +kernel
theorem dX7_takeNumber_21 : decode cX7_takeNumber 21 = .ok (.aload_n 0, 1) := by decide +kernel
theorem dX7_takeNumber_22 : decode cX7_takeNumber 22 = .ok (.getfield 9, 3) := by decide +kernel
theorem dX7_takeNumber_25 : decode cX7_takeNumber 25 = .ok (.aload_n 0, 1) := by decide +kernel
theorem dX7_takeNumber_26 : decode cX7_takeNumber 26 = .ok (.getfield 23, 3) := by decide +kernel
theorem dX7_takeNumber_29 : decode cX7_takeNumber 29 = .ok (.iaload, 1) := by decide +kernel
theorem dX7_takeNumber_30 : decode cX7_takeNumber 30 = .ok (.bipush 48, 2) := by decide +kernel
theorem dX7_takeNumber_32 : decode cX7_takeNumber 32 = .ok (.bipush 57, 2) := by decide +kernel
theorem dX7_takeNumber_34 : decode cX7_takeNumber 34 = .ok (.invokestatic 69, 3) := by decide +kernel
theorem dX7_takeNumber_37 : decode cX7_takeNumber 37 = .ok (.ifCond .eq 46, 3) := by decide +kernel
theorem dX7_takeNumber_40 : decode cX7_takeNumber 40 = .ok (.aload_n 0, 1) := by decide +kernel
theorem dX7_takeNumber_41 : decode cX7_takeNumber 41 = .ok (.aload_n 0, 1) := by decide +kernel
theorem dX7_takeNumber_42 : decode cX7_takeNumber 42 = .ok (.getfield 50, 3) := by decide +kernel
theorem dX7_takeNumber_45 : decode cX7_takeNumber 45 = .ok (.bipush 10, 2) := by decide +kernel
theorem dX7_takeNumber_47 : decode cX7_takeNumber 47 = .ok (.imul, 1) := by decide +kernel
theorem dX7_takeNumber_48 : decode cX7_takeNumber 48 = .ok (.aload_n 0, 1) := by decide +kernel
theorem dX7_takeNumber_49 : decode cX7_takeNumber 49 = .ok (.getfield 9, 3) := by decide +kernel
theorem dX7_takeNumber_52 : decode cX7_takeNumber 52 = .ok (.aload_n 0, 1) := by decide +kernel
theorem dX7_takeNumber_53 : decode cX7_takeNumber 53 = .ok (.getfield 23, 3) := by decide +kernel
theorem dX7_takeNumber_56 : decode cX7_takeNumber 56 = .ok (.iaload, 1) := by decide +kernel
theorem dX7_takeNumber_57 : decode cX7_takeNumber 57 = .ok (.iadd, 1) := by decide +kernel
theorem dX7_takeNumber_58 : decode cX7_takeNumber 58 = .ok (.bipush 48, 2) := by decide +kernel
theorem dX7_takeNumber_60 : decode cX7_takeNumber 60 = .ok (.isub, 1) := by decide +kernel
theorem dX7_takeNumber_61 : decode cX7_takeNumber 61 = .ok (.sipush 1000, 3) := by decide +kernel
theorem dX7_takeNumber_64 : decode cX7_takeNumber 64 = .ok (.invokestatic 112, 3) := by decide +kernel
theorem dX7_takeNumber_67 : decode cX7_takeNumber 67 = .ok (.putfield 50, 3) := by decide +kernel
theorem dX7_takeNumber_70 : decode cX7_takeNumber 70 = .ok (.aload_n 0, 1) := by decide +kernel
theorem dX7_takeNumber_71 : decode cX7_takeNumber 71 = .ok (.dup, 1) := by decide +kernel
theorem dX7_takeNumber_72 : decode cX7_takeNumber 72 = .ok (.getfield 23, 3) := by decide +kernel
theorem dX7_takeNumber_75 : decode cX7_takeNumber 75 = .ok (.iconst 1, 1) := by decide +kernel
theorem dX7_takeNumber_76 : decode cX7_takeNumber 76 = .ok (.iadd, 1) := by decide +kernel
theorem dX7_takeNumber_77 : decode cX7_takeNumber 77 = .ok (.putfield 23, 3) := by decide +kernel
theorem dX7_takeNumber_80 : decode cX7_takeNumber 80 = .ok (.goto (-70), 3) := by decide +kernel
theorem dX7_takeNumber_83 : decode cX7_takeNumber 83 = .ok (.aload_n 0, 1) := by decide +kernel
theorem dX7_takeNumber_84 : decode cX7_takeNumber 84 = .ok (.getfield 23, 3) := by decide +kernel
theorem dX7_takeNumber_87 : decode cX7_takeNumber 87 = .ok (.aload_n 0, 1) := by decide +kernel
theorem dX7_takeNumber_88 : decode cX7_takeNumber 88 = .ok (.getfield 44, 3) := by decide +kernel
theorem dX7_takeNumber_91 : decode cX7_takeNumber 91 = .ok (.isub, 1) := by decide +kernel
theorem dX7_takeNumber_92 : decode cX7_takeNumber 92 = .ok (.istore_n 2, 1) := by decide +kernel
theorem dX7_takeNumber_93 : decode cX7_takeNumber 93 = .ok (.aload_n 0, 1) := by decide +kernel
theorem dX7_takeNumber_94 : decode cX7_takeNumber 94 = .ok (.iload_n 2, 1) := by decide +kernel
theorem dX7_takeNumber_95 : decode cX7_takeNumber 95 = .ok (.iconst 2, 1) := by decide +kernel
theorem dX7_takeNumber_96 : decode cX7_takeNumber 96 = .ok (.if_icmp .gt 14, 3) := by decide +kernel
theorem dX7_takeNumber_99 : decode cX7_takeNumber 99 = .ok (.iload_n 2, 1) := by decide +kernel
theorem dX7_takeNumber_100 : decode cX7_takeNumber 100 = .ok (.iconst 2, 1) := by decide +kernel
theorem dX7_takeNumber_101 : decode cX7_takeNumber 101 = .ok (.if_icmp .ne 13, 3) := by decide +kernel
theorem dX7_takeNumber_104 : decode cX7_takeNumber 104 = .ok (.iload_n 1, 1) := by decide +kernel
theorem dX7_takeNumber_105 : decode cX7_takeNumber 105 = .ok (.bipush 48, 2) := by decide +kernel
theorem dX7_takeNumber_107 : decode cX7_takeNumber 107 = .ok (.if_icmp .ne 7, 3) := by decide +kernel
theorem dX7_takeNumber_110 : decode cX7_takeNumber 110 = .ok (.iconst 4, 1) := by decide +kernel
theorem dX7_takeNumber_111 : decode cX7_takeNumber 111 = .ok (.goto 4, 3) := by decide +kernel
theorem dX7_takeNumber_114 : decode cX7_takeNumber 114 = .ok (.iconst 2, 1) := by decide +kernel
theorem dX7_takeNumber_115 : decode cX7_takeNumber 115 = .ok (.putfield 37, 3) := by decide +kernel
theorem dX7_takeNumber_118 : decode cX7_takeNumber 118 = .ok (.return_, 1) := by decide +kernel
theorem dX8_init_0 : decode cX8_init 0 = .ok (.aload_n 0, 1) := by decide +kernel
theorem dX8_init_1 : decode cX8_init 1 = .ok (.invokespecial 1, 3) := by decide +kernel
theorem dX8_init_4 : decode cX8_init 4 = .ok (.return_, 1) := by decide +kernel
theorem dX8_markOf_0 : decode cX8_markOf 0 = .ok (.aload_n 1, 1) := by decide +kernel
theorem dX8_markOf_1 : decode cX8_markOf 1 = .ok (.dup, 1) := by decide +kernel
theorem dX8_markOf_2 : decode cX8_markOf 2 = .ok (.getfield 7, 3) := by decide +kernel
theorem dX8_markOf_5 : decode cX8_markOf 5 = .ok (.ldc2_w 13, 3) := by decide +kernel
theorem dX8_markOf_8 : decode cX8_markOf 8 = .ok (.ladd, 1) := by decide +kernel
theorem dX8_markOf_9 : decode cX8_markOf 9 = .ok (.putfield 7, 3) := by decide +kernel
theorem dX8_markOf_12 : decode cX8_markOf 12 = .ok (.aload_n 0, 1) := by decide +kernel
theorem dX8_markOf_13 : decode cX8_markOf 13 = .ok (.aload_n 1, 1) := by decide +kernel
theorem dX8_markOf_14 : decode cX8_markOf 14 = .ok (.iload_n 2, 1) := by decide +kernel
theorem dX8_markOf_15 : decode cX8_markOf 15 = .ok (.invokespecial 15, 3) := by decide +kernel
theorem dX8_markOf_18 : decode cX8_markOf 18 = .ok (.aload_n 1, 1) := by decide +kernel
theorem dX8_markOf_19 : decode cX8_markOf 19 = .ok (.getfield 19, 3) := by decide +kernel
theorem dX8_markOf_22 : decode cX8_markOf 22 = .ok (.getfield 23, 3) := by decide +kernel
theorem dX8_markOf_25 : decode cX8_markOf 25 = .ok (.iload_n 2, 1) := by decide +kernel
theorem dX8_markOf_26 : decode cX8_markOf 26 = .ok (.iaload, 1) := by decide +kernel
theorem dX8_markOf_27 : decode cX8_markOf 27 = .ok (.iadd, 1) := by decide +kernel
theorem dX8_markOf_28 : decode cX8_markOf 28 = .ok (.ireturn, 1) := by decide +kernel
theorem dX9_init_0 : decode cX9_init 0 = .ok (.aload_n 0, 1) := by decide +kernel
theorem dX9_init_1 : decode cX9_init 1 = .ok (.invokespecial 1, 3) := by decide +kernel
theorem dX9_init_4 : decode cX9_init 4 = .ok (.return_, 1) := by decide +kernel
theorem dX9_markOf_0 : decode cX9_markOf 0 = .ok (.aload_n 1, 1) := by decide +kernel
theorem dX9_markOf_1 : decode cX9_markOf 1 = .ok (.dup, 1) := by decide +kernel
theorem dX9_markOf_2 : decode cX9_markOf 2 = .ok (.getfield 7, 3) := by decide +kernel
theorem dX9_markOf_5 : decode cX9_markOf 5 = .ok (.ldc2_w 13, 3) := by decide +kernel
theorem dX9_markOf_8 : decode cX9_markOf 8 = .ok (.ladd, 1) := by decide +kernel
theorem dX9_markOf_9 : decode cX9_markOf 9 = .ok (.putfield 7, 3) := by decide +kernel
theorem dX9_markOf_12 : decode cX9_markOf 12 = .ok (.iconst 0, 1) := by decide +kernel
theorem dX9_markOf_13 : decode cX9_markOf 13 = .ok (.istore_n 3, 1) := by decide +kernel
theorem dX9_markOf_14 : decode cX9_markOf 14 = .ok (.iconst 0, 1) := by decide +kernel
theorem dX9_markOf_15 : decode cX9_markOf 15 = .ok (.istore 4, 2) := by decide +kernel
theorem dX9_markOf_17 : decode cX9_markOf 17 = .ok (.iload 4, 2) := by decide +kernel
theorem dX9_markOf_19 : decode cX9_markOf 19 = .ok (.aload_n 1, 1) := by decide +kernel
theorem dX9_markOf_20 : decode cX9_markOf 20 = .ok (.getfield 15, 3) := by decide +kernel
theorem dX9_markOf_23 : decode cX9_markOf 23 = .ok (.getfield 19, 3) := by decide +kernel
theorem dX9_markOf_26 : decode cX9_markOf 26 = .ok (.if_icmp .ge 26, 3) := by decide +kernel
theorem dX9_markOf_29 : decode cX9_markOf 29 = .ok (.aload_n 1, 1) := by decide +kernel
theorem dX9_markOf_30 : decode cX9_markOf 30 = .ok (.getfield 15, 3) := by decide +kernel
theorem dX9_markOf_33 : decode cX9_markOf 33 = .ok (.getfield 25, 3) := by decide +kernel
theorem dX9_markOf_36 : decode cX9_markOf 36 = .ok (.iload 4, 2) := by decide +kernel
theorem dX9_markOf_38 : decode cX9_markOf 38 = .ok (.iaload, 1) := by decide +kernel
theorem dX9_markOf_39 : decode cX9_markOf 39 = .ok (.iload_n 2, 1) := by decide +kernel
theorem dX9_markOf_40 : decode cX9_markOf 40 = .ok (.if_icmp .ne 6, 3) := by decide +kernel
theorem dX9_markOf_43 : decode cX9_markOf 43 = .ok (.iinc 3 1, 3) := by decide +kernel
theorem dX9_markOf_46 : decode cX9_markOf 46 = .ok (.iinc 4 1, 3) := by decide +kernel
theorem dX9_markOf_49 : decode cX9_markOf 49 = .ok (.goto (-32), 3) := by decide +kernel
theorem dX9_markOf_52 : decode cX9_markOf 52 = .ok (.aload_n 0, 1) := by decide +kernel
theorem dX9_markOf_53 : decode cX9_markOf 53 = .ok (.aload_n 1, 1) := by decide +kernel
theorem dX9_markOf_54 : decode cX9_markOf 54 = .ok (.iload_n 2, 1) := by decide +kernel
theorem dX9_markOf_55 : decode cX9_markOf 55 = .ok (.invokespecial 29, 3) := by decide +kernel
theorem dX9_markOf_58 : decode cX9_markOf 58 = .ok (.iload_n 3, 1) := by decide +kernel
theorem dX9_markOf_59 : decode cX9_markOf 59 = .ok (.isub, 1) := by decide +kernel
theorem dX9_markOf_60 : decode cX9_markOf 60 = .ok (.ireturn, 1) := by decide +kernel
theorem dJ6_bitCount_0f7a4_0 : decode cJ6_bitCount_0f7a4 0 = .ok (.iload_n 0, 1) := by decide +kernel
theorem dJ6_bitCount_0f7a4_1 : decode cJ6_bitCount_0f7a4 1 = .ok (.iload_n 0, 1) := by decide +kernel
theorem dJ6_bitCount_0f7a4_2 : decode cJ6_bitCount_0f7a4 2 = .ok (.iconst 1, 1) := by decide +kernel
theorem dJ6_bitCount_0f7a4_3 : decode cJ6_bitCount_0f7a4 3 = .ok (.iushr, 1) := by decide +kernel
theorem dJ6_bitCount_0f7a4_4 : decode cJ6_bitCount_0f7a4 4 = .ok (.ldc_w 265, 3) := by decide +kernel
theorem dJ6_bitCount_0f7a4_7 : decode cJ6_bitCount_0f7a4 7 = .ok (.iand, 1) := by decide +kernel
theorem dJ6_bitCount_0f7a4_8 : decode cJ6_bitCount_0f7a4 8 = .ok (.isub, 1) := by decide +kernel
theorem dJ6_bitCount_0f7a4_9 : decode cJ6_bitCount_0f7a4 9 = .ok (.istore_n 0, 1) := by decide +kernel
theorem dJ6_bitCount_0f7a4_10 : decode cJ6_bitCount_0f7a4 10 = .ok (.iload_n 0, 1) := by decide +kernel
theorem dJ6_bitCount_0f7a4_11 : decode cJ6_bitCount_0f7a4 11 = .ok (.ldc_w 266, 3) := by decide +kernel
theorem dJ6_bitCount_0f7a4_14 : decode cJ6_bitCount_0f7a4 14 = .ok (.iand, 1) := by decide +kernel
theorem dJ6_bitCount_0f7a4_15 : decode cJ6_bitCount_0f7a4 15 = .ok (.iload_n 0, 1) := by decide +kernel
theorem dJ6_bitCount_0f7a4_16 : decode cJ6_bitCount_0f7a4 16 = .ok (.iconst 2, 1) := by decide +kernel
theorem dJ6_bitCount_0f7a4_17 : decode cJ6_bitCount_0f7a4 17 = .ok (.iushr, 1) := by decide +kernel
theorem dJ6_bitCount_0f7a4_18 : decode cJ6_bitCount_0f7a4 18 = .ok (.ldc_w 266, 3) := by decide +kernel
theorem dJ6_bitCount_0f7a4_21 : decode cJ6_bitCount_0f7a4 21 = .ok (.iand, 1) := by decide +kernel
theorem dJ6_bitCount_0f7a4_22 : decode cJ6_bitCount_0f7a4 22 = .ok (.iadd, 1) := by decide +kernel
theorem dJ6_bitCount_0f7a4_23 : decode cJ6_bitCount_0f7a4 23 = .ok (.istore_n 0, 1) := by decide +kernel
theorem dJ6_bitCount_0f7a4_24 : decode cJ6_bitCount_0f7a4 24 = .ok (.iload_n 0, 1) := by decide +kernel
theorem dJ6_bitCount_0f7a4_25 : decode cJ6_bitCount_0f7a4 25 = .ok (.iload_n 0, 1) := by decide +kernel
theorem dJ6_bitCount_0f7a4_26 : decode cJ6_bitCount_0f7a4 26 = .ok (.iconst 4, 1) := by decide +kernel
theorem dJ6_bitCount_0f7a4_27 : decode cJ6_bitCount_0f7a4 27 = .ok (.iushr, 1) := by decide +kernel
theorem dJ6_bitCount_0f7a4_28 : decode cJ6_bitCount_0f7a4 28 = .ok (.iadd, 1) := by decide +kernel
theorem dJ6_bitCount_0f7a4_29 : decode cJ6_bitCount_0f7a4 29 = .ok (.ldc_w 267, 3) := by decide +kernel
theorem dJ6_bitCount_0f7a4_32 : decode cJ6_bitCount_0f7a4 32 = .ok (.iand, 1) := by decide +kernel
theorem dJ6_bitCount_0f7a4_33 : decode cJ6_bitCount_0f7a4 33 = .ok (.istore_n 0, 1) := by decide +kernel
theorem dJ6_bitCount_0f7a4_34 : decode cJ6_bitCount_0f7a4 34 = .ok (.iload_n 0, 1) := by decide +kernel
theorem dJ6_bitCount_0f7a4_35 : decode cJ6_bitCount_0f7a4 35 = .ok (.iload_n 0, 1) := by decide +kernel
theorem dJ6_bitCount_0f7a4_36 : decode cJ6_bitCount_0f7a4 36 = .ok (.bipush 8, 2) := by decide +kernel
theorem dJ6_bitCount_0f7a4_38 : decode cJ6_bitCount_0f7a4 38 = .ok (.iushr, 1) := by decide +kernel
theorem dJ6_bitCount_0f7a4_39 : decode cJ6_bitCount_0f7a4 39 = .ok (.iadd, 1) := by decide +kernel
theorem dJ6_bitCount_0f7a4_40 : decode cJ6_bitCount_0f7a4 40 = .ok (.istore_n 0, 1) := by decide +kernel
theorem dJ6_bitCount_0f7a4_41 : decode cJ6_bitCount_0f7a4 41 = .ok (.iload_n 0, 1) := by decide +kernel
theorem dJ6_bitCount_0f7a4_42 : decode cJ6_bitCount_0f7a4 42 = .ok (.iload_n 0, 1) := by decide +kernel
theorem dJ6_bitCount_0f7a4_43 : decode cJ6_bitCount_0f7a4 43 = .ok (.bipush 16, 2) := by decide +kernel
theorem dJ6_bitCount_0f7a4_45 : decode cJ6_bitCount_0f7a4 45 = .ok (.iushr, 1) := by decide +kernel
theorem dJ6_bitCount_0f7a4_46 : decode cJ6_bitCount_0f7a4 46 = .ok (.iadd, 1) := by decide +kernel
theorem dJ6_bitCount_0f7a4_47 : decode cJ6_bitCount_0f7a4 47 = .ok (.istore_n 0, 1) := by decide +kernel
theorem dJ6_bitCount_0f7a4_48 : decode cJ6_bitCount_0f7a4 48 = .ok (.iload_n 0, 1) := by decide +kernel
theorem dJ6_bitCount_0f7a4_49 : decode cJ6_bitCount_0f7a4 49 = .ok (.bipush 63, 2) := by decide +kernel
theorem dJ6_bitCount_0f7a4_51 : decode cJ6_bitCount_0f7a4 51 = .ok (.iand, 1) := by decide +kernel
theorem dJ6_bitCount_0f7a4_52 : decode cJ6_bitCount_0f7a4 52 = .ok (.ireturn, 1) := by decide +kernel
theorem dJ9_abs_0f7a4_0 : decode cJ9_abs_0f7a4 0 = .ok (.iload_n 0, 1) := by decide +kernel
theorem dJ9_abs_0f7a4_1 : decode cJ9_abs_0f7a4 1 = .ok (.ifCond .ge 8, 3) := by decide +kernel
theorem dJ9_abs_0f7a4_4 : decode cJ9_abs_0f7a4 4 = .ok (.iload_n 0, 1) := by decide +kernel
theorem dJ9_abs_0f7a4_5 : decode cJ9_abs_0f7a4 5 = .ok (.ineg, 1) := by decide +kernel
theorem dJ9_abs_0f7a4_6 : decode cJ9_abs_0f7a4 6 = .ok (.goto 4, 3) := by decide +kernel
theorem dJ9_abs_0f7a4_9 : decode cJ9_abs_0f7a4 9 = .ok (.iload_n 0, 1) := by decide +kernel
theorem dJ9_abs_0f7a4_10 : decode cJ9_abs_0f7a4 10 = .ok (.ireturn, 1) := by decide +kernel
theorem dJ9_max_7cf53_0 : decode cJ9_max_7cf53 0 = .ok (.iload_n 0, 1) := by decide +kernel
theorem dJ9_max_7cf53_1 : decode cJ9_max_7cf53 1 = .ok (.iload_n 1, 1) := by decide +kernel
theorem dJ9_max_7cf53_2 : decode cJ9_max_7cf53 2 = .ok (.if_icmp .lt 7, 3) := by decide +kernel
theorem dJ9_max_7cf53_5 : decode cJ9_max_7cf53 5 = .ok (.iload_n 0, 1) := by decide +kernel
theorem dJ9_max_7cf53_6 : decode cJ9_max_7cf53 6 = .ok (.goto 4, 3) := by decide +kernel
theorem dJ9_max_7cf53_9 : decode cJ9_max_7cf53 9 = .ok (.iload_n 1, 1) := by decide +kernel
theorem dJ9_max_7cf53_10 : decode cJ9_max_7cf53 10 = .ok (.ireturn, 1) := by decide +kernel
theorem dJ9_min_7cf53_0 : decode cJ9_min_7cf53 0 = .ok (.iload_n 0, 1) := by decide +kernel
theorem dJ9_min_7cf53_1 : decode cJ9_min_7cf53 1 = .ok (.iload_n 1, 1) := by decide +kernel
theorem dJ9_min_7cf53_2 : decode cJ9_min_7cf53 2 = .ok (.if_icmp .gt 7, 3) := by decide +kernel
theorem dJ9_min_7cf53_5 : decode cJ9_min_7cf53 5 = .ok (.iload_n 0, 1) := by decide +kernel
theorem dJ9_min_7cf53_6 : decode cJ9_min_7cf53 6 = .ok (.goto 4, 3) := by decide +kernel
theorem dJ9_min_7cf53_9 : decode cJ9_min_7cf53 9 = .ok (.iload_n 1, 1) := by decide +kernel
theorem dJ9_min_7cf53_10 : decode cJ9_min_7cf53 10 = .ok (.ireturn, 1) := by decide +kernel
