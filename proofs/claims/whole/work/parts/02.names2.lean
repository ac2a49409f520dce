theorem dX10_init_0 : decode cX10_init 0 = .ok (.aload_n 0, 1) := by decide +kernel
theorem dX10_init_1 : decode cX10_init 1 = .ok (.invokespecial 1, 3) := by decide +kernel
theorem dX10_init_4 : decode cX10_init 4 = .ok (.aload_n 0, 1) := by decide +kernel
theorem dX10_init_5 : decode cX10_init 5 = .ok (.new 7, 3) := by decide +kernel
theorem dX10_init_8 : decode cX10_init 8 = .ok (.dup, 1) := by decide +kernel
theorem dX10_init_9 : decode cX10_init 9 = .ok (.invokespecial 9, 3) := by decide +kernel
theorem dX10_init_12 : decode cX10_init 12 = .ok (.putfield 10, 3) := by decide +kernel
theorem dX10_init_15 : decode cX10_init 15 = .ok (.aload_n 0, 1) := by decide +kernel
theorem dX10_init_16 : decode cX10_init 16 = .ok (.new 16, 3) := by decide +kernel
theorem dX10_init_19 : decode cX10_init 19 = .ok (.dup, 1) := by decide +kernel
theorem dX10_init_20 : decode cX10_init 20 = .ok (.invokespecial 18, 3) := by decide +kernel
theorem dX10_init_23 : decode cX10_init 23 = .ok (.putfield 19, 3) := by decide +kernel
theorem dX10_init_26 : decode cX10_init 26 = .ok (.aload_n 0, 1) := by decide +kernel
theorem dX10_init_27 : decode cX10_init 27 = .ok (.new 23, 3) := by decide +kernel
theorem dX10_init_30 : decode cX10_init 30 = .ok (.dup, 1) := by decide +kernel
theorem dX10_init_31 : decode cX10_init 31 = .ok (.invokespecial 25, 3) := by decide +kernel
theorem dX10_init_34 : decode cX10_init 34 = .ok (.putfield 26, 3) := by decide +kernel
theorem dX10_init_37 : decode cX10_init 37 = .ok (.aload_n 0, 1) := by decide +kernel
theorem dX10_init_38 : decode cX10_init 38 = .ok (.iconst 2, 1) := by decide +kernel
theorem dX10_init_39 : decode cX10_init 39 = .ok (.anewarray 23, 3) := by decide +kernel
theorem dX10_init_42 : decode cX10_init 42 = .ok (.dup, 1) := by decide +kernel
theorem dX10_init_43 : decode cX10_init 43 = .ok (.iconst 0, 1) := by decide +kernel
theorem dX10_init_44 : decode cX10_init 44 = .ok (.new 23, 3) := by decide +kernel
theorem dX10_init_47 : decode cX10_init 47 = .ok (.dup, 1) := by decide +kernel
theorem dX10_init_48 : decode cX10_init 48 = .ok (.invokespecial 25, 3) := by decide +kernel
theorem dX10_init_51 : decode cX10_init 51 = .ok (.aastore, 1) := by decide +kernel
theorem dX10_init_52 : decode cX10_init 52 = .ok (.dup, 1) := by decide +kernel
theorem dX10_init_53 : decode cX10_init 53 = .ok (.iconst 1, 1) := by decide +kernel
theorem dX10_init_54 : decode cX10_init 54 = .ok (.new 23, 3) := by decide +kernel
theorem dX10_init_57 : decode cX10_init 57 = .ok (.dup, 1) := by decide +kernel
theorem dX10_init_58 : decode cX10_init 58 = .ok (.invokespecial 25, 3) := by decide +kernel
theorem dX10_init_61 : decode cX10_init 61 = .ok (.aastore, 1) := by decide +kernel
theorem dX10_init_62 : decode cX10_init 62 = .ok (.putfield 30, 3) := by decide +kernel
theorem dX10_init_65 : decode cX10_init 65 = .ok (.aload_n 0, 1) := by decide +kernel
theorem dX10_init_66 : decode cX10_init 66 = .ok (.iconst 2, 1) := by decide +kernel
theorem dX10_init_67 : decode cX10_init 67 = .ok (.newarray .boolean, 2) := by decide +kernel
theorem dX10_init_69 : decode cX10_init 69 = .ok (.putfield 34, 3) := by decide +kernel
theorem dX10_init_72 : decode cX10_init 72 = .ok (.aload_n 0, 1) := by decide +kernel
theorem dX10_init_73 : decode cX10_init 73 = .ok (.bipush 6, 2) := by decide +kernel
theorem dX10_init_75 : decode cX10_init 75 = .ok (.anewarray 38, 3) := by decide +kernel
theorem dX10_init_78 : decode cX10_init 78 = .ok (.dup, 1) := by decide +kernel
theorem dX10_init_79 : decode cX10_init 79 = .ok (.iconst 0, 1) := by decide +kernel
theorem dX10_init_80 : decode cX10_init 80 = .ok (.new 38, 3) := by decide +kernel
theorem dX10_init_83 : decode cX10_init 83 = .ok (.dup, 1) := by decide +kernel
theorem dX10_init_84 : decode cX10_init 84 = .ok (.invokespecial 40, 3) := by decide +kernel
theorem dX10_init_87 : decode cX10_init 87 = .ok (.aastore, 1) := by decide +kernel
theorem dX10_init_88 : decode cX10_init 88 = .ok (.dup, 1) := by decide +kernel
theorem dX10_init_89 : decode cX10_init 89 = .ok (.iconst 1, 1) := by decide +kernel
theorem dX10_init_90 : decode cX10_init 90 = .ok (.new 41, 3) := by decide +kernel
theorem dX10_init_93 : decode cX10_init 93 = .ok (.dup, 1) := by decide +kernel
theorem dX10_init_94 : decode cX10_init 94 = .ok (.invokespecial 43, 3) := by decide +kernel
theorem dX10_init_97 : decode cX10_init 97 = .ok (.aastore, 1) := by decide +kernel
theorem dX10_init_98 : decode cX10_init 98 = .ok (.dup, 1) := by decide +kernel
theorem dX10_init_99 : decode cX10_init 99 = .ok (.iconst 2, 1) := by decide +kernel
theorem dX10_init_100 : decode cX10_init 100 = .ok (.new 44, 3) := by decide +kernel
theorem dX10_init_103 : decode cX10_init 103 = .ok (.dup, 1) := by decide +kernel
theorem dX10_init_104 : decode cX10_init 104 = .ok (.invokespecial 46, 3) := by decide +kernel
theorem dX10_init_107 : decode cX10_init 107 = .ok (.aastore, 1) := by decide +kernel
theorem dX10_init_108 : decode cX10_init 108 = .ok (.dup, 1) := by decide +kernel
theorem dX10_init_109 : decode cX10_init 109 = .ok (.iconst 3, 1) := by decide +kernel
theorem dX10_init_110 : decode cX10_init 110 = .ok (.new 47, 3) := by decide +kernel
theorem dX10_init_113 : decode cX10_init 113 = .ok (.dup, 1) := by decide +kernel
theorem dX10_init_114 : decode cX10_init 114 = .ok (.invokespecial 49, 3) := by decide +kernel
theorem dX10_init_117 : decode cX10_init 117 = .ok (.aastore, 1) := by decide +kernel
theorem dX10_init_118 : decode cX10_init 118 = .ok (.dup, 1) := by decide +kernel
theorem dX10_init_119 : decode cX10_init 119 = .ok (.iconst 4, 1) := by decide +kernel
theorem dX10_init_120 : decode cX10_init 120 = .ok (.new 50, 3) := by decide +kernel
theorem dX10_init_123 : decode cX10_init 123 = .ok (.dup, 1) := by decide +kernel
theorem dX10_init_124 : decode cX10_init 124 = .ok (.invokespecial 52, 3) := by decide +kernel
theorem dX10_init_127 : decode cX10_init 127 = .ok (.aastore, 1) := by decide +kernel
theorem dX10_init_128 : decode cX10_init 128 = .ok (.dup, 1) := by decide +kernel
theorem dX10_init_129 : decode cX10_init 129 = .ok (.iconst 5, 1) := by decide +kernel
theorem dX10_init_130 : decode cX10_init 130 = .ok (.new 53, 3) := by decide +kernel
theorem dX10_init_133 : decode cX10_init 133 = .ok (.dup, 1) := by decide +kernel
theorem dX10_init_134 : decode cX10_init 134 = .ok (.invokespecial 55, 3) := by decide +kernel
theorem dX10_init_137 : decode cX10_init 137 = .ok (.aastore, 1) := by decide +kernel
theorem dX10_init_138 : decode cX10_init 138 = .ok (.putfield 56, 3) := by decide +kernel
theorem dX10_init_141 : decode cX10_init 141 = .ok (.aload_n 0, 1) := by decide +kernel
theorem dX10_init_142 : decode cX10_init 142 = .ok (.bipush 8, 2) := by decide +kernel
theorem dX10_init_144 : decode cX10_init 144 = .ok (.newarray .int, 2) := by decide +kernel
theorem dX10_init_146 : decode cX10_init 146 = .ok (.putfield 60, 3) := by decide +kernel
theorem dX10_init_149 : decode cX10_init 149 = .ok (.aload_n 0, 1) := by decide +kernel
theorem dX10_init_150 : decode cX10_init 150 = .ok (.bipush 6, 2) := by decide +kernel
theorem dX10_init_152 : decode cX10_init 152 = .ok (.newarray .int, 2) := by decide +kernel
theorem dX10_init_154 : decode cX10_init 154 = .ok (.putfield 64, 3) := by decide +kernel
theorem dX10_init_157 : decode cX10_init 157 = .ok (.aload_n 0, 1) := by decide +kernel
theorem dX10_init_158 : decode cX10_init 158 = .ok (.bipush 6, 2) := by decide +kernel
theorem dX10_init_160 : decode cX10_init 160 = .ok (.newarray .int, 2) := by decide +kernel
theorem dX10_init_162 : decode cX10_init 162 = .ok (.putfield 67, 3) := by decide +kernel
theorem dX10_init_165 : decode cX10_init 165 = .ok (.aload_n 0, 1) := by decide +kernel
theorem dX10_init_166 : decode cX10_init 166 = .ok (.new 70, 3) := by decide +kernel
theorem dX10_init_169 : decode cX10_init 169 = .ok (.dup, 1) := by decide +kernel
theorem dX10_init_170 : decode cX10_init 170 = .ok (.invokespecial 72, 3) := by decide +kernel
theorem dX10_init_173 : decode cX10_init 173 = .ok (.putfield 73, 3) := by decide +kernel
theorem dX10_init_176 : decode cX10_init 176 = .ok (.aload_n 0, 1) := by decide +kernel
theorem dX10_init_177 : decode cX10_init 177 = .ok (.new 70, 3) := by decide +kernel
theorem dX10_init_180 : decode cX10_init 180 = .ok (.dup, 1) := by decide +kernel
theorem dX10_init_181 : decode cX10_init 181 = .ok (.invokespecial 72, 3) := by decide +kernel
theorem dX10_init_184 : decode cX10_init 184 = .ok (.putfield 77, 3) := by decide +kernel
theorem dX10_init_187 : decode cX10_init 187 = .ok (.aload_n 0, 1) := by decide +kernel
theorem dX10_init_188 : decode cX10_init 188 = .ok (.getfield 73, 3) := by decide +kernel
theorem dX10_init_191 : decode cX10_init 191 = .ok (.invokevirtual 80, 3) := by decide +kernel
theorem dX10_init_194 : decode cX10_init 194 = .ok (.aload_n 0, 1) := by decide +kernel
theorem dX10_init_195 : decode cX10_init 195 = .ok (.getfield 26, 3) := by decide +kernel
theorem dX10_init_198 : decode cX10_init 198 = .ok (.aload_n 0, 1) := by decide +kernel
theorem dX10_init_199 : decode cX10_init 199 = .ok (.getfield 73, 3) := by decide +kernel
theorem dX10_init_202 : decode cX10_init 202 = .ok (.getfield 83, 3) := by decide +kernel
theorem dX10_init_205 : decode cX10_init 205 = .ok (.invokevirtual 87, 3) := by decide +kernel
theorem dX10_init_208 : decode cX10_init 208 = .ok (.return_, 1) := by decide +kernel
theorem dX10_type_0 : decode cX10_type 0 = .ok (.iload_n 1, 1) := by decide +kernel
theorem dX10_type_1 : decode cX10_type 1 = .ok (.iconst 0, 1) := by decide +kernel
theorem dX10_type_2 : decode cX10_type 2 = .ok (.sipush 255, 3) := by decide +kernel
theorem dX10_type_5 : decode cX10_type 5 = .ok (.invokestatic 90, 3) := by decide +kernel
theorem dX10_type_8 : decode cX10_type 8 = .ok (.ifCond .ne 5, 3) := by decide +kernel
theorem dX10_type_11 : decode cX10_type 11 = .ok (.iconst (-1), 1) := by decide +kernel
theorem dX10_type_12 : decode cX10_type 12 = .ok (.ireturn, 1) := by decide +kernel
theorem dX10_type_13 : decode cX10_type 13 = .ok (.aload_n 0, 1) := by decide +kernel
theorem dX10_type_14 : decode cX10_type 14 = .ok (.getfield 10, 3) := by decide +kernel
theorem dX10_type_17 : decode cX10_type 17 = .ok (.getfield 94, 3) := by decide +kernel
theorem dX10_type_20 : decode cX10_type 20 = .ok (.sipush 200, 3) := by decide +kernel
theorem dX10_type_23 : decode cX10_type 23 = .ok (.if_icmp .lt 6, 3) := by decide +kernel
theorem dX10_type_26 : decode cX10_type 26 = .ok (.bipush (-3), 2) := by decide +kernel
theorem dX10_type_28 : decode cX10_type 28 = .ok (.ireturn, 1) := by decide +kernel
theorem dX10_type_29 : decode cX10_type 29 = .ok (.aload_n 0, 1) := by decide +kernel
theorem dX10_type_30 : decode cX10_type 30 = .ok (.getfield 10, 3) := by decide +kernel
theorem dX10_type_33 : decode cX10_type 33 = .ok (.getfield 97, 3) := by decide +kernel
theorem dX10_type_36 : decode cX10_type 36 = .ok (.aload_n 0, 1) := by decide +kernel
theorem dX10_type_37 : decode cX10_type 37 = .ok (.getfield 10, 3) := by decide +kernel
theorem dX10_type_40 : decode cX10_type 40 = .ok (.getfield 94, 3) := by decide +kernel
theorem dX10_type_43 : decode cX10_type 43 = .ok (.iload_n 1, 1) := by decide +kernel
theorem dX10_type_44 : decode cX10_type 44 = .ok (.iastore, 1) := by decide +kernel
theorem dX10_type_45 : decode cX10_type 45 = .ok (.aload_n 0, 1) := by decide +kernel
theorem dX10_type_46 : decode cX10_type 46 = .ok (.getfield 10, 3) := by decide +kernel
theorem dX10_type_49 : decode cX10_type 49 = .ok (.dup, 1) := by decide +kernel
theorem dX10_type_50 : decode cX10_type 50 = .ok (.getfield 94, 3) := by decide +kernel
theorem dX10_type_53 : decode cX10_type 53 = .ok (.iconst 1, 1) := by decide +kernel
theorem dX10_type_54 : decode cX10_type 54 = .ok (.iadd, 1) := by decide +kernel
theorem dX10_type_55 : decode cX10_type 55 = .ok (.putfield 94, 3) := by decide +kernel
theorem dX10_type_58 : decode cX10_type 58 = .ok (.aload_n 0, 1) := by decide +kernel
theorem dX10_type_59 : decode cX10_type 59 = .ok (.getfield 10, 3) := by decide +kernel
theorem dX10_type_62 : decode cX10_type 62 = .ok (.getfield 94, 3) := by decide +kernel
theorem dX10_type_65 : decode cX10_type 65 = .ok (.ireturn, 1) := by decide +kernel
theorem dX10_clear_0 : decode cX10_clear 0 = .ok (.aload_n 0, 1) := by decide +kernel
theorem dX10_clear_1 : decode cX10_clear 1 = .ok (.getfield 10, 3) := by decide +kernel
theorem dX10_clear_4 : decode cX10_clear 4 = .ok (.getfield 94, 3) := by decide +kernel
theorem dX10_clear_7 : decode cX10_clear 7 = .ok (.istore_n 1, 1) := by decide +kernel
theorem dX10_clear_8 : decode cX10_clear 8 = .ok (.aload_n 0, 1) := by decide +kernel
theorem dX10_clear_9 : decode cX10_clear 9 = .ok (.getfield 10, 3) := by decide +kernel
theorem dX10_clear_12 : decode cX10_clear 12 = .ok (.iconst 0, 1) := by decide +kernel
theorem dX10_clear_13 : decode cX10_clear 13 = .ok (.putfield 94, 3) := by decide +kernel
theorem dX10_clear_16 : decode cX10_clear 16 = .ok (.iload_n 1, 1) := by decide +kernel
theorem dX10_clear_17 : decode cX10_clear 17 = .ok (.ireturn, 1) := by decide +kernel
theorem dX10_court_0 : decode cX10_court 0 = .ok (.aload_n 0, 1) := by decide +kernel
theorem dX10_court_1 : decode cX10_court 1 = .ok (.getfield 10, 3) := by decide +kernel
theorem dX10_court_4 : decode cX10_court 4 = .ok (.aload_n 0, 1) := by decide +kernel
theorem dX10_court_5 : decode cX10_court 5 = .ok (.getfield 77, 3) := by decide +kernel
theorem dX10_court_8 : decode cX10_court 8 = .ok (.invokevirtual 100, 3) := by decide +kernel
theorem dX10_court_11 : decode cX10_court 11 = .ok (.istore_n 1, 1) := by decide +kernel
theorem dX10_court_12 : decode cX10_court 12 = .ok (.iload_n 1, 1) := by decide +kernel
theorem dX10_court_13 : decode cX10_court 13 = .ok (.ifCond .ge 5, 3) := by decide +kernel
theorem dX10_court_16 : decode cX10_court 16 = .ok (.iload_n 1, 1) := by decide +kernel
theorem dX10_court_17 : decode cX10_court 17 = .ok (.ireturn, 1) := by decide +kernel
theorem dX10_court_18 : decode cX10_court 18 = .ok (.aload_n 0, 1) := by decide +kernel
theorem dX10_court_19 : decode cX10_court 19 = .ok (.getfield 73, 3) := by decide +kernel
theorem dX10_court_22 : decode cX10_court 22 = .ok (.astore_n 2, 1) := by decide +kernel
theorem dX10_court_23 : decode cX10_court 23 = .ok (.aload_n 0, 1) := by decide +kernel
theorem dX10_court_24 : decode cX10_court 24 = .ok (.aload_n 0, 1) := by decide +kernel
theorem dX10_court_25 : decode cX10_court 25 = .ok (.getfield 77, 3) := by decide +kernel
theorem dX10_court_28 : decode cX10_court 28 = .ok (.putfield 73, 3) := by decide +kernel
theorem dX10_court_31 : decode cX10_court 31 = .ok (.aload_n 0, 1) := by decide +kernel
theorem dX10_court_32 : decode cX10_court 32 = .ok (.aload_n 2, 1) := by decide +kernel
theorem dX10_court_33 : decode cX10_court 33 = .ok (.putfield 77, 3) := by decide +kernel
theorem dX10_court_36 : decode cX10_court 36 = .ok (.aload_n 0, 1) := by decide +kernel
theorem dX10_court_37 : decode cX10_court 37 = .ok (.getfield 10, 3) := by decide +kernel
theorem dX10_court_40 : decode cX10_court 40 = .ok (.iconst 0, 1) := by decide +kernel
theorem dX10_court_41 : decode cX10_court 41 = .ok (.putfield 94, 3) := by decide +kernel
theorem dX10_court_44 : decode cX10_court 44 = .ok (.aload_n 0, 1) := by decide +kernel
theorem dX10_court_45 : decode cX10_court 45 = .ok (.getfield 26, 3) := by decide +kernel
theorem dX10_court_48 : decode cX10_court 48 = .ok (.aload_n 0, 1) := by decide +kernel
theorem dX10_court_49 : decode cX10_court 49 = .ok (.getfield 73, 3) := by decide +kernel
theorem dX10_court_52 : decode cX10_court 52 = .ok (.getfield 83, 3) := by decide +kernel
theorem dX10_court_55 : decode cX10_court 55 = .ok (.invokevirtual 87, 3) := by decide +kernel
theorem dX10_court_58 : decode cX10_court 58 = .ok (.aload_n 0, 1) := by decide +kernel
theorem dX10_court_59 : decode cX10_court 59 = .ok (.iconst 0, 1) := by decide +kernel
theorem dX10_court_60 : decode cX10_court 60 = .ok (.putfield 104, 3) := by decide +kernel
theorem dX10_court_63 : decode cX10_court 63 = .ok (.iconst 0, 1) := by decide +kernel
theorem dX10_court_64 : decode cX10_court 64 = .ok (.istore_n 3, 1) := by decide +kernel
theorem dX10_court_65 : decode cX10_court 65 = .ok (.iload_n 3, 1) := by decide +kernel
theorem dX10_court_66 : decode cX10_court 66 = .ok (.iconst 2, 1) := by decide +kernel
theorem dX10_court_67 : decode cX10_court 67 = .ok (.if_icmp .ge 16, 3) := by decide +kernel
theorem dX10_court_70 : decode cX10_court 70 = .ok (.aload_n 0, 1) := by decide +kernel
theorem dX10_court_71 : decode cX10_court 71 = .ok (.getfield 34, 3) := by decide +kernel
theorem dX10_court_74 : decode cX10_court 74 = .ok (.iload_n 3, 1) := by decide +kernel
theorem dX10_court_75 : decode cX10_court 75 = .ok (.iconst 0, 1) := by decide +kernel
theorem dX10_court_76 : decode cX10_court 76 = .ok (.bastore, 1) := by decide +kernel
theorem dX10_court_77 : decode cX10_court 77 = .ok (.iinc 3 1, 3) := by decide +kernel
theorem dX10_court_80 : decode cX10_court 80 = .ok (.goto (-15), 3) := by decide +kernel
theorem dX10_court_83 : decode cX10_court 83 = .ok (.iload_n 1, 1) := by decide +kernel
theorem dX10_court_84 : decode cX10_court 84 = .ok (.ireturn, 1) := by decide +kernel
theorem dX10_suspect_0 : decode cX10_suspect 0 = .ok (.aload_n 0, 1) := by decide +kernel
theorem dX10_suspect_1 : decode cX10_suspect 1 = .ok (.iload_n 1, 1) := by decide +kernel
theorem dX10_suspect_2 : decode cX10_suspect 2 = .ok (.invokevirtual 107, 3) := by decide +kernel
theorem dX10_suspect_5 : decode cX10_suspect 5 = .ok (.ifCond .eq 12, 3) := by decide +kernel
theorem dX10_suspect_8 : decode cX10_suspect 8 = .ok (.iload_n 2, 1) := by decide +kernel
theorem dX10_suspect_9 : decode cX10_suspect 9 = .ok (.iconst 0, 1) := by decide +kernel
theorem dX10_suspect_10 : decode cX10_suspect 10 = .ok (.iconst 3, 1) := by decide +kernel
theorem dX10_suspect_11 : decode cX10_suspect 11 = .ok (.invokestatic 90, 3) := by decide +kernel
theorem dX10_suspect_14 : decode cX10_suspect 14 = .ok (.ifCond .ne 5, 3) := by decide +kernel
theorem dX10_suspect_17 : decode cX10_suspect 17 = .ok (.iconst (-1), 1) := by decide +kernel
theorem dX10_suspect_18 : decode cX10_suspect 18 = .ok (.ireturn, 1) := by decide +kernel
theorem dX10_suspect_19 : decode cX10_suspect 19 = .ok (.aload_n 0, 1) := by decide +kernel
theorem dX10_suspect_20 : decode cX10_suspect 20 = .ok (.invokevirtual 111, 3) := by decide +kernel
theorem dX10_suspect_23 : decode cX10_suspect 23 = .ok (.iload_n 2, 1) := by decide +kernel
theorem dX10_suspect_24 : decode cX10_suspect 24 = .ok (.tableswitch 58 0 2 #[28, 38, 48], 28) := by decide +kernel
theorem dX10_suspect_52 : decode cX10_suspect 52 = .ok (.aload_n 0, 1) := by decide +kernel
theorem dX10_suspect_53 : decode cX10_suspect 53 = .ok (.getfield 73, 3) := by decide +kernel
theorem dX10_suspect_56 : decode cX10_suspect 56 = .ok (.getfield 114, 3) := by decide +kernel
theorem dX10_suspect_59 : decode cX10_suspect 59 = .ok (.iload_n 1, 1) := by decide +kernel
theorem dX10_suspect_60 : decode cX10_suspect 60 = .ok (.iaload, 1) := by decide +kernel
theorem dX10_suspect_61 : decode cX10_suspect 61 = .ok (.ireturn, 1) := by decide +kernel
theorem dX10_suspect_62 : decode cX10_suspect 62 = .ok (.aload_n 0, 1) := by decide +kernel
theorem dX10_suspect_63 : decode cX10_suspect 63 = .ok (.getfield 19, 3) := by decide +kernel
theorem dX10_suspect_66 : decode cX10_suspect 66 = .ok (.getfield 117, 3) := by decide +kernel
theorem dX10_suspect_69 : decode cX10_suspect 69 = .ok (.iload_n 1, 1) := by decide +kernel
theorem dX10_suspect_70 : decode cX10_suspect 70 = .ok (.iaload, 1) := by decide +kernel
theorem dX10_suspect_71 : decode cX10_suspect 71 = .ok (.ireturn, 1) := by decide +kernel
theorem dX10_suspect_72 : decode cX10_suspect 72 = .ok (.aload_n 0, 1) := by decide +kernel
theorem dX10_suspect_73 : decode cX10_suspect 73 = .ok (.getfield 19, 3) := by decide +kernel
theorem dX10_suspect_76 : decode cX10_suspect 76 = .ok (.getfield 120, 3) := by decide +kernel
theorem dX10_suspect_79 : decode cX10_suspect 79 = .ok (.iload_n 1, 1) := by decide +kernel
theorem dX10_suspect_80 : decode cX10_suspect 80 = .ok (.iaload, 1) := by decide +kernel
theorem dX10_suspect_81 : decode cX10_suspect 81 = .ok (.ireturn, 1) := by decide +kernel
theorem dX10_suspect_82 : decode cX10_suspect 82 = .ok (.aload_n 0, 1) := by decide +kernel
theorem dX10_suspect_83 : decode cX10_suspect 83 = .ok (.getfield 19, 3) := by decide +kernel
theorem dX10_suspect_86 : decode cX10_suspect 86 = .ok (.getfield 123, 3) := by decide +kernel
theorem dX10_suspect_89 : decode cX10_suspect 89 = .ok (.iload_n 1, 1) := by decide +kernel
theorem dX10_suspect_90 : decode cX10_suspect 90 = .ok (.iaload, 1) := by decide +kernel
theorem dX10_suspect_91 : decode cX10_suspect 91 = .ok (.ireturn, 1) := by decide +kernel
theorem dX10_fact_0 : decode cX10_fact 0 = .ok (.aload_n 0, 1) := by decide +kernel
theorem dX10_fact_1 : decode cX10_fact 1 = .ok (.iload_n 1, 1) := by decide +kernel
theorem dX10_fact_2 : decode cX10_fact 2 = .ok (.invokevirtual 126, 3) := by decide +kernel
theorem dX10_fact_5 : decode cX10_fact 5 = .ok (.ifCond .eq 12, 3) := by decide +kernel
theorem dX10_fact_8 : decode cX10_fact 8 = .ok (.iload_n 2, 1) := by decide +kernel
theorem dX10_fact_9 : decode cX10_fact 9 = .ok (.iconst 0, 1) := by decide +kernel
theorem dX10_fact_10 : decode cX10_fact 10 = .ok (.iconst 2, 1) := by decide +kernel
theorem dX10_fact_11 : decode cX10_fact 11 = .ok (.invokestatic 90, 3) := by decide +kernel
theorem dX10_fact_14 : decode cX10_fact 14 = .ok (.ifCond .ne 5, 3) := by decide +kernel
theorem dX10_fact_17 : decode cX10_fact 17 = .ok (.iconst (-1), 1) := by decide +kernel
theorem dX10_fact_18 : decode cX10_fact 18 = .ok (.ireturn, 1) := by decide +kernel
theorem dX10_fact_19 : decode cX10_fact 19 = .ok (.iload_n 2, 1) := by decide +kernel
theorem dX10_fact_20 : decode cX10_fact 20 = .ok (.lookupswitch 48 #[(0, 28), (1, 38)], 28) := by decide +kernel
theorem dX10_fact_48 : decode cX10_fact 48 = .ok (.aload_n 0, 1) := by decide +kernel
theorem dX10_fact_49 : decode cX10_fact 49 = .ok (.getfield 73, 3) := by decide +kernel
theorem dX10_fact_52 : decode cX10_fact 52 = .ok (.getfield 129, 3) := by decide +kernel
theorem dX10_fact_55 : decode cX10_fact 55 = .ok (.iload_n 1, 1) := by decide +kernel
theorem dX10_fact_56 : decode cX10_fact 56 = .ok (.iaload, 1) := by decide +kernel
theorem dX10_fact_57 : decode cX10_fact 57 = .ok (.ireturn, 1) := by decide +kernel
theorem dX10_fact_58 : decode cX10_fact 58 = .ok (.aload_n 0, 1) := by decide +kernel
theorem dX10_fact_59 : decode cX10_fact 59 = .ok (.getfield 73, 3) := by decide +kernel
theorem dX10_fact_62 : decode cX10_fact 62 = .ok (.getfield 132, 3) := by decide +kernel
theorem dX10_fact_65 : decode cX10_fact 65 = .ok (.iload_n 1, 1) := by decide +kernel
theorem dX10_fact_66 : decode cX10_fact 66 = .ok (.iaload, 1) := by decide +kernel
theorem dX10_fact_67 : decode cX10_fact 67 = .ok (.ireturn, 1) := by decide +kernel
theorem dX10_fact_68 : decode cX10_fact 68 = .ok (.aload_n 0, 1) := by decide +kernel
theorem dX10_fact_69 : decode cX10_fact 69 = .ok (.getfield 26, 3) := by decide +kernel
theorem dX10_fact_72 : decode cX10_fact 72 = .ok (.getfield 135, 3) := by decide +kernel
theorem dX10_fact_75 : decode cX10_fact 75 = .ok (.iload_n 1, 1) := by decide +kernel
theorem dX10_fact_76 : decode cX10_fact 76 = .ok (.invokestatic 138, 3) := by decide +kernel
theorem dX10_fact_79 : decode cX10_fact 79 = .ok (.ireturn, 1) := by decide +kernel
theorem dX10_moves_0 : decode cX10_moves 0 = .ok (.aload_n 0, 1) := by decide +kernel
theorem dX10_moves_1 : decode cX10_moves 1 = .ok (.iload_n 1, 1) := by decide +kernel
theorem dX10_moves_2 : decode cX10_moves 2 = .ok (.invokevirtual 126, 3) := by decide +kernel
theorem dX10_moves_5 : decode cX10_moves 5 = .ok (.ifCond .eq 11, 3) := by decide +kernel
theorem dX10_moves_8 : decode cX10_moves 8 = .ok (.aload_n 0, 1) := by decide +kernel
theorem dX10_moves_9 : decode cX10_moves 9 = .ok (.iload_n 2, 1) := by decide +kernel
theorem dX10_moves_10 : decode cX10_moves 10 = .ok (.invokevirtual 107, 3) := by decide +kernel
theorem dX10_moves_13 : decode cX10_moves 13 = .ok (.ifCond .ne 6, 3) := by decide +kernel
theorem dX10_moves_16 : decode cX10_moves 16 = .ok (.ldc 142, 2) := by decide +kernel
theorem dX10_moves_18 : decode cX10_moves 18 = .ok (.ireturn, 1) := by decide +kernel
theorem dX10_moves_19 : decode cX10_moves 19 = .ok (.aload_n 0, 1) := by decide +kernel
theorem dX10_moves_20 : decode cX10_moves 20 = .ok (.getfield 73, 3) := by decide +kernel
theorem dX10_moves_23 : decode cX10_moves 23 = .ok (.getfield 143, 3) := by decide +kernel
theorem dX10_moves_26 : decode cX10_moves 26 = .ok (.iload_n 1, 1) := by decide +kernel
theorem dX10_moves_27 : decode cX10_moves 27 = .ok (.bipush 6, 2) := by decide +kernel
theorem dX10_moves_29 : decode cX10_moves 29 = .ok (.imul, 1) := by decide +kernel
theorem dX10_moves_30 : decode cX10_moves 30 = .ok (.iload_n 2, 1) := by decide +kernel
theorem dX10_moves_31 : decode cX10_moves 31 = .ok (.iadd, 1) := by decide +kernel
theorem dX10_moves_32 : decode cX10_moves 32 = .ok (.iaload, 1) := by decide +kernel
theorem dX10_moves_33 : decode cX10_moves 33 = .ok (.ireturn, 1) := by decide +kernel
theorem dX10_alibi_0 : decode cX10_alibi 0 = .ok (.aload_n 0, 1) := by decide +kernel
theorem dX10_alibi_1 : decode cX10_alibi 1 = .ok (.iload_n 1, 1) := by decide +kernel
theorem dX10_alibi_2 : decode cX10_alibi 2 = .ok (.invokevirtual 146, 3) := by decide +kernel
theorem dX10_alibi_5 : decode cX10_alibi 5 = .ok (.ifCond .eq 12, 3) := by decide +kernel
theorem dX10_alibi_8 : decode cX10_alibi 8 = .ok (.iload_n 2, 1) := by decide +kernel
theorem dX10_alibi_9 : decode cX10_alibi 9 = .ok (.iconst 0, 1) := by decide +kernel
theorem dX10_alibi_10 : decode cX10_alibi 10 = .ok (.iconst 4, 1) := by decide +kernel
theorem dX10_alibi_11 : decode cX10_alibi 11 = .ok (.invokestatic 90, 3) := by decide +kernel
theorem dX10_alibi_14 : decode cX10_alibi 14 = .ok (.ifCond .ne 5, 3) := by decide +kernel
theorem dX10_alibi_17 : decode cX10_alibi 17 = .ok (.iconst (-1), 1) := by decide +kernel
theorem dX10_alibi_18 : decode cX10_alibi 18 = .ok (.ireturn, 1) := by decide +kernel
theorem dX10_alibi_19 : decode cX10_alibi 19 = .ok (.iload_n 2, 1) := by decide +kernel
theorem dX10_alibi_20 : decode cX10_alibi 20 = .ok (.tableswitch 72 0 3 #[32, 42, 52, 62], 32) := by decide +kernel
theorem dX10_alibi_52 : decode cX10_alibi 52 = .ok (.aload_n 0, 1) := by decide +kernel
theorem dX10_alibi_53 : decode cX10_alibi 53 = .ok (.getfield 73, 3) := by decide +kernel
theorem dX10_alibi_56 : decode cX10_alibi 56 = .ok (.getfield 149, 3) := by decide +kernel
theorem dX10_alibi_59 : decode cX10_alibi 59 = .ok (.iload_n 1, 1) := by decide +kernel
theorem dX10_alibi_60 : decode cX10_alibi 60 = .ok (.iaload, 1) := by decide +kernel
theorem dX10_alibi_61 : decode cX10_alibi 61 = .ok (.ireturn, 1) := by decide +kernel
theorem dX10_alibi_62 : decode cX10_alibi 62 = .ok (.aload_n 0, 1) := by decide +kernel
theorem dX10_alibi_63 : decode cX10_alibi 63 = .ok (.getfield 73, 3) := by decide +kernel
theorem dX10_alibi_66 : decode cX10_alibi 66 = .ok (.getfield 152, 3) := by decide +kernel
theorem dX10_alibi_69 : decode cX10_alibi 69 = .ok (.iload_n 1, 1) := by decide +kernel
theorem dX10_alibi_70 : decode cX10_alibi 70 = .ok (.iaload, 1) := by decide +kernel
theorem dX10_alibi_71 : decode cX10_alibi 71 = .ok (.ireturn, 1) := by decide +kernel
theorem dX10_alibi_72 : decode cX10_alibi 72 = .ok (.aload_n 0, 1) := by decide +kernel
theorem dX10_alibi_73 : decode cX10_alibi 73 = .ok (.getfield 73, 3) := by decide +kernel
theorem dX10_alibi_76 : decode cX10_alibi 76 = .ok (.getfield 155, 3) := by decide +kernel
theorem dX10_alibi_79 : decode cX10_alibi 79 = .ok (.iload_n 1, 1) := by decide +kernel
theorem dX10_alibi_80 : decode cX10_alibi 80 = .ok (.iaload, 1) := by decide +kernel
theorem dX10_alibi_81 : decode cX10_alibi 81 = .ok (.ireturn, 1) := by decide +kernel
theorem dX10_alibi_82 : decode cX10_alibi 82 = .ok (.aload_n 0, 1) := by decide +kernel
theorem dX10_alibi_83 : decode cX10_alibi 83 = .ok (.getfield 73, 3) := by decide +kernel
theorem dX10_alibi_86 : decode cX10_alibi 86 = .ok (.getfield 158, 3) := by decide +kernel
theorem dX10_alibi_89 : decode cX10_alibi 89 = .ok (.iload_n 1, 1) := by decide +kernel
theorem dX10_alibi_90 : decode cX10_alibi 90 = .ok (.iaload, 1) := by decide +kernel
theorem dX10_alibi_91 : decode cX10_alibi 91 = .ok (.ireturn, 1) := by decide +kernel
theorem dX10_alibi_92 : decode cX10_alibi 92 = .ok (.aload_n 0, 1) := by decide +kernel
theorem dX10_alibi_93 : decode cX10_alibi 93 = .ok (.getfield 26, 3) := by decide +kernel
theorem dX10_alibi_96 : decode cX10_alibi 96 = .ok (.getfield 161, 3) := by decide +kernel
theorem dX10_alibi_99 : decode cX10_alibi 99 = .ok (.iload_n 1, 1) := by decide +kernel
theorem dX10_alibi_100 : decode cX10_alibi 100 = .ok (.invokestatic 138, 3) := by decide +kernel
theorem dX10_alibi_103 : decode cX10_alibi 103 = .ok (.ireturn, 1) := by decide +kernel
theorem dX10_find_0 : decode cX10_find 0 = .ok (.aload_n 0, 1) := by decide +kernel
theorem dX10_find_1 : decode cX10_find 1 = .ok (.iload_n 1, 1) := by decide +kernel
theorem dX10_find_2 : decode cX10_find 2 = .ok (.invokevirtual 126, 3) := by decide +kernel
theorem dX10_find_5 : decode cX10_find 5 = .ok (.ifCond .eq 12, 3) := by decide +kernel
theorem dX10_find_8 : decode cX10_find 8 = .ok (.iload_n 2, 1) := by decide +kernel
theorem dX10_find_9 : decode cX10_find 9 = .ok (.iconst 0, 1) := by decide +kernel
theorem dX10_find_10 : decode cX10_find 10 = .ok (.iconst 1, 1) := by decide +kernel
theorem dX10_find_11 : decode cX10_find 11 = .ok (.invokestatic 90, 3) := by decide +kernel
theorem dX10_find_14 : decode cX10_find 14 = .ok (.ifCond .ne 5, 3) := by decide +kernel
theorem dX10_find_17 : decode cX10_find 17 = .ok (.iconst (-1), 1) := by decide +kernel
theorem dX10_find_18 : decode cX10_find 18 = .ok (.ireturn, 1) := by decide +kernel
theorem dX10_find_19 : decode cX10_find 19 = .ok (.aload_n 0, 1) := by decide +kernel
theorem dX10_find_20 : decode cX10_find 20 = .ok (.getfield 26, 3) := by decide +kernel
theorem dX10_find_23 : decode cX10_find 23 = .ok (.getfield 135, 3) := by decide +kernel
theorem dX10_find_26 : decode cX10_find 26 = .ok (.iload_n 1, 1) := by decide +kernel
theorem dX10_find_27 : decode cX10_find 27 = .ok (.invokestatic 138, 3) := by decide +kernel
theorem dX10_find_30 : decode cX10_find 30 = .ok (.iload_n 2, 1) := by decide +kernel
theorem dX10_find_31 : decode cX10_find 31 = .ok (.if_icmp .ne 6, 3) := by decide +kernel
theorem dX10_find_34 : decode cX10_find 34 = .ok (.bipush (-2), 2) := by decide +kernel
theorem dX10_find_36 : decode cX10_find 36 = .ok (.ireturn, 1) := by decide +kernel
theorem dX10_find_37 : decode cX10_find 37 = .ok (.aload_n 0, 1) := by decide +kernel
theorem dX10_find_38 : decode cX10_find 38 = .ok (.getfield 26, 3) := by decide +kernel
theorem dX10_find_41 : decode cX10_find 41 = .ok (.invokevirtual 164, 3) := by decide +kernel
theorem dX10_find_44 : decode cX10_find 44 = .ok (.aload_n 0, 1) := by decide +kernel
theorem dX10_find_45 : decode cX10_find 45 = .ok (.getfield 26, 3) := by decide +kernel
theorem dX10_find_48 : decode cX10_find 48 = .ok (.dup, 1) := by decide +kernel
theorem dX10_find_49 : decode cX10_find 49 = .ok (.getfield 135, 3) := by decide +kernel
theorem dX10_find_52 : decode cX10_find 52 = .ok (.iconst 1, 1) := by decide +kernel
theorem dX10_find_53 : decode cX10_find 53 = .ok (.iload_n 1, 1) := by decide +kernel
theorem dX10_find_54 : decode cX10_find 54 = .ok (.ishl, 1) := by decide +kernel
theorem dX10_find_55 : decode cX10_find 55 = .ok (.ixor, 1) := by decide +kernel
theorem dX10_find_56 : decode cX10_find 56 = .ok (.putfield 135, 3) := by decide +kernel
theorem dX10_find_59 : decode cX10_find 59 = .ok (.aload_n 0, 1) := by decide +kernel
theorem dX10_find_60 : decode cX10_find 60 = .ok (.invokevirtual 167, 3) := by decide +kernel
theorem dX10_find_63 : decode cX10_find 63 = .ok (.ireturn, 1) := by decide +kernel
theorem dX10_hear_0 : decode cX10_hear 0 = .ok (.aload_n 0, 1) := by decide +kernel
theorem dX10_hear_1 : decode cX10_hear 1 = .ok (.iload_n 1, 1) := by decide +kernel
theorem dX10_hear_2 : decode cX10_hear 2 = .ok (.invokevirtual 146, 3) := by decide +kernel
theorem dX10_hear_5 : decode cX10_hear 5 = .ok (.ifCond .eq 12, 3) := by decide +kernel
theorem dX10_hear_8 : decode cX10_hear 8 = .ok (.iload_n 2, 1) := by decide +kernel
theorem dX10_hear_9 : decode cX10_hear 9 = .ok (.iconst 0, 1) := by decide +kernel
theorem dX10_hear_10 : decode cX10_hear 10 = .ok (.iconst 1, 1) := by decide +kernel
theorem dX10_hear_11 : decode cX10_hear 11 = .ok (.invokestatic 90, 3) := by decide +kernel
theorem dX10_hear_14 : decode cX10_hear 14 = .ok (.ifCond .ne 5, 3) := by decide +kernel
theorem dX10_hear_17 : decode cX10_hear 17 = .ok (.iconst (-1), 1) := by decide +kernel
theorem dX10_hear_18 : decode cX10_hear 18 = .ok (.ireturn, 1) := by decide +kernel
theorem dX10_hear_19 : decode cX10_hear 19 = .ok (.aload_n 0, 1) := by decide +kernel
theorem dX10_hear_20 : decode cX10_hear 20 = .ok (.getfield 26, 3) := by decide +kernel
theorem dX10_hear_23 : decode cX10_hear 23 = .ok (.getfield 161, 3) := by decide +kernel
theorem dX10_hear_26 : decode cX10_hear 26 = .ok (.iload_n 1, 1) := by decide +kernel
theorem dX10_hear_27 : decode cX10_hear 27 = .ok (.invokestatic 138, 3) := by decide +kernel
theorem dX10_hear_30 : decode cX10_hear 30 = .ok (.iload_n 2, 1) := by decide +kernel
theorem dX10_hear_31 : decode cX10_hear 31 = .ok (.if_icmp .ne 6, 3) := by decide +kernel
theorem dX10_hear_34 : decode cX10_hear 34 = .ok (.bipush (-2), 2) := by decide +kernel
theorem dX10_hear_36 : decode cX10_hear 36 = .ok (.ireturn, 1) := by decide +kernel
theorem dX10_hear_37 : decode cX10_hear 37 = .ok (.aload_n 0, 1) := by decide +kernel
theorem dX10_hear_38 : decode cX10_hear 38 = .ok (.getfield 26, 3) := by decide +kernel
theorem dX10_hear_41 : decode cX10_hear 41 = .ok (.invokevirtual 164, 3) := by decide +kernel
theorem dX10_hear_44 : decode cX10_hear 44 = .ok (.aload_n 0, 1) := by decide +kernel
theorem dX10_hear_45 : decode cX10_hear 45 = .ok (.getfield 26, 3) := by decide +kernel
theorem dX10_hear_48 : decode cX10_hear 48 = .ok (.dup, 1) := by decide +kernel
theorem dX10_hear_49 : decode cX10_hear 49 = .ok (.getfield 161, 3) := by decide +kernel
theorem dX10_hear_52 : decode cX10_hear 52 = .ok (.iconst 1, 1) := by decide +kernel
theorem dX10_hear_53 : decode cX10_hear 53 = .ok (.iload_n 1, 1) := by decide +kernel
theorem dX10_hear_54 : decode cX10_hear 54 = .ok (.ishl, 1) := by decide +kernel
theorem dX10_hear_55 : decode cX10_hear 55 = .ok (.ixor, 1) := by decide +kernel
theorem dX10_hear_56 : decode cX10_hear 56 = .ok (.putfield 161, 3) := by decide +kernel
theorem dX10_hear_59 : decode cX10_hear 59 = .ok (.aload_n 0, 1) := by decide +kernel
theorem dX10_hear_60 : decode cX10_hear 60 = .ok (.invokevirtual 167, 3) := by decide +kernel
theorem dX10_hear_63 : decode cX10_hear 63 = .ok (.ireturn, 1) := by decide +kernel
theorem dX10_days_0 : decode cX10_days 0 = .ok (.iload_n 1, 1) := by decide +kernel
theorem dX10_days_1 : decode cX10_days 1 = .ok (.iconst 0, 1) := by decide +kernel
theorem dX10_days_2 : decode cX10_days 2 = .ok (.bipush 60, 2) := by decide +kernel
theorem dX10_days_4 : decode cX10_days 4 = .ok (.invokestatic 90, 3) := by decide +kernel
theorem dX10_days_7 : decode cX10_days 7 = .ok (.ifCond .ne 5, 3) := by decide +kernel
theorem dX10_days_10 : decode cX10_days 10 = .ok (.iconst (-1), 1) := by decide +kernel
theorem dX10_days_11 : decode cX10_days 11 = .ok (.ireturn, 1) := by decide +kernel
theorem dX10_days_12 : decode cX10_days 12 = .ok (.aload_n 0, 1) := by decide +kernel
theorem dX10_days_13 : decode cX10_days 13 = .ok (.getfield 26, 3) := by decide +kernel
theorem dX10_days_16 : decode cX10_days 16 = .ok (.getfield 171, 3) := by decide +kernel
theorem dX10_days_19 : decode cX10_days 19 = .ok (.iload_n 1, 1) := by decide +kernel
theorem dX10_days_20 : decode cX10_days 20 = .ok (.if_icmp .ne 6, 3) := by decide +kernel
theorem dX10_days_23 : decode cX10_days 23 = .ok (.bipush (-2), 2) := by decide +kernel
theorem dX10_days_25 : decode cX10_days 25 = .ok (.ireturn, 1) := by decide +kernel
theorem dX10_days_26 : decode cX10_days 26 = .ok (.aload_n 0, 1) := by decide +kernel
theorem dX10_days_27 : decode cX10_days 27 = .ok (.getfield 26, 3) := by decide +kernel
theorem dX10_days_30 : decode cX10_days 30 = .ok (.getfield 171, 3) := by decide +kernel
theorem dX10_days_33 : decode cX10_days 33 = .ok (.istore_n 2, 1) := by decide +kernel
theorem dX10_days_34 : decode cX10_days 34 = .ok (.aload_n 0, 1) := by decide +kernel
theorem dX10_days_35 : decode cX10_days 35 = .ok (.getfield 26, 3) := by decide +kernel
theorem dX10_days_38 : decode cX10_days 38 = .ok (.invokevirtual 164, 3) := by decide +kernel
theorem dX10_days_41 : decode cX10_days 41 = .ok (.aload_n 0, 1) := by decide +kernel
theorem dX10_days_42 : decode cX10_days 42 = .ok (.getfield 26, 3) := by decide +kernel
theorem dX10_days_45 : decode cX10_days 45 = .ok (.iload_n 1, 1) := by decide +kernel
theorem dX10_days_46 : decode cX10_days 46 = .ok (.putfield 171, 3) := by decide +kernel
theorem dX10_days_49 : decode cX10_days 49 = .ok (.iload_n 2, 1) := by decide +kernel
theorem dX10_days_50 : decode cX10_days 50 = .ok (.ireturn, 1) := by decide +kernel
theorem dX10_undo_0 : decode cX10_undo 0 = .ok (.aload_n 0, 1) := by decide +kernel
theorem dX10_undo_1 : decode cX10_undo 1 = .ok (.getfield 26, 3) := by decide +kernel
theorem dX10_undo_4 : decode cX10_undo 4 = .ok (.getfield 172, 3) := by decide +kernel
theorem dX10_undo_7 : decode cX10_undo 7 = .ok (.ifCond .ne 6, 3) := by decide +kernel
theorem dX10_undo_10 : decode cX10_undo 10 = .ok (.bipush (-2), 2) := by decide +kernel
theorem dX10_undo_12 : decode cX10_undo 12 = .ok (.ireturn, 1) := by decide +kernel
theorem dX10_undo_13 : decode cX10_undo 13 = .ok (.aload_n 0, 1) := by decide +kernel
theorem dX10_undo_14 : decode cX10_undo 14 = .ok (.getfield 26, 3) := by decide +kernel
theorem dX10_undo_17 : decode cX10_undo 17 = .ok (.invokevirtual 175, 3) := by decide +kernel
theorem dX10_undo_20 : decode cX10_undo 20 = .ok (.aload_n 0, 1) := by decide +kernel
theorem dX10_undo_21 : decode cX10_undo 21 = .ok (.getfield 26, 3) := by decide +kernel
theorem dX10_undo_24 : decode cX10_undo 24 = .ok (.getfield 172, 3) := by decide +kernel
theorem dX10_undo_27 : decode cX10_undo 27 = .ok (.ireturn, 1) := by decide +kernel
theorem dX10_share_0 : decode cX10_share 0 = .ok (.aload_n 0, 1) := by decide +kernel
theorem dX10_share_1 : decode cX10_share 1 = .ok (.iload_n 1, 1) := by decide +kernel
theorem dX10_share_2 : decode cX10_share 2 = .ok (.invokevirtual 107, 3) := by decide +kernel
theorem dX10_share_5 : decode cX10_share 5 = .ok (.ifCond .eq 12, 3) := by decide +kernel
theorem dX10_share_8 : decode cX10_share 8 = .ok (.iload_n 2, 1) := by decide +kernel
theorem dX10_share_9 : decode cX10_share 9 = .ok (.iconst 0, 1) := by decide +kernel
theorem dX10_share_10 : decode cX10_share 10 = .ok (.iconst 1, 1) := by decide +kernel
theorem dX10_share_11 : decode cX10_share 11 = .ok (.invokestatic 90, 3) := by decide +kernel
theorem dX10_share_14 : decode cX10_share 14 = .ok (.ifCond .ne 5, 3) := by decide +kernel
theorem dX10_share_17 : decode cX10_share 17 = .ok (.iconst (-1), 1) := by decide +kernel
theorem dX10_share_18 : decode cX10_share 18 = .ok (.ireturn, 1) := by decide +kernel
theorem dX10_share_19 : decode cX10_share 19 = .ok (.aload_n 0, 1) := by decide +kernel
theorem dX10_share_20 : decode cX10_share 20 = .ok (.invokevirtual 111, 3) := by decide +kernel
theorem dX10_share_23 : decode cX10_share 23 = .ok (.aload_n 0, 1) := by decide +kernel
theorem dX10_share_24 : decode cX10_share 24 = .ok (.getfield 19, 3) := by decide +kernel
theorem dX10_share_27 : decode cX10_share 27 = .ok (.getfield 178, 3) := by decide +kernel
theorem dX10_share_30 : decode cX10_share 30 = .ok (.ifCond .ne 6, 3) := by decide +kernel
theorem dX10_share_33 : decode cX10_share 33 = .ok (.bipush (-2), 2) := by decide +kernel
theorem dX10_share_35 : decode cX10_share 35 = .ok (.ireturn, 1) := by decide +kernel
theorem dX10_share_36 : decode cX10_share 36 = .ok (.iload_n 2, 1) := by decide +kernel
theorem dX10_share_37 : decode cX10_share 37 = .ok (.ifCond .ne 15, 3) := by decide +kernel
theorem dX10_share_40 : decode cX10_share 40 = .ok (.aload_n 0, 1) := by decide +kernel
theorem dX10_share_41 : decode cX10_share 41 = .ok (.getfield 19, 3) := by decide +kernel
theorem dX10_share_44 : decode cX10_share 44 = .ok (.getfield 117, 3) := by decide +kernel
theorem dX10_share_47 : decode cX10_share 47 = .ok (.iload_n 1, 1) := by decide +kernel
theorem dX10_share_48 : decode cX10_share 48 = .ok (.iaload, 1) := by decide +kernel
theorem dX10_share_49 : decode cX10_share 49 = .ok (.goto 10, 3) := by decide +kernel
theorem dX10_share_52 : decode cX10_share 52 = .ok (.aload_n 0, 1) := by decide +kernel
theorem dX10_share_53 : decode cX10_share 53 = .ok (.getfield 19, 3) := by decide +kernel
theorem dX10_share_56 : decode cX10_share 56 = .ok (.getfield 178, 3) := by decide +kernel
theorem dX10_share_59 : decode cX10_share 59 = .ok (.istore_n 3, 1) := by decide +kernel
theorem dX10_share_60 : decode cX10_share 60 = .ok (.iload_n 3, 1) := by decide +kernel
theorem dX10_share_61 : decode cX10_share 61 = .ok (.aload_n 0, 1) := by decide +kernel
theorem dX10_share_62 : decode cX10_share 62 = .ok (.getfield 19, 3) := by decide +kernel
theorem dX10_share_65 : decode cX10_share 65 = .ok (.getfield 178, 3) := by decide +kernel
theorem dX10_share_68 : decode cX10_share 68 = .ok (.aload_n 0, 1) := by decide +kernel
theorem dX10_share_69 : decode cX10_share 69 = .ok (.getfield 19, 3) := by decide +kernel
theorem dX10_share_72 : decode cX10_share 72 = .ok (.getfield 117, 3) := by decide +kernel
theorem dX10_share_75 : decode cX10_share 75 = .ok (.iload_n 1, 1) := by decide +kernel
theorem dX10_share_76 : decode cX10_share 76 = .ok (.iaload, 1) := by decide +kernel
theorem dX10_share_77 : decode cX10_share 77 = .ok (.invokestatic 181, 3) := by decide +kernel
theorem dX10_share_80 : decode cX10_share 80 = .ok (.idiv, 1) := by decide +kernel
theorem dX10_share_81 : decode cX10_share 81 = .ok (.ireturn, 1) := by decide +kernel
theorem dX10_now_0 : decode cX10_now 0 = .ok (.iload_n 1, 1) := by decide +kernel
theorem dX10_now_1 : decode cX10_now 1 = .ok (.tableswitch 76 0 4 #[35, 40, 48, 56, 64], 35) := by decide +kernel
theorem dX10_now_36 : decode cX10_now 36 = .ok (.aload_n 0, 1) := by decide +kernel
theorem dX10_now_37 : decode cX10_now 37 = .ok (.invokevirtual 167, 3) := by decide +kernel
theorem dX10_now_40 : decode cX10_now 40 = .ok (.ireturn, 1) := by decide +kernel
theorem dX10_now_41 : decode cX10_now 41 = .ok (.aload_n 0, 1) := by decide +kernel
theorem dX10_now_42 : decode cX10_now 42 = .ok (.getfield 26, 3) := by decide +kernel
theorem dX10_now_45 : decode cX10_now 45 = .ok (.getfield 135, 3) := by decide +kernel
theorem dX10_now_48 : decode cX10_now 48 = .ok (.ireturn, 1) := by decide +kernel
theorem dX10_now_49 : decode cX10_now 49 = .ok (.aload_n 0, 1) := by decide +kernel
theorem dX10_now_50 : decode cX10_now 50 = .ok (.getfield 26, 3) := by decide +kernel
theorem dX10_now_53 : decode cX10_now 53 = .ok (.getfield 161, 3) := by decide +kernel
theorem dX10_now_56 : decode cX10_now 56 = .ok (.ireturn, 1) := by decide +kernel
theorem dX10_now_57 : decode cX10_now 57 = .ok (.aload_n 0, 1) := by decide +kernel
theorem dX10_now_58 : decode cX10_now 58 = .ok (.getfield 26, 3) := by decide +kernel
theorem dX10_now_61 : decode cX10_now 61 = .ok (.getfield 171, 3) := by decide +kernel
theorem dX10_now_64 : decode cX10_now 64 = .ok (.ireturn, 1) := by decide +kernel
theorem dX10_now_65 : decode cX10_now 65 = .ok (.aload_n 0, 1) := by decide +kernel
theorem dX10_now_66 : decode cX10_now 66 = .ok (.invokevirtual 111, 3) := by decide +kernel
theorem dX10_now_69 : decode cX10_now 69 = .ok (.aload_n 0, 1) := by decide +kernel
theorem dX10_now_70 : decode cX10_now 70 = .ok (.getfield 19, 3) := by decide +kernel
theorem dX10_now_73 : decode cX10_now 73 = .ok (.invokevirtual 184, 3) := by decide +kernel
theorem dX10_now_76 : decode cX10_now 76 = .ok (.ireturn, 1) := by decide +kernel
theorem dX10_now_77 : decode cX10_now 77 = .ok (.iconst (-1), 1) := by decide +kernel
theorem dX10_now_78 : decode cX10_now 78 = .ok (.ireturn, 1) := by decide +kernel
theorem dX10_proof_0 : decode cX10_proof 0 = .ok (.aload_n 0, 1) := by decide +kernel
theorem dX10_proof_1 : decode cX10_proof 1 = .ok (.iload_n 1, 1) := by decide +kernel
theorem dX10_proof_2 : decode cX10_proof 2 = .ok (.invokevirtual 107, 3) := by decide +kernel
theorem dX10_proof_5 : decode cX10_proof 5 = .ok (.ifCond .eq 21, 3) := by decide +kernel
theorem dX10_proof_8 : decode cX10_proof 8 = .ok (.iload_n 2, 1) := by decide +kernel
theorem dX10_proof_9 : decode cX10_proof 9 = .ok (.iload_n 3, 1) := by decide +kernel
theorem dX10_proof_10 : decode cX10_proof 10 = .ok (.invokestatic 187, 3) := by decide +kernel
theorem dX10_proof_13 : decode cX10_proof 13 = .ok (.ifCond .eq 13, 3) := by decide +kernel
theorem dX10_proof_16 : decode cX10_proof 16 = .ok (.iload 4, 2) := by decide +kernel
theorem dX10_proof_18 : decode cX10_proof 18 = .ok (.iconst 0, 1) := by decide +kernel
theorem dX10_proof_19 : decode cX10_proof 19 = .ok (.iconst 1, 1) := by decide +kernel
theorem dX10_proof_20 : decode cX10_proof 20 = .ok (.invokestatic 90, 3) := by decide +kernel
theorem dX10_proof_23 : decode cX10_proof 23 = .ok (.ifCond .ne 5, 3) := by decide +kernel
theorem dX10_proof_26 : decode cX10_proof 26 = .ok (.iconst (-1), 1) := by decide +kernel
theorem dX10_proof_27 : decode cX10_proof 27 = .ok (.ireturn, 1) := by decide +kernel
theorem dX10_proof_28 : decode cX10_proof 28 = .ok (.aload_n 0, 1) := by decide +kernel
theorem dX10_proof_29 : decode cX10_proof 29 = .ok (.aload_n 0, 1) := by decide +kernel
theorem dX10_proof_30 : decode cX10_proof 30 = .ok (.iload_n 1, 1) := by decide +kernel
theorem dX10_proof_31 : decode cX10_proof 31 = .ok (.iload_n 2, 1) := by decide +kernel
theorem dX10_proof_32 : decode cX10_proof 32 = .ok (.iload_n 3, 1) := by decide +kernel
theorem dX10_proof_33 : decode cX10_proof 33 = .ok (.iconst 1, 1) := by decide +kernel
theorem dX10_proof_34 : decode cX10_proof 34 = .ok (.invokevirtual 191, 3) := by decide +kernel
theorem dX10_proof_37 : decode cX10_proof 37 = .ok (.iload 4, 2) := by decide +kernel
theorem dX10_proof_39 : decode cX10_proof 39 = .ok (.invokevirtual 195, 3) := by decide +kernel
theorem dX10_proof_42 : decode cX10_proof 42 = .ok (.ireturn, 1) := by decide +kernel
theorem dX10_cleared_0 : decode cX10_cleared 0 = .ok (.aload_n 0, 1) := by decide +kernel
theorem dX10_cleared_1 : decode cX10_cleared 1 = .ok (.iload_n 1, 1) := by decide +kernel
theorem dX10_cleared_2 : decode cX10_cleared 2 = .ok (.invokevirtual 107, 3) := by decide +kernel
theorem dX10_cleared_5 : decode cX10_cleared 5 = .ok (.ifCond .eq 21, 3) := by decide +kernel
theorem dX10_cleared_8 : decode cX10_cleared 8 = .ok (.iload_n 2, 1) := by decide +kernel
theorem dX10_cleared_9 : decode cX10_cleared 9 = .ok (.iload_n 3, 1) := by decide +kernel
theorem dX10_cleared_10 : decode cX10_cleared 10 = .ok (.invokestatic 187, 3) := by decide +kernel
theorem dX10_cleared_13 : decode cX10_cleared 13 = .ok (.ifCond .eq 13, 3) := by decide +kernel
theorem dX10_cleared_16 : decode cX10_cleared 16 = .ok (.iload 4, 2) := by decide +kernel
theorem dX10_cleared_18 : decode cX10_cleared 18 = .ok (.iconst 0, 1) := by decide +kernel
theorem dX10_cleared_19 : decode cX10_cleared 19 = .ok (.iconst 1, 1) := by decide +kernel
theorem dX10_cleared_20 : decode cX10_cleared 20 = .ok (.invokestatic 90, 3) := by decide +kernel
theorem dX10_cleared_23 : decode cX10_cleared 23 = .ok (.ifCond .ne 5, 3) := by decide +kernel
theorem dX10_cleared_26 : decode cX10_cleared 26 = .ok (.iconst (-1), 1) := by decide +kernel
theorem dX10_cleared_27 : decode cX10_cleared 27 = .ok (.ireturn, 1) := by decide +kernel
theorem dX10_cleared_28 : decode cX10_cleared 28 = .ok (.aload_n 0, 1) := by decide +kernel
theorem dX10_cleared_29 : decode cX10_cleared 29 = .ok (.aload_n 0, 1) := by decide +kernel
theorem dX10_cleared_30 : decode cX10_cleared 30 = .ok (.iload_n 1, 1) := by decide +kernel
theorem dX10_cleared_31 : decode cX10_cleared 31 = .ok (.iload_n 2, 1) := by decide +kernel
theorem dX10_cleared_32 : decode cX10_cleared 32 = .ok (.iload_n 3, 1) := by decide +kernel
theorem dX10_cleared_33 : decode cX10_cleared 33 = .ok (.iconst 0, 1) := by decide +kernel
theorem dX10_cleared_34 : decode cX10_cleared 34 = .ok (.invokevirtual 191, 3) := by decide +kernel
theorem dX10_cleared_37 : decode cX10_cleared 37 = .ok (.iload 4, 2) := by decide +kernel
theorem dX10_cleared_39 : decode cX10_cleared 39 = .ok (.invokevirtual 195, 3) := by decide +kernel
theorem dX10_cleared_42 : decode cX10_cleared 42 = .ok (.ireturn, 1) := by decide +kernel
theorem dX10_forged_0 : decode cX10_forged 0 = .ok (.aload_n 0, 1) := by decide +kernel
theorem dX10_forged_1 : decode cX10_forged 1 = .ok (.iload_n 1, 1) := by decide +kernel
theorem dX10_forged_2 : decode cX10_forged 2 = .ok (.invokevirtual 107, 3) := by decide +kernel
theorem dX10_forged_5 : decode cX10_forged 5 = .ok (.ifCond .eq 11, 3) := by decide +kernel
theorem dX10_forged_8 : decode cX10_forged 8 = .ok (.iload_n 2, 1) := by decide +kernel
theorem dX10_forged_9 : decode cX10_forged 9 = .ok (.iload_n 3, 1) := by decide +kernel
theorem dX10_forged_10 : decode cX10_forged 10 = .ok (.invokestatic 187, 3) := by decide +kernel
theorem dX10_forged_13 : decode cX10_forged 13 = .ok (.ifCond .ne 5, 3) := by decide +kernel
theorem dX10_forged_16 : decode cX10_forged 16 = .ok (.iconst (-1), 1) := by decide +kernel
theorem dX10_forged_17 : decode cX10_forged 17 = .ok (.ireturn, 1) := by decide +kernel
theorem dX10_forged_18 : decode cX10_forged 18 = .ok (.aload_n 0, 1) := by decide +kernel
theorem dX10_forged_19 : decode cX10_forged 19 = .ok (.invokevirtual 111, 3) := by decide +kernel
theorem dX10_forged_22 : decode cX10_forged 22 = .ok (.aload_n 0, 1) := by decide +kernel
theorem dX10_forged_23 : decode cX10_forged 23 = .ok (.getfield 73, 3) := by decide +kernel
theorem dX10_forged_26 : decode cX10_forged 26 = .ok (.getfield 198, 3) := by decide +kernel
theorem dX10_forged_29 : decode cX10_forged 29 = .ok (.aload_n 0, 1) := by decide +kernel
theorem dX10_forged_30 : decode cX10_forged 30 = .ok (.getfield 73, 3) := by decide +kernel
theorem dX10_forged_33 : decode cX10_forged 33 = .ok (.getfield 201, 3) := by decide +kernel
theorem dX10_forged_36 : decode cX10_forged 36 = .ok (.isub, 1) := by decide +kernel
theorem dX10_forged_37 : decode cX10_forged 37 = .ok (.iconst 1, 1) := by decide +kernel
theorem dX10_forged_38 : decode cX10_forged 38 = .ok (.iadd, 1) := by decide +kernel
theorem dX10_forged_39 : decode cX10_forged 39 = .ok (.aload_n 0, 1) := by decide +kernel
theorem dX10_forged_40 : decode cX10_forged 40 = .ok (.getfield 19, 3) := by decide +kernel
theorem dX10_forged_43 : decode cX10_forged 43 = .ok (.getfield 123, 3) := by decide +kernel
theorem dX10_forged_46 : decode cX10_forged 46 = .ok (.iload_n 1, 1) := by decide +kernel
theorem dX10_forged_47 : decode cX10_forged 47 = .ok (.iaload, 1) := by decide +kernel
theorem dX10_forged_48 : decode cX10_forged 48 = .ok (.isub, 1) := by decide +kernel
theorem dX10_forged_49 : decode cX10_forged 49 = .ok (.istore 4, 2) := by decide +kernel
theorem dX10_forged_51 : decode cX10_forged 51 = .ok (.iconst 0, 1) := by decide +kernel
theorem dX10_forged_52 : decode cX10_forged 52 = .ok (.istore 5, 2) := by decide +kernel
theorem dX10_forged_54 : decode cX10_forged 54 = .ok (.iload 5, 2) := by decide +kernel
theorem dX10_forged_56 : decode cX10_forged 56 = .ok (.iload 4, 2) := by decide +kernel
theorem dX10_forged_58 : decode cX10_forged 58 = .ok (.if_icmp .gt 64, 3) := by decide +kernel
theorem dX10_forged_61 : decode cX10_forged 61 = .ok (.iconst 0, 1) := by decide +kernel
theorem dX10_forged_62 : decode cX10_forged 62 = .ok (.aload_n 0, 1) := by decide +kernel
theorem dX10_forged_63 : decode cX10_forged 63 = .ok (.getfield 19, 3) := by decide +kernel
theorem dX10_forged_66 : decode cX10_forged 66 = .ok (.getfield 117, 3) := by decide +kernel
theorem dX10_forged_69 : decode cX10_forged 69 = .ok (.iload_n 1, 1) := by decide +kernel
theorem dX10_forged_70 : decode cX10_forged 70 = .ok (.iaload, 1) := by decide +kernel
theorem dX10_forged_71 : decode cX10_forged 71 = .ok (.iload 5, 2) := by decide +kernel
theorem dX10_forged_73 : decode cX10_forged 73 = .ok (.isub, 1) := by decide +kernel
theorem dX10_forged_74 : decode cX10_forged 74 = .ok (.invokestatic 204, 3) := by decide +kernel
theorem dX10_forged_77 : decode cX10_forged 77 = .ok (.istore 6, 2) := by decide +kernel
theorem dX10_forged_79 : decode cX10_forged 79 = .ok (.aload_n 0, 1) := by decide +kernel
theorem dX10_forged_80 : decode cX10_forged 80 = .ok (.getfield 19, 3) := by decide +kernel
theorem dX10_forged_83 : decode cX10_forged 83 = .ok (.getfield 178, 3) := by decide +kernel
theorem dX10_forged_86 : decode cX10_forged 86 = .ok (.aload_n 0, 1) := by decide +kernel
theorem dX10_forged_87 : decode cX10_forged 87 = .ok (.getfield 19, 3) := by decide +kernel
theorem dX10_forged_90 : decode cX10_forged 90 = .ok (.getfield 117, 3) := by decide +kernel
theorem dX10_forged_93 : decode cX10_forged 93 = .ok (.iload_n 1, 1) := by decide +kernel
theorem dX10_forged_94 : decode cX10_forged 94 = .ok (.iaload, 1) := by decide +kernel
theorem dX10_forged_95 : decode cX10_forged 95 = .ok (.isub, 1) := by decide +kernel
theorem dX10_forged_96 : decode cX10_forged 96 = .ok (.iload 6, 2) := by decide +kernel
theorem dX10_forged_98 : decode cX10_forged 98 = .ok (.iadd, 1) := by decide +kernel
theorem dX10_forged_99 : decode cX10_forged 99 = .ok (.istore 7, 2) := by decide +kernel
theorem dX10_forged_101 : decode cX10_forged 101 = .ok (.iload 6, 2) := by decide +kernel
theorem dX10_forged_103 : decode cX10_forged 103 = .ok (.iload 7, 2) := by decide +kernel
theorem dX10_forged_105 : decode cX10_forged 105 = .ok (.iload_n 2, 1) := by decide +kernel
theorem dX10_forged_106 : decode cX10_forged 106 = .ok (.iload_n 3, 1) := by decide +kernel
theorem dX10_forged_107 : decode cX10_forged 107 = .ok (.invokestatic 209, 3) := by decide +kernel
theorem dX10_forged_110 : decode cX10_forged 110 = .ok (.ifCond .eq 6, 3) := by decide +kernel
theorem dX10_forged_113 : decode cX10_forged 113 = .ok (.iload 5, 2) := by decide +kernel
theorem dX10_forged_115 : decode cX10_forged 115 = .ok (.ireturn, 1) := by decide +kernel
theorem dX10_forged_116 : decode cX10_forged 116 = .ok (.iinc 5 1, 3) := by decide +kernel
theorem dX10_forged_119 : decode cX10_forged 119 = .ok (.goto (-65), 3) := by decide +kernel
theorem dX10_forged_122 : decode cX10_forged 122 = .ok (.bipush (-9), 2) := by decide +kernel
theorem dX10_forged_124 : decode cX10_forged 124 = .ok (.ireturn, 1) := by decide +kernel
theorem dX10_clash_0 : decode cX10_clash 0 = .ok (.iload_n 1, 1) := by decide +kernel
theorem dX10_clash_1 : decode cX10_clash 1 = .ok (.iconst 0, 1) := by decide +kernel
theorem dX10_clash_2 : decode cX10_clash 2 = .ok (.iconst 1, 1) := by decide +kernel
theorem dX10_clash_3 : decode cX10_clash 3 = .ok (.invokestatic 90, 3) := by decide +kernel
theorem dX10_clash_6 : decode cX10_clash 6 = .ok (.ifCond .ne 5, 3) := by decide +kernel
theorem dX10_clash_9 : decode cX10_clash 9 = .ok (.iconst (-1), 1) := by decide +kernel
theorem dX10_clash_10 : decode cX10_clash 10 = .ok (.ireturn, 1) := by decide +kernel
theorem dX10_clash_11 : decode cX10_clash 11 = .ok (.aload_n 0, 1) := by decide +kernel
theorem dX10_clash_12 : decode cX10_clash 12 = .ok (.invokevirtual 213, 3) := by decide +kernel
theorem dX10_clash_15 : decode cX10_clash 15 = .ok (.istore_n 2, 1) := by decide +kernel
theorem dX10_clash_16 : decode cX10_clash 16 = .ok (.iload_n 1, 1) := by decide +kernel
theorem dX10_clash_17 : decode cX10_clash 17 = .ok (.ifCond .ne 7, 3) := by decide +kernel
theorem dX10_clash_20 : decode cX10_clash 20 = .ok (.iload_n 2, 1) := by decide +kernel
theorem dX10_clash_21 : decode cX10_clash 21 = .ok (.goto 7, 3) := by decide +kernel
theorem dX10_clash_24 : decode cX10_clash 24 = .ok (.aload_n 0, 1) := by decide +kernel
theorem dX10_clash_25 : decode cX10_clash 25 = .ok (.invokevirtual 216, 3) := by decide +kernel
theorem dX10_clash_28 : decode cX10_clash 28 = .ok (.ireturn, 1) := by decide +kernel
theorem dX10_rests_0 : decode cX10_rests 0 = .ok (.iload_n 1, 1) := by decide +kernel
theorem dX10_rests_1 : decode cX10_rests 1 = .ok (.iconst 0, 1) := by decide +kernel
theorem dX10_rests_2 : decode cX10_rests 2 = .ok (.iconst 1, 1) := by decide +kernel
theorem dX10_rests_3 : decode cX10_rests 3 = .ok (.invokestatic 90, 3) := by decide +kernel
theorem dX10_rests_6 : decode cX10_rests 6 = .ok (.ifCond .ne 5, 3) := by decide +kernel
theorem dX10_rests_9 : decode cX10_rests 9 = .ok (.iconst (-1), 1) := by decide +kernel
theorem dX10_rests_10 : decode cX10_rests 10 = .ok (.ireturn, 1) := by decide +kernel
theorem dX10_rests_11 : decode cX10_rests 11 = .ok (.aload_n 0, 1) := by decide +kernel
theorem dX10_rests_12 : decode cX10_rests 12 = .ok (.invokevirtual 111, 3) := by decide +kernel
theorem dX10_rests_15 : decode cX10_rests 15 = .ok (.iconst 0, 1) := by decide +kernel
theorem dX10_rests_16 : decode cX10_rests 16 = .ok (.istore_n 2, 1) := by decide +kernel
theorem dX10_rests_17 : decode cX10_rests 17 = .ok (.bipush (-9), 2) := by decide +kernel
theorem dX10_rests_19 : decode cX10_rests 19 = .ok (.istore_n 3, 1) := by decide +kernel
theorem dX10_rests_20 : decode cX10_rests 20 = .ok (.iconst 0, 1) := by decide +kernel
theorem dX10_rests_21 : decode cX10_rests 21 = .ok (.istore 4, 2) := by decide +kernel
theorem dX10_rests_23 : decode cX10_rests 23 = .ok (.iload 4, 2) := by decide +kernel
theorem dX10_rests_25 : decode cX10_rests 25 = .ok (.iconst 1, 1) := by decide +kernel
theorem dX10_rests_26 : decode cX10_rests 26 = .ok (.aload_n 0, 1) := by decide +kernel
theorem dX10_rests_27 : decode cX10_rests 27 = .ok (.getfield 73, 3) := by decide +kernel
theorem dX10_rests_30 : decode cX10_rests 30 = .ok (.getfield 219, 3) := by decide +kernel
theorem dX10_rests_33 : decode cX10_rests 33 = .ok (.ishl, 1) := by decide +kernel
theorem dX10_rests_34 : decode cX10_rests 34 = .ok (.if_icmp .ge 33, 3) := by decide +kernel
theorem dX10_rests_37 : decode cX10_rests 37 = .ok (.aload_n 0, 1) := by decide +kernel
theorem dX10_rests_38 : decode cX10_rests 38 = .ok (.iload 4, 2) := by decide +kernel
theorem dX10_rests_40 : decode cX10_rests 40 = .ok (.invokevirtual 222, 3) := by decide +kernel
theorem dX10_rests_43 : decode cX10_rests 43 = .ok (.bipush (-9), 2) := by decide +kernel
theorem dX10_rests_45 : decode cX10_rests 45 = .ok (.if_icmp .eq 6, 3) := by decide +kernel
theorem dX10_rests_48 : decode cX10_rests 48 = .ok (.goto 13, 3) := by decide +kernel
theorem dX10_rests_51 : decode cX10_rests 51 = .ok (.iload_n 2, 1) := by decide +kernel
theorem dX10_rests_52 : decode cX10_rests 52 = .ok (.ifCond .ne 6, 3) := by decide +kernel
theorem dX10_rests_55 : decode cX10_rests 55 = .ok (.iload 4, 2) := by decide +kernel
theorem dX10_rests_57 : decode cX10_rests 57 = .ok (.istore_n 3, 1) := by decide +kernel
theorem dX10_rests_58 : decode cX10_rests 58 = .ok (.iinc 2 1, 3) := by decide +kernel
theorem dX10_rests_61 : decode cX10_rests 61 = .ok (.iinc 4 1, 3) := by decide +kernel
theorem dX10_rests_64 : decode cX10_rests 64 = .ok (.goto (-41), 3) := by decide +kernel
theorem dX10_rests_67 : decode cX10_rests 67 = .ok (.iload_n 1, 1) := by decide +kernel
theorem dX10_rests_68 : decode cX10_rests 68 = .ok (.ifCond .ne 7, 3) := by decide +kernel
theorem dX10_rests_71 : decode cX10_rests 71 = .ok (.iload_n 2, 1) := by decide +kernel
theorem dX10_rests_72 : decode cX10_rests 72 = .ok (.goto 4, 3) := by decide +kernel
theorem dX10_rests_75 : decode cX10_rests 75 = .ok (.iload_n 3, 1) := by decide +kernel
theorem dX10_rests_76 : decode cX10_rests 76 = .ok (.ireturn, 1) := by decide +kernel
theorem dX10_gains_0 : decode cX10_gains 0 = .ok (.iload_n 1, 1) := by decide +kernel
theorem dX10_gains_1 : decode cX10_gains 1 = .ok (.iconst 0, 1) := by decide +kernel
theorem dX10_gains_2 : decode cX10_gains 2 = .ok (.iconst 1, 1) := by decide +kernel
theorem dX10_gains_3 : decode cX10_gains 3 = .ok (.aload_n 0, 1) := by decide +kernel
theorem dX10_gains_4 : decode cX10_gains 4 = .ok (.getfield 73, 3) := by decide +kernel
theorem dX10_gains_7 : decode cX10_gains 7 = .ok (.getfield 219, 3) := by decide +kernel
theorem dX10_gains_10 : decode cX10_gains 10 = .ok (.ishl, 1) := by decide +kernel
theorem dX10_gains_11 : decode cX10_gains 11 = .ok (.iconst 1, 1) := by decide +kernel
theorem dX10_gains_12 : decode cX10_gains 12 = .ok (.isub, 1) := by decide +kernel
theorem dX10_gains_13 : decode cX10_gains 13 = .ok (.invokestatic 90, 3) := by decide +kernel
theorem dX10_gains_16 : decode cX10_gains 16 = .ok (.ifCond .ne 5, 3) := by decide +kernel
theorem dX10_gains_19 : decode cX10_gains 19 = .ok (.iconst (-1), 1) := by decide +kernel
theorem dX10_gains_20 : decode cX10_gains 20 = .ok (.ireturn, 1) := by decide +kernel
theorem dX10_gains_21 : decode cX10_gains 21 = .ok (.aload_n 0, 1) := by decide +kernel
theorem dX10_gains_22 : decode cX10_gains 22 = .ok (.invokevirtual 111, 3) := by decide +kernel
theorem dX10_gains_25 : decode cX10_gains 25 = .ok (.aload_n 0, 1) := by decide +kernel
theorem dX10_gains_26 : decode cX10_gains 26 = .ok (.iload_n 1, 1) := by decide +kernel
theorem dX10_gains_27 : decode cX10_gains 27 = .ok (.invokevirtual 222, 3) := by decide +kernel
theorem dX10_gains_30 : decode cX10_gains 30 = .ok (.ireturn, 1) := by decide +kernel
theorem dX10_cellsFor_0 : decode cX10_cellsFor 0 = .ok (.iload_n 1, 1) := by decide +kernel
theorem dX10_cellsFor_1 : decode cX10_cellsFor 1 = .ok (.iconst 1, 1) := by decide +kernel
theorem dX10_cellsFor_2 : decode cX10_cellsFor 2 = .ok (.bipush 60, 2) := by decide +kernel
theorem dX10_cellsFor_4 : decode cX10_cellsFor 4 = .ok (.invokestatic 90, 3) := by decide +kernel
theorem dX10_cellsFor_7 : decode cX10_cellsFor 7 = .ok (.ifCond .ne 5, 3) := by decide +kernel
theorem dX10_cellsFor_10 : decode cX10_cellsFor 10 = .ok (.iconst (-1), 1) := by decide +kernel
theorem dX10_cellsFor_11 : decode cX10_cellsFor 11 = .ok (.ireturn, 1) := by decide +kernel
theorem dX10_cellsFor_12 : decode cX10_cellsFor 12 = .ok (.aload_n 0, 1) := by decide +kernel
theorem dX10_cellsFor_13 : decode cX10_cellsFor 13 = .ok (.invokevirtual 111, 3) := by decide +kernel
theorem dX10_cellsFor_16 : decode cX10_cellsFor 16 = .ok (.aload_n 0, 1) := by decide +kernel
theorem dX10_cellsFor_17 : decode cX10_cellsFor 17 = .ok (.iload_n 1, 1) := by decide +kernel
theorem dX10_cellsFor_18 : decode cX10_cellsFor 18 = .ok (.invokevirtual 226, 3) := by decide +kernel
theorem dX10_cellsFor_21 : decode cX10_cellsFor 21 = .ok (.ireturn, 1) := by decide +kernel
theorem dX10_sits_0 : decode cX10_sits 0 = .ok (.iload_n 1, 1) := by decide +kernel
theorem dX10_sits_1 : decode cX10_sits 1 = .ok (.iconst 1, 1) := by decide +kernel
theorem dX10_sits_2 : decode cX10_sits 2 = .ok (.bipush 60, 2) := by decide +kernel
theorem dX10_sits_4 : decode cX10_sits 4 = .ok (.invokestatic 90, 3) := by decide +kernel
theorem dX10_sits_7 : decode cX10_sits 7 = .ok (.ifCond .eq 22, 3) := by decide +kernel
theorem dX10_sits_10 : decode cX10_sits 10 = .ok (.aload_n 0, 1) := by decide +kernel
theorem dX10_sits_11 : decode cX10_sits 11 = .ok (.iload_n 2, 1) := by decide +kernel
theorem dX10_sits_12 : decode cX10_sits 12 = .ok (.invokevirtual 107, 3) := by decide +kernel
theorem dX10_sits_15 : decode cX10_sits 15 = .ok (.ifCond .eq 14, 3) := by decide +kernel
theorem dX10_sits_18 : decode cX10_sits 18 = .ok (.iload_n 3, 1) := by decide +kernel
theorem dX10_sits_19 : decode cX10_sits 19 = .ok (.iconst 0, 1) := by decide +kernel
theorem dX10_sits_20 : decode cX10_sits 20 = .ok (.iload_n 1, 1) := by decide +kernel
theorem dX10_sits_21 : decode cX10_sits 21 = .ok (.iconst 1, 1) := by decide +kernel
theorem dX10_sits_22 : decode cX10_sits 22 = .ok (.isub, 1) := by decide +kernel
theorem dX10_sits_23 : decode cX10_sits 23 = .ok (.invokestatic 90, 3) := by decide +kernel
theorem dX10_sits_26 : decode cX10_sits 26 = .ok (.ifCond .ne 5, 3) := by decide +kernel
theorem dX10_sits_29 : decode cX10_sits 29 = .ok (.iconst (-1), 1) := by decide +kernel
theorem dX10_sits_30 : decode cX10_sits 30 = .ok (.ireturn, 1) := by decide +kernel
theorem dX10_sits_31 : decode cX10_sits 31 = .ok (.aload_n 0, 1) := by decide +kernel
theorem dX10_sits_32 : decode cX10_sits 32 = .ok (.invokevirtual 111, 3) := by decide +kernel
theorem dX10_sits_35 : decode cX10_sits 35 = .ok (.aload_n 0, 1) := by decide +kernel
theorem dX10_sits_36 : decode cX10_sits 36 = .ok (.iload_n 1, 1) := by decide +kernel
theorem dX10_sits_37 : decode cX10_sits 37 = .ok (.invokevirtual 226, 3) := by decide +kernel
theorem dX10_sits_40 : decode cX10_sits 40 = .ok (.bipush (-9), 2) := by decide +kernel
theorem dX10_sits_42 : decode cX10_sits 42 = .ok (.if_icmp .ne 6, 3) := by decide +kernel
theorem dX10_sits_45 : decode cX10_sits 45 = .ok (.bipush (-9), 2) := by decide +kernel
theorem dX10_sits_47 : decode cX10_sits 47 = .ok (.ireturn, 1) := by decide +kernel
theorem dX10_sits_48 : decode cX10_sits 48 = .ok (.iconst 0, 1) := by decide +kernel
theorem dX10_sits_49 : decode cX10_sits 49 = .ok (.istore 4, 2) := by decide +kernel
theorem dX10_sits_51 : decode cX10_sits 51 = .ok (.iconst 0, 1) := by decide +kernel
theorem dX10_sits_52 : decode cX10_sits 52 = .ok (.istore 5, 2) := by decide +kernel
theorem dX10_sits_54 : decode cX10_sits 54 = .ok (.iload 5, 2) := by decide +kernel
theorem dX10_sits_56 : decode cX10_sits 56 = .ok (.iload_n 2, 1) := by decide +kernel
theorem dX10_sits_57 : decode cX10_sits 57 = .ok (.if_icmp .ge 24, 3) := by decide +kernel
theorem dX10_sits_60 : decode cX10_sits 60 = .ok (.iload 4, 2) := by decide +kernel
theorem dX10_sits_62 : decode cX10_sits 62 = .ok (.aload_n 0, 1) := by decide +kernel
theorem dX10_sits_63 : decode cX10_sits 63 = .ok (.getfield 19, 3) := by decide +kernel
theorem dX10_sits_66 : decode cX10_sits 66 = .ok (.getfield 120, 3) := by decide +kernel
theorem dX10_sits_69 : decode cX10_sits 69 = .ok (.iload 5, 2) := by decide +kernel
theorem dX10_sits_71 : decode cX10_sits 71 = .ok (.iaload, 1) := by decide +kernel
theorem dX10_sits_72 : decode cX10_sits 72 = .ok (.iadd, 1) := by decide +kernel
theorem dX10_sits_73 : decode cX10_sits 73 = .ok (.istore 4, 2) := by decide +kernel
theorem dX10_sits_75 : decode cX10_sits 75 = .ok (.iinc 5 1, 3) := by decide +kernel
theorem dX10_sits_78 : decode cX10_sits 78 = .ok (.goto (-24), 3) := by decide +kernel
theorem dX10_sits_81 : decode cX10_sits 81 = .ok (.iload_n 3, 1) := by decide +kernel
theorem dX10_sits_82 : decode cX10_sits 82 = .ok (.iload 4, 2) := by decide +kernel
theorem dX10_sits_84 : decode cX10_sits 84 = .ok (.iload_n 1, 1) := by decide +kernel
theorem dX10_sits_85 : decode cX10_sits 85 = .ok (.irem, 1) := by decide +kernel
theorem dX10_sits_86 : decode cX10_sits 86 = .ok (.isub, 1) := by decide +kernel
theorem dX10_sits_87 : decode cX10_sits 87 = .ok (.iload_n 1, 1) := by decide +kernel
theorem dX10_sits_88 : decode cX10_sits 88 = .ok (.iadd, 1) := by decide +kernel
theorem dX10_sits_89 : decode cX10_sits 89 = .ok (.iload_n 1, 1) := by decide +kernel
theorem dX10_sits_90 : decode cX10_sits 90 = .ok (.irem, 1) := by decide +kernel
theorem dX10_sits_91 : decode cX10_sits 91 = .ok (.istore 5, 2) := by decide +kernel
theorem dX10_sits_93 : decode cX10_sits 93 = .ok (.iload 5, 2) := by decide +kernel
theorem dX10_sits_95 : decode cX10_sits 95 = .ok (.aload_n 0, 1) := by decide +kernel
theorem dX10_sits_96 : decode cX10_sits 96 = .ok (.getfield 19, 3) := by decide +kernel
theorem dX10_sits_99 : decode cX10_sits 99 = .ok (.getfield 120, 3) := by decide +kernel
theorem dX10_sits_102 : decode cX10_sits 102 = .ok (.iload_n 2, 1) := by decide +kernel
theorem dX10_sits_103 : decode cX10_sits 103 = .ok (.iaload, 1) := by decide +kernel
theorem dX10_sits_104 : decode cX10_sits 104 = .ok (.if_icmp .ge 13, 3) := by decide +kernel
theorem dX10_sits_107 : decode cX10_sits 107 = .ok (.iload 4, 2) := by decide +kernel
theorem dX10_sits_109 : decode cX10_sits 109 = .ok (.iload 5, 2) := by decide +kernel
theorem dX10_sits_111 : decode cX10_sits 111 = .ok (.iadd, 1) := by decide +kernel
theorem dX10_sits_112 : decode cX10_sits 112 = .ok (.iload_n 1, 1) := by decide +kernel
theorem dX10_sits_113 : decode cX10_sits 113 = .ok (.idiv, 1) := by decide +kernel
theorem dX10_sits_114 : decode cX10_sits 114 = .ok (.goto 5, 3) := by decide +kernel
theorem dX10_sits_117 : decode cX10_sits 117 = .ok (.bipush (-9), 2) := by decide +kernel
theorem dX10_sits_119 : decode cX10_sits 119 = .ok (.ireturn, 1) := by decide +kernel
theorem dX10_wronged_0 : decode cX10_wronged 0 = .ok (.iload_n 1, 1) := by decide +kernel
theorem dX10_wronged_1 : decode cX10_wronged 1 = .ok (.iconst (-1), 1) := by decide +kernel
theorem dX10_wronged_2 : decode cX10_wronged 2 = .ok (.if_icmp .eq 14, 3) := by decide +kernel
theorem dX10_wronged_5 : decode cX10_wronged 5 = .ok (.aload_n 0, 1) := by decide +kernel
theorem dX10_wronged_6 : decode cX10_wronged 6 = .ok (.iload_n 1, 1) := by decide +kernel
theorem dX10_wronged_7 : decode cX10_wronged 7 = .ok (.invokevirtual 107, 3) := by decide +kernel
theorem dX10_wronged_10 : decode cX10_wronged 10 = .ok (.ifCond .ne 6, 3) := by decide +kernel
theorem dX10_wronged_13 : decode cX10_wronged 13 = .ok (.ldc 142, 2) := by decide +kernel
theorem dX10_wronged_15 : decode cX10_wronged 15 = .ok (.ireturn, 1) := by decide +kernel
theorem dX10_wronged_16 : decode cX10_wronged 16 = .ok (.aload_n 0, 1) := by decide +kernel
theorem dX10_wronged_17 : decode cX10_wronged 17 = .ok (.invokevirtual 111, 3) := by decide +kernel
theorem dX10_wronged_20 : decode cX10_wronged 20 = .ok (.iload_n 1, 1) := by decide +kernel
theorem dX10_wronged_21 : decode cX10_wronged 21 = .ok (.ifCond .lt 9, 3) := by decide +kernel
theorem dX10_wronged_24 : decode cX10_wronged 24 = .ok (.aload_n 0, 1) := by decide +kernel
theorem dX10_wronged_25 : decode cX10_wronged 25 = .ok (.iload_n 1, 1) := by decide +kernel
theorem dX10_wronged_26 : decode cX10_wronged 26 = .ok (.invokevirtual 229, 3) := by decide +kernel
theorem dX10_wronged_29 : decode cX10_wronged 29 = .ok (.ireturn, 1) := by decide +kernel
theorem dX10_wronged_30 : decode cX10_wronged 30 = .ok (.iconst 0, 1) := by decide +kernel
theorem dX10_wronged_31 : decode cX10_wronged 31 = .ok (.istore_n 2, 1) := by decide +kernel
theorem dX10_wronged_32 : decode cX10_wronged 32 = .ok (.iconst 0, 1) := by decide +kernel
theorem dX10_wronged_33 : decode cX10_wronged 33 = .ok (.istore_n 3, 1) := by decide +kernel
theorem dX10_wronged_34 : decode cX10_wronged 34 = .ok (.iload_n 3, 1) := by decide +kernel
theorem dX10_wronged_35 : decode cX10_wronged 35 = .ok (.aload_n 0, 1) := by decide +kernel
theorem dX10_wronged_36 : decode cX10_wronged 36 = .ok (.getfield 73, 3) := by decide +kernel
theorem dX10_wronged_39 : decode cX10_wronged 39 = .ok (.getfield 219, 3) := by decide +kernel
theorem dX10_wronged_42 : decode cX10_wronged 42 = .ok (.if_icmp .ge 20, 3) := by decide +kernel
theorem dX10_wronged_45 : decode cX10_wronged 45 = .ok (.iload_n 2, 1) := by decide +kernel
theorem dX10_wronged_46 : decode cX10_wronged 46 = .ok (.aload_n 0, 1) := by decide +kernel
theorem dX10_wronged_47 : decode cX10_wronged 47 = .ok (.iload_n 3, 1) := by decide +kernel
theorem dX10_wronged_48 : decode cX10_wronged 48 = .ok (.invokevirtual 229, 3) := by decide +kernel
theorem dX10_wronged_51 : decode cX10_wronged 51 = .ok (.invokestatic 232, 3) := by decide +kernel
theorem dX10_wronged_54 : decode cX10_wronged 54 = .ok (.iadd, 1) := by decide +kernel
theorem dX10_wronged_55 : decode cX10_wronged 55 = .ok (.istore_n 2, 1) := by decide +kernel
theorem dX10_wronged_56 : decode cX10_wronged 56 = .ok (.iinc 3 1, 3) := by decide +kernel
theorem dX10_wronged_59 : decode cX10_wronged 59 = .ok (.goto (-25), 3) := by decide +kernel
theorem dX10_wronged_62 : decode cX10_wronged 62 = .ok (.iload_n 2, 1) := by decide +kernel
theorem dX10_wronged_63 : decode cX10_wronged 63 = .ok (.ireturn, 1) := by decide +kernel
theorem dX10_book_0 : decode cX10_book 0 = .ok (.aload_n 0, 1) := by decide +kernel
theorem dX10_book_1 : decode cX10_book 1 = .ok (.iload_n 1, 1) := by decide +kernel
theorem dX10_book_2 : decode cX10_book 2 = .ok (.invokevirtual 107, 3) := by decide +kernel
theorem dX10_book_5 : decode cX10_book 5 = .ok (.ifCond .eq 13, 3) := by decide +kernel
theorem dX10_book_8 : decode cX10_book 8 = .ok (.iload_n 2, 1) := by decide +kernel
theorem dX10_book_9 : decode cX10_book 9 = .ok (.iconst 0, 1) := by decide +kernel
theorem dX10_book_10 : decode cX10_book 10 = .ok (.bipush 60, 2) := by decide +kernel
theorem dX10_book_12 : decode cX10_book 12 = .ok (.invokestatic 90, 3) := by decide +kernel
theorem dX10_book_15 : decode cX10_book 15 = .ok (.ifCond .ne 5, 3) := by decide +kernel
theorem dX10_book_18 : decode cX10_book 18 = .ok (.iconst (-1), 1) := by decide +kernel
theorem dX10_book_19 : decode cX10_book 19 = .ok (.ireturn, 1) := by decide +kernel
theorem dX10_book_20 : decode cX10_book 20 = .ok (.aload_n 0, 1) := by decide +kernel
theorem dX10_book_21 : decode cX10_book 21 = .ok (.getfield 104, 3) := by decide +kernel
theorem dX10_book_24 : decode cX10_book 24 = .ok (.bipush 6, 2) := by decide +kernel
theorem dX10_book_26 : decode cX10_book 26 = .ok (.if_icmp .lt 6, 3) := by decide +kernel
theorem dX10_book_29 : decode cX10_book 29 = .ok (.bipush (-3), 2) := by decide +kernel
theorem dX10_book_31 : decode cX10_book 31 = .ok (.ireturn, 1) := by decide +kernel
theorem dX10_book_32 : decode cX10_book 32 = .ok (.aload_n 0, 1) := by decide +kernel
theorem dX10_book_33 : decode cX10_book 33 = .ok (.getfield 64, 3) := by decide +kernel
theorem dX10_book_36 : decode cX10_book 36 = .ok (.aload_n 0, 1) := by decide +kernel
theorem dX10_book_37 : decode cX10_book 37 = .ok (.getfield 104, 3) := by decide +kernel
theorem dX10_book_40 : decode cX10_book 40 = .ok (.iload_n 1, 1) := by decide +kernel
theorem dX10_book_41 : decode cX10_book 41 = .ok (.iastore, 1) := by decide +kernel
theorem dX10_book_42 : decode cX10_book 42 = .ok (.aload_n 0, 1) := by decide +kernel
theorem dX10_book_43 : decode cX10_book 43 = .ok (.getfield 67, 3) := by decide +kernel
theorem dX10_book_46 : decode cX10_book 46 = .ok (.aload_n 0, 1) := by decide +kernel
theorem dX10_book_47 : decode cX10_book 47 = .ok (.getfield 104, 3) := by decide +kernel
theorem dX10_book_50 : decode cX10_book 50 = .ok (.iload_n 2, 1) := by decide +kernel
theorem dX10_book_51 : decode cX10_book 51 = .ok (.iastore, 1) := by decide +kernel
theorem dX10_book_52 : decode cX10_book 52 = .ok (.aload_n 0, 1) := by decide +kernel
theorem dX10_book_53 : decode cX10_book 53 = .ok (.dup, 1) := by decide +kernel
theorem dX10_book_54 : decode cX10_book 54 = .ok (.getfield 104, 3) := by decide +kernel
theorem dX10_book_57 : decode cX10_book 57 = .ok (.iconst 1, 1) := by decide +kernel
theorem dX10_book_58 : decode cX10_book 58 = .ok (.iadd, 1) := by decide +kernel
theorem dX10_book_59 : decode cX10_book 59 = .ok (.putfield 104, 3) := by decide +kernel
theorem dX10_book_62 : decode cX10_book 62 = .ok (.aload_n 0, 1) := by decide +kernel
theorem dX10_book_63 : decode cX10_book 63 = .ok (.getfield 104, 3) := by decide +kernel
theorem dX10_book_66 : decode cX10_book 66 = .ok (.ireturn, 1) := by decide +kernel
theorem dX10_burn_0 : decode cX10_burn 0 = .ok (.aload_n 0, 1) := by decide +kernel
theorem dX10_burn_1 : decode cX10_burn 1 = .ok (.getfield 104, 3) := by decide +kernel
theorem dX10_burn_4 : decode cX10_burn 4 = .ok (.istore_n 1, 1) := by decide +kernel
theorem dX10_burn_5 : decode cX10_burn 5 = .ok (.aload_n 0, 1) := by decide +kernel
theorem dX10_burn_6 : decode cX10_burn 6 = .ok (.iconst 0, 1) := by decide +kernel
theorem dX10_burn_7 : decode cX10_burn 7 = .ok (.putfield 104, 3) := by decide +kernel
theorem dX10_burn_10 : decode cX10_burn 10 = .ok (.iload_n 1, 1) := by decide +kernel
theorem dX10_burn_11 : decode cX10_burn 11 = .ok (.ireturn, 1) := by decide +kernel
theorem dX10_books_0 : decode cX10_books 0 = .ok (.iload_n 1, 1) := by decide +kernel
theorem dX10_books_1 : decode cX10_books 1 = .ok (.iconst 0, 1) := by decide +kernel
theorem dX10_books_2 : decode cX10_books 2 = .ok (.iconst 2, 1) := by decide +kernel
theorem dX10_books_3 : decode cX10_books 3 = .ok (.invokestatic 90, 3) := by decide +kernel
theorem dX10_books_6 : decode cX10_books 6 = .ok (.ifCond .ne 5, 3) := by decide +kernel
theorem dX10_books_9 : decode cX10_books 9 = .ok (.iconst (-1), 1) := by decide +kernel
theorem dX10_books_10 : decode cX10_books 10 = .ok (.ireturn, 1) := by decide +kernel
theorem dX10_books_11 : decode cX10_books 11 = .ok (.aload_n 0, 1) := by decide +kernel
theorem dX10_books_12 : decode cX10_books 12 = .ok (.getfield 19, 3) := by decide +kernel
theorem dX10_books_15 : decode cX10_books 15 = .ok (.aload_n 0, 1) := by decide +kernel
theorem dX10_books_16 : decode cX10_books 16 = .ok (.getfield 73, 3) := by decide +kernel
theorem dX10_books_19 : decode cX10_books 19 = .ok (.aload_n 0, 1) := by decide +kernel
theorem dX10_books_20 : decode cX10_books 20 = .ok (.getfield 26, 3) := by decide +kernel
theorem dX10_books_23 : decode cX10_books 23 = .ok (.getfield 161, 3) := by decide +kernel
theorem dX10_books_26 : decode cX10_books 26 = .ok (.invokevirtual 235, 3) := by decide +kernel
theorem dX10_books_29 : decode cX10_books 29 = .ok (.iconst 0, 1) := by decide +kernel
theorem dX10_books_30 : decode cX10_books 30 = .ok (.istore_n 2, 1) := by decide +kernel
theorem dX10_books_31 : decode cX10_books 31 = .ok (.bipush (-9), 2) := by decide +kernel
theorem dX10_books_33 : decode cX10_books 33 = .ok (.istore_n 3, 1) := by decide +kernel
theorem dX10_books_34 : decode cX10_books 34 = .ok (.bipush (-9), 2) := by decide +kernel
theorem dX10_books_36 : decode cX10_books 36 = .ok (.istore 4, 2) := by decide +kernel
theorem dX10_books_38 : decode cX10_books 38 = .ok (.iconst 0, 1) := by decide +kernel
theorem dX10_books_39 : decode cX10_books 39 = .ok (.istore 5, 2) := by decide +kernel
theorem dX10_books_41 : decode cX10_books 41 = .ok (.iload 5, 2) := by decide +kernel
theorem dX10_books_43 : decode cX10_books 43 = .ok (.iconst 1, 1) := by decide +kernel
theorem dX10_books_44 : decode cX10_books 44 = .ok (.aload_n 0, 1) := by decide +kernel
theorem dX10_books_45 : decode cX10_books 45 = .ok (.getfield 73, 3) := by decide +kernel
theorem dX10_books_48 : decode cX10_books 48 = .ok (.getfield 239, 3) := by decide +kernel
theorem dX10_books_51 : decode cX10_books 51 = .ok (.ishl, 1) := by decide +kernel
theorem dX10_books_52 : decode cX10_books 52 = .ok (.if_icmp .ge 42, 3) := by decide +kernel
theorem dX10_books_55 : decode cX10_books 55 = .ok (.aload_n 0, 1) := by decide +kernel
theorem dX10_books_56 : decode cX10_books 56 = .ok (.iload 5, 2) := by decide +kernel
theorem dX10_books_58 : decode cX10_books 58 = .ok (.invokevirtual 240, 3) := by decide +kernel
theorem dX10_books_61 : decode cX10_books 61 = .ok (.ifCond .ne 6, 3) := by decide +kernel
theorem dX10_books_64 : decode cX10_books 64 = .ok (.goto 24, 3) := by decide +kernel
theorem dX10_books_67 : decode cX10_books 67 = .ok (.iload_n 2, 1) := by decide +kernel
theorem dX10_books_68 : decode cX10_books 68 = .ok (.ifCond .ne 10, 3) := by decide +kernel
theorem dX10_books_71 : decode cX10_books 71 = .ok (.iload 5, 2) := by decide +kernel
theorem dX10_books_73 : decode cX10_books 73 = .ok (.istore_n 3, 1) := by decide +kernel
theorem dX10_books_74 : decode cX10_books 74 = .ok (.iload 5, 2) := by decide +kernel
theorem dX10_books_76 : decode cX10_books 76 = .ok (.istore 4, 2) := by decide +kernel
theorem dX10_books_78 : decode cX10_books 78 = .ok (.iload 4, 2) := by decide +kernel
theorem dX10_books_80 : decode cX10_books 80 = .ok (.iload 5, 2) := by decide +kernel
theorem dX10_books_82 : decode cX10_books 82 = .ok (.iand, 1) := by decide +kernel
theorem dX10_books_83 : decode cX10_books 83 = .ok (.istore 4, 2) := by decide +kernel
theorem dX10_books_85 : decode cX10_books 85 = .ok (.iinc 2 1, 3) := by decide +kernel
theorem dX10_books_88 : decode cX10_books 88 = .ok (.iinc 5 1, 3) := by decide +kernel
theorem dX10_books_91 : decode cX10_books 91 = .ok (.goto (-50), 3) := by decide +kernel
theorem dX10_books_94 : decode cX10_books 94 = .ok (.iload_n 1, 1) := by decide +kernel
theorem dX10_books_95 : decode cX10_books 95 = .ok (.ifCond .ne 5, 3) := by decide +kernel
theorem dX10_books_98 : decode cX10_books 98 = .ok (.iload_n 2, 1) := by decide +kernel
theorem dX10_books_99 : decode cX10_books 99 = .ok (.ireturn, 1) := by decide +kernel
theorem dX10_books_100 : decode cX10_books 100 = .ok (.iload_n 1, 1) := by decide +kernel
theorem dX10_books_101 : decode cX10_books 101 = .ok (.iconst 1, 1) := by decide +kernel
theorem dX10_books_102 : decode cX10_books 102 = .ok (.if_icmp .ne 7, 3) := by decide +kernel
theorem dX10_books_105 : decode cX10_books 105 = .ok (.iload_n 3, 1) := by decide +kernel
theorem dX10_books_106 : decode cX10_books 106 = .ok (.goto 5, 3) := by decide +kernel
theorem dX10_books_109 : decode cX10_books 109 = .ok (.iload 4, 2) := by decide +kernel
theorem dX10_books_111 : decode cX10_books 111 = .ok (.ireturn, 1) := by decide +kernel
theorem dX10_innocent_0 : decode cX10_innocent 0 = .ok (.aload_n 0, 1) := by decide +kernel
theorem dX10_innocent_1 : decode cX10_innocent 1 = .ok (.iload_n 1, 1) := by decide +kernel
theorem dX10_innocent_2 : decode cX10_innocent 2 = .ok (.invokevirtual 107, 3) := by decide +kernel
theorem dX10_innocent_5 : decode cX10_innocent 5 = .ok (.ifCond .ne 5, 3) := by decide +kernel
theorem dX10_innocent_8 : decode cX10_innocent 8 = .ok (.iconst (-1), 1) := by decide +kernel
theorem dX10_innocent_9 : decode cX10_innocent 9 = .ok (.ireturn, 1) := by decide +kernel
theorem dX10_innocent_10 : decode cX10_innocent 10 = .ok (.aload_n 0, 1) := by decide +kernel
theorem dX10_innocent_11 : decode cX10_innocent 11 = .ok (.getfield 19, 3) := by decide +kernel
theorem dX10_innocent_14 : decode cX10_innocent 14 = .ok (.aload_n 0, 1) := by decide +kernel
theorem dX10_innocent_15 : decode cX10_innocent 15 = .ok (.getfield 73, 3) := by decide +kernel
theorem dX10_innocent_18 : decode cX10_innocent 18 = .ok (.aload_n 0, 1) := by decide +kernel
theorem dX10_innocent_19 : decode cX10_innocent 19 = .ok (.getfield 26, 3) := by decide +kernel
theorem dX10_innocent_22 : decode cX10_innocent 22 = .ok (.getfield 161, 3) := by decide +kernel
theorem dX10_innocent_25 : decode cX10_innocent 25 = .ok (.invokevirtual 235, 3) := by decide +kernel
theorem dX10_innocent_28 : decode cX10_innocent 28 = .ok (.iconst 0, 1) := by decide +kernel
theorem dX10_innocent_29 : decode cX10_innocent 29 = .ok (.istore_n 2, 1) := by decide +kernel
theorem dX10_innocent_30 : decode cX10_innocent 30 = .ok (.iconst 0, 1) := by decide +kernel
theorem dX10_innocent_31 : decode cX10_innocent 31 = .ok (.istore_n 3, 1) := by decide +kernel
theorem dX10_innocent_32 : decode cX10_innocent 32 = .ok (.iload_n 3, 1) := by decide +kernel
theorem dX10_innocent_33 : decode cX10_innocent 33 = .ok (.iconst 1, 1) := by decide +kernel
theorem dX10_innocent_34 : decode cX10_innocent 34 = .ok (.aload_n 0, 1) := by decide +kernel
theorem dX10_innocent_35 : decode cX10_innocent 35 = .ok (.getfield 73, 3) := by decide +kernel
theorem dX10_innocent_38 : decode cX10_innocent 38 = .ok (.getfield 239, 3) := by decide +kernel
theorem dX10_innocent_41 : decode cX10_innocent 41 = .ok (.ishl, 1) := by decide +kernel
theorem dX10_innocent_42 : decode cX10_innocent 42 = .ok (.if_icmp .ge 28, 3) := by decide +kernel
theorem dX10_innocent_45 : decode cX10_innocent 45 = .ok (.aload_n 0, 1) := by decide +kernel
theorem dX10_innocent_46 : decode cX10_innocent 46 = .ok (.getfield 19, 3) := by decide +kernel
theorem dX10_innocent_49 : decode cX10_innocent 49 = .ok (.aload_n 0, 1) := by decide +kernel
theorem dX10_innocent_50 : decode cX10_innocent 50 = .ok (.getfield 73, 3) := by decide +kernel
theorem dX10_innocent_53 : decode cX10_innocent 53 = .ok (.iload_n 3, 1) := by decide +kernel
theorem dX10_innocent_54 : decode cX10_innocent 54 = .ok (.iload_n 1, 1) := by decide +kernel
theorem dX10_innocent_55 : decode cX10_innocent 55 = .ok (.invokevirtual 243, 3) := by decide +kernel
theorem dX10_innocent_58 : decode cX10_innocent 58 = .ok (.ifCond .ne 6, 3) := by decide +kernel
theorem dX10_innocent_61 : decode cX10_innocent 61 = .ok (.iinc 2 1, 3) := by decide +kernel
theorem dX10_innocent_64 : decode cX10_innocent 64 = .ok (.iinc 3 1, 3) := by decide +kernel
theorem dX10_innocent_67 : decode cX10_innocent 67 = .ok (.goto (-35), 3) := by decide +kernel
theorem dX10_innocent_70 : decode cX10_innocent 70 = .ok (.iload_n 2, 1) := by decide +kernel
theorem dX10_innocent_71 : decode cX10_innocent 71 = .ok (.ireturn, 1) := by decide +kernel
theorem dX10_mark_0 : decode cX10_mark 0 = .ok (.iload_n 1, 1) := by decide +kernel
theorem dX10_mark_1 : decode cX10_mark 1 = .ok (.iconst 0, 1) := by decide +kernel
theorem dX10_mark_2 : decode cX10_mark 2 = .ok (.aload_n 0, 1) := by decide +kernel
theorem dX10_mark_3 : decode cX10_mark 3 = .ok (.getfield 56, 3) := by decide +kernel
theorem dX10_mark_6 : decode cX10_mark 6 = .ok (.arraylength, 1) := by decide +kernel
theorem dX10_mark_7 : decode cX10_mark 7 = .ok (.iconst 1, 1) := by decide +kernel
theorem dX10_mark_8 : decode cX10_mark 8 = .ok (.isub, 1) := by decide +kernel
theorem dX10_mark_9 : decode cX10_mark 9 = .ok (.invokestatic 90, 3) := by decide +kernel
theorem dX10_mark_12 : decode cX10_mark 12 = .ok (.ifCond .eq 11, 3) := by decide +kernel
theorem dX10_mark_15 : decode cX10_mark 15 = .ok (.aload_n 0, 1) := by decide +kernel
theorem dX10_mark_16 : decode cX10_mark 16 = .ok (.iload_n 2, 1) := by decide +kernel
theorem dX10_mark_17 : decode cX10_mark 17 = .ok (.invokevirtual 107, 3) := by decide +kernel
theorem dX10_mark_20 : decode cX10_mark 20 = .ok (.ifCond .ne 6, 3) := by decide +kernel
theorem dX10_mark_23 : decode cX10_mark 23 = .ok (.ldc 142, 2) := by decide +kernel
theorem dX10_mark_25 : decode cX10_mark 25 = .ok (.ireturn, 1) := by decide +kernel
theorem dX10_mark_26 : decode cX10_mark 26 = .ok (.aload_n 0, 1) := by decide +kernel
theorem dX10_mark_27 : decode cX10_mark 27 = .ok (.invokevirtual 111, 3) := by decide +kernel
theorem dX10_mark_30 : decode cX10_mark 30 = .ok (.aload_n 0, 1) := by decide +kernel
theorem dX10_mark_31 : decode cX10_mark 31 = .ok (.getfield 56, 3) := by decide +kernel
theorem dX10_mark_34 : decode cX10_mark 34 = .ok (.iload_n 1, 1) := by decide +kernel
theorem dX10_mark_35 : decode cX10_mark 35 = .ok (.aaload, 1) := by decide +kernel
theorem dX10_mark_36 : decode cX10_mark 36 = .ok (.aload_n 0, 1) := by decide +kernel
theorem dX10_mark_37 : decode cX10_mark 37 = .ok (.iload_n 2, 1) := by decide +kernel
theorem dX10_mark_38 : decode cX10_mark 38 = .ok (.invokevirtual 247, 3) := by decide +kernel
theorem dX10_mark_41 : decode cX10_mark 41 = .ok (.ireturn, 1) := by decide +kernel
theorem dX10_keep_0 : decode cX10_keep 0 = .ok (.iload_n 1, 1) := by decide +kernel
theorem dX10_keep_1 : decode cX10_keep 1 = .ok (.iconst 0, 1) := by decide +kernel
theorem dX10_keep_2 : decode cX10_keep 2 = .ok (.iconst 1, 1) := by decide +kernel
theorem dX10_keep_3 : decode cX10_keep 3 = .ok (.invokestatic 90, 3) := by decide +kernel
theorem dX10_keep_6 : decode cX10_keep 6 = .ok (.ifCond .ne 5, 3) := by decide +kernel
theorem dX10_keep_9 : decode cX10_keep 9 = .ok (.iconst (-1), 1) := by decide +kernel
theorem dX10_keep_10 : decode cX10_keep 10 = .ok (.ireturn, 1) := by decide +kernel
theorem dX10_keep_11 : decode cX10_keep 11 = .ok (.aload_n 0, 1) := by decide +kernel
theorem dX10_keep_12 : decode cX10_keep 12 = .ok (.getfield 30, 3) := by decide +kernel
theorem dX10_keep_15 : decode cX10_keep 15 = .ok (.iload_n 1, 1) := by decide +kernel
theorem dX10_keep_16 : decode cX10_keep 16 = .ok (.aaload, 1) := by decide +kernel
theorem dX10_keep_17 : decode cX10_keep 17 = .ok (.aload_n 0, 1) := by decide +kernel
theorem dX10_keep_18 : decode cX10_keep 18 = .ok (.getfield 26, 3) := by decide +kernel
theorem dX10_keep_21 : decode cX10_keep 21 = .ok (.invokevirtual 251, 3) := by decide +kernel
theorem dX10_keep_24 : decode cX10_keep 24 = .ok (.aload_n 0, 1) := by decide +kernel
theorem dX10_keep_25 : decode cX10_keep 25 = .ok (.getfield 34, 3) := by decide +kernel
theorem dX10_keep_28 : decode cX10_keep 28 = .ok (.iload_n 1, 1) := by decide +kernel
theorem dX10_keep_29 : decode cX10_keep 29 = .ok (.iconst 1, 1) := by decide +kernel
theorem dX10_keep_30 : decode cX10_keep 30 = .ok (.bastore, 1) := by decide +kernel
theorem dX10_keep_31 : decode cX10_keep 31 = .ok (.aload_n 0, 1) := by decide +kernel
theorem dX10_keep_32 : decode cX10_keep 32 = .ok (.invokevirtual 167, 3) := by decide +kernel
theorem dX10_keep_35 : decode cX10_keep 35 = .ok (.ireturn, 1) := by decide +kernel
theorem dX10_back_0 : decode cX10_back 0 = .ok (.iload_n 1, 1) := by decide +kernel
theorem dX10_back_1 : decode cX10_back 1 = .ok (.iconst 0, 1) := by decide +kernel
theorem dX10_back_2 : decode cX10_back 2 = .ok (.iconst 1, 1) := by decide +kernel
theorem dX10_back_3 : decode cX10_back 3 = .ok (.invokestatic 90, 3) := by decide +kernel
theorem dX10_back_6 : decode cX10_back 6 = .ok (.ifCond .ne 5, 3) := by decide +kernel
theorem dX10_back_9 : decode cX10_back 9 = .ok (.iconst (-1), 1) := by decide +kernel
theorem dX10_back_10 : decode cX10_back 10 = .ok (.ireturn, 1) := by decide +kernel
theorem dX10_back_11 : decode cX10_back 11 = .ok (.aload_n 0, 1) := by decide +kernel
theorem dX10_back_12 : decode cX10_back 12 = .ok (.getfield 34, 3) := by decide +kernel
theorem dX10_back_15 : decode cX10_back 15 = .ok (.iload_n 1, 1) := by decide +kernel
theorem dX10_back_16 : decode cX10_back 16 = .ok (.baload, 1) := by decide +kernel
theorem dX10_back_17 : decode cX10_back 17 = .ok (.ifCond .ne 6, 3) := by decide +kernel
theorem dX10_back_20 : decode cX10_back 20 = .ok (.bipush (-2), 2) := by decide +kernel
theorem dX10_back_22 : decode cX10_back 22 = .ok (.ireturn, 1) := by decide +kernel
theorem dX10_back_23 : decode cX10_back 23 = .ok (.aload_n 0, 1) := by decide +kernel
theorem dX10_back_24 : decode cX10_back 24 = .ok (.getfield 26, 3) := by decide +kernel
theorem dX10_back_27 : decode cX10_back 27 = .ok (.aload_n 0, 1) := by decide +kernel
theorem dX10_back_28 : decode cX10_back 28 = .ok (.getfield 30, 3) := by decide +kernel
theorem dX10_back_31 : decode cX10_back 31 = .ok (.iload_n 1, 1) := by decide +kernel
theorem dX10_back_32 : decode cX10_back 32 = .ok (.aaload, 1) := by decide +kernel
theorem dX10_back_33 : decode cX10_back 33 = .ok (.invokevirtual 251, 3) := by decide +kernel
theorem dX10_back_36 : decode cX10_back 36 = .ok (.aload_n 0, 1) := by decide +kernel
theorem dX10_back_37 : decode cX10_back 37 = .ok (.invokevirtual 167, 3) := by decide +kernel
theorem dX10_back_40 : decode cX10_back 40 = .ok (.ireturn, 1) := by decide +kernel
theorem dX10_count_0 : decode cX10_count 0 = .ok (.iload_n 1, 1) := by decide +kernel
theorem dX10_count_1 : decode cX10_count 1 = .ok (.tableswitch 84 0 5 #[39, 47, 55, 63, 68, 76], 39) := by decide +kernel
theorem dX10_count_40 : decode cX10_count 40 = .ok (.aload_n 0, 1) := by decide +kernel
theorem dX10_count_41 : decode cX10_count 41 = .ok (.getfield 73, 3) := by decide +kernel
theorem dX10_count_44 : decode cX10_count 44 = .ok (.getfield 219, 3) := by decide +kernel
theorem dX10_count_47 : decode cX10_count 47 = .ok (.ireturn, 1) := by decide +kernel
theorem dX10_count_48 : decode cX10_count 48 = .ok (.aload_n 0, 1) := by decide +kernel
theorem dX10_count_49 : decode cX10_count 49 = .ok (.getfield 73, 3) := by decide +kernel
theorem dX10_count_52 : decode cX10_count 52 = .ok (.getfield 239, 3) := by decide +kernel
theorem dX10_count_55 : decode cX10_count 55 = .ok (.ireturn, 1) := by decide +kernel
theorem dX10_count_56 : decode cX10_count 56 = .ok (.aload_n 0, 1) := by decide +kernel
theorem dX10_count_57 : decode cX10_count 57 = .ok (.getfield 73, 3) := by decide +kernel
theorem dX10_count_60 : decode cX10_count 60 = .ok (.getfield 255, 3) := by decide +kernel
theorem dX10_count_63 : decode cX10_count 63 = .ok (.ireturn, 1) := by decide +kernel
theorem dX10_count_64 : decode cX10_count 64 = .ok (.aload_n 0, 1) := by decide +kernel
theorem dX10_count_65 : decode cX10_count 65 = .ok (.getfield 104, 3) := by decide +kernel
theorem dX10_count_68 : decode cX10_count 68 = .ok (.ireturn, 1) := by decide +kernel
theorem dX10_count_69 : decode cX10_count 69 = .ok (.aload_n 0, 1) := by decide +kernel
theorem dX10_count_70 : decode cX10_count 70 = .ok (.getfield 26, 3) := by decide +kernel
theorem dX10_count_73 : decode cX10_count 73 = .ok (.getfield 172, 3) := by decide +kernel
theorem dX10_count_76 : decode cX10_count 76 = .ok (.ireturn, 1) := by decide +kernel
theorem dX10_count_77 : decode cX10_count 77 = .ok (.aload_n 0, 1) := by decide +kernel
theorem dX10_count_78 : decode cX10_count 78 = .ok (.getfield 10, 3) := by decide +kernel
theorem dX10_count_81 : decode cX10_count 81 = .ok (.getfield 94, 3) := by decide +kernel
theorem dX10_count_84 : decode cX10_count 84 = .ok (.ireturn, 1) := by decide +kernel
theorem dX10_count_85 : decode cX10_count 85 = .ok (.iconst (-1), 1) := by decide +kernel
theorem dX10_count_86 : decode cX10_count 86 = .ok (.ireturn, 1) := by decide +kernel
theorem dX10_trace_0 : decode cX10_trace 0 = .ok (.aload_n 0, 1) := by decide +kernel
theorem dX10_trace_1 : decode cX10_trace 1 = .ok (.getfield 256, 3) := by decide +kernel
theorem dX10_trace_4 : decode cX10_trace 4 = .ok (.lreturn, 1) := by decide +kernel
theorem dX10_within_0 : decode cX10_within 0 = .ok (.iload_n 0, 1) := by decide +kernel
theorem dX10_within_1 : decode cX10_within 1 = .ok (.iload_n 1, 1) := by decide +kernel
theorem dX10_within_2 : decode cX10_within 2 = .ok (.if_icmp .lt 12, 3) := by decide +kernel
theorem dX10_within_5 : decode cX10_within 5 = .ok (.iload_n 0, 1) := by decide +kernel
theorem dX10_within_6 : decode cX10_within 6 = .ok (.iload_n 2, 1) := by decide +kernel
theorem dX10_within_7 : decode cX10_within 7 = .ok (.if_icmp .gt 7, 3) := by decide +kernel
theorem dX10_within_10 : decode cX10_within 10 = .ok (.iconst 1, 1) := by decide +kernel
theorem dX10_within_11 : decode cX10_within 11 = .ok (.goto 4, 3) := by decide +kernel
theorem dX10_within_14 : decode cX10_within 14 = .ok (.iconst 0, 1) := by decide +kernel
theorem dX10_within_15 : decode cX10_within 15 = .ok (.ireturn, 1) := by decide +kernel
theorem dX10_bit_0 : decode cX10_bit 0 = .ok (.iload_n 0, 1) := by decide +kernel
theorem dX10_bit_1 : decode cX10_bit 1 = .ok (.iload_n 1, 1) := by decide +kernel
theorem dX10_bit_2 : decode cX10_bit 2 = .ok (.ishr, 1) := by decide +kernel
theorem dX10_bit_3 : decode cX10_bit 3 = .ok (.iconst 1, 1) := by decide +kernel
theorem dX10_bit_4 : decode cX10_bit 4 = .ok (.iand, 1) := by decide +kernel
theorem dX10_bit_5 : decode cX10_bit 5 = .ok (.ireturn, 1) := by decide +kernel
theorem dX10_isSuspect_0 : decode cX10_isSuspect 0 = .ok (.iload_n 1, 1) := by decide +kernel
theorem dX10_isSuspect_1 : decode cX10_isSuspect 1 = .ok (.iconst 0, 1) := by decide +kernel
theorem dX10_isSuspect_2 : decode cX10_isSuspect 2 = .ok (.aload_n 0, 1) := by decide +kernel
theorem dX10_isSuspect_3 : decode cX10_isSuspect 3 = .ok (.getfield 73, 3) := by decide +kernel
theorem dX10_isSuspect_6 : decode cX10_isSuspect 6 = .ok (.getfield 219, 3) := by decide +kernel
theorem dX10_isSuspect_9 : decode cX10_isSuspect 9 = .ok (.iconst 1, 1) := by decide +kernel
theorem dX10_isSuspect_10 : decode cX10_isSuspect 10 = .ok (.isub, 1) := by decide +kernel
theorem dX10_isSuspect_11 : decode cX10_isSuspect 11 = .ok (.invokestatic 90, 3) := by decide +kernel
theorem dX10_isSuspect_14 : decode cX10_isSuspect 14 = .ok (.ireturn, 1) := by decide +kernel
theorem dX10_isFact_0 : decode cX10_isFact 0 = .ok (.iload_n 1, 1) := by decide +kernel
theorem dX10_isFact_1 : decode cX10_isFact 1 = .ok (.iconst 0, 1) := by decide +kernel
theorem dX10_isFact_2 : decode cX10_isFact 2 = .ok (.aload_n 0, 1) := by decide +kernel
theorem dX10_isFact_3 : decode cX10_isFact 3 = .ok (.getfield 73, 3) := by decide +kernel
theorem dX10_isFact_6 : decode cX10_isFact 6 = .ok (.getfield 239, 3) := by decide +kernel
theorem dX10_isFact_9 : decode cX10_isFact 9 = .ok (.iconst 1, 1) := by decide +kernel
theorem dX10_isFact_10 : decode cX10_isFact 10 = .ok (.isub, 1) := by decide +kernel
theorem dX10_isFact_11 : decode cX10_isFact 11 = .ok (.invokestatic 90, 3) := by decide +kernel
theorem dX10_isFact_14 : decode cX10_isFact 14 = .ok (.ireturn, 1) := by decide +kernel
theorem dX10_isAlibi_0 : decode cX10_isAlibi 0 = .ok (.iload_n 1, 1) := by decide +kernel
theorem dX10_isAlibi_1 : decode cX10_isAlibi 1 = .ok (.iconst 0, 1) := by decide +kernel
theorem dX10_isAlibi_2 : decode cX10_isAlibi 2 = .ok (.aload_n 0, 1) := by decide +kernel
theorem dX10_isAlibi_3 : decode cX10_isAlibi 3 = .ok (.getfield 73, 3) := by decide +kernel
theorem dX10_isAlibi_6 : decode cX10_isAlibi 6 = .ok (.getfield 255, 3) := by decide +kernel
theorem dX10_isAlibi_9 : decode cX10_isAlibi 9 = .ok (.iconst 1, 1) := by decide +kernel
theorem dX10_isAlibi_10 : decode cX10_isAlibi 10 = .ok (.isub, 1) := by decide +kernel
theorem dX10_isAlibi_11 : decode cX10_isAlibi 11 = .ok (.invokestatic 90, 3) := by decide +kernel
theorem dX10_isAlibi_14 : decode cX10_isAlibi 14 = .ok (.ireturn, 1) := by decide +kernel
theorem dX10_isFraction_0 : decode cX10_isFraction 0 = .ok (.iload_n 1, 1) := by decide +kernel
theorem dX10_isFraction_1 : decode cX10_isFraction 1 = .ok (.iconst 1, 1) := by decide +kernel
theorem dX10_isFraction_2 : decode cX10_isFraction 2 = .ok (.bipush 20, 2) := by decide +kernel
theorem dX10_isFraction_4 : decode cX10_isFraction 4 = .ok (.invokestatic 90, 3) := by decide +kernel
theorem dX10_isFraction_7 : decode cX10_isFraction 7 = .ok (.ifCond .eq 16, 3) := by decide +kernel
theorem dX10_isFraction_10 : decode cX10_isFraction 10 = .ok (.iload_n 0, 1) := by decide +kernel
theorem dX10_isFraction_11 : decode cX10_isFraction 11 = .ok (.iconst 0, 1) := by decide +kernel
theorem dX10_isFraction_12 : decode cX10_isFraction 12 = .ok (.iload_n 1, 1) := by decide +kernel
theorem dX10_isFraction_13 : decode cX10_isFraction 13 = .ok (.invokestatic 90, 3) := by decide +kernel
theorem dX10_isFraction_16 : decode cX10_isFraction 16 = .ok (.ifCond .eq 7, 3) := by decide +kernel
theorem dX10_isFraction_19 : decode cX10_isFraction 19 = .ok (.iconst 1, 1) := by decide +kernel
theorem dX10_isFraction_20 : decode cX10_isFraction 20 = .ok (.goto 4, 3) := by decide +kernel
theorem dX10_isFraction_23 : decode cX10_isFraction 23 = .ok (.iconst 0, 1) := by decide +kernel
theorem dX10_isFraction_24 : decode cX10_isFraction 24 = .ok (.ireturn, 1) := by decide +kernel
theorem dX10_weighNow_0 : decode cX10_weighNow 0 = .ok (.aload_n 0, 1) := by decide +kernel
theorem dX10_weighNow_1 : decode cX10_weighNow 1 = .ok (.getfield 19, 3) := by decide +kernel
theorem dX10_weighNow_4 : decode cX10_weighNow 4 = .ok (.aload_n 0, 1) := by decide +kernel
theorem dX10_weighNow_5 : decode cX10_weighNow 5 = .ok (.getfield 73, 3) := by decide +kernel
theorem dX10_weighNow_8 : decode cX10_weighNow 8 = .ok (.aload_n 0, 1) := by decide +kernel
theorem dX10_weighNow_9 : decode cX10_weighNow 9 = .ok (.getfield 26, 3) := by decide +kernel
theorem dX10_weighNow_12 : decode cX10_weighNow 12 = .ok (.getfield 161, 3) := by decide +kernel
theorem dX10_weighNow_15 : decode cX10_weighNow 15 = .ok (.invokevirtual 235, 3) := by decide +kernel
theorem dX10_weighNow_18 : decode cX10_weighNow 18 = .ok (.aload_n 0, 1) := by decide +kernel
theorem dX10_weighNow_19 : decode cX10_weighNow 19 = .ok (.getfield 19, 3) := by decide +kernel
theorem dX10_weighNow_22 : decode cX10_weighNow 22 = .ok (.aload_n 0, 1) := by decide +kernel
theorem dX10_weighNow_23 : decode cX10_weighNow 23 = .ok (.getfield 73, 3) := by decide +kernel
theorem dX10_weighNow_26 : decode cX10_weighNow 26 = .ok (.aload_n 0, 1) := by decide +kernel
theorem dX10_weighNow_27 : decode cX10_weighNow 27 = .ok (.getfield 26, 3) := by decide +kernel
theorem dX10_weighNow_30 : decode cX10_weighNow 30 = .ok (.getfield 135, 3) := by decide +kernel
theorem dX10_weighNow_33 : decode cX10_weighNow 33 = .ok (.invokevirtual 260, 3) := by decide +kernel
theorem dX10_weighNow_36 : decode cX10_weighNow 36 = .ok (.aload_n 0, 1) := by decide +kernel
theorem dX10_weighNow_37 : decode cX10_weighNow 37 = .ok (.getfield 19, 3) := by decide +kernel
theorem dX10_weighNow_40 : decode cX10_weighNow 40 = .ok (.aload_n 0, 1) := by decide +kernel
theorem dX10_weighNow_41 : decode cX10_weighNow 41 = .ok (.getfield 26, 3) := by decide +kernel
theorem dX10_weighNow_44 : decode cX10_weighNow 44 = .ok (.getfield 171, 3) := by decide +kernel
theorem dX10_weighNow_47 : decode cX10_weighNow 47 = .ok (.invokevirtual 263, 3) := by decide +kernel
theorem dX10_weighNow_50 : decode cX10_weighNow 50 = .ok (.return_, 1) := by decide +kernel
theorem dX10_caseNow_0 : decode cX10_caseNow 0 = .ok (.aload_n 0, 1) := by decide +kernel
theorem dX10_caseNow_1 : decode cX10_caseNow 1 = .ok (.invokevirtual 111, 3) := by decide +kernel
theorem dX10_caseNow_4 : decode cX10_caseNow 4 = .ok (.aload_n 0, 1) := by decide +kernel
theorem dX10_caseNow_5 : decode cX10_caseNow 5 = .ok (.getfield 19, 3) := by decide +kernel
theorem dX10_caseNow_8 : decode cX10_caseNow 8 = .ok (.getfield 178, 3) := by decide +kernel
theorem dX10_caseNow_11 : decode cX10_caseNow 11 = .ok (.ireturn, 1) := by decide +kernel
theorem dX10_commonDivisor_0 : decode cX10_commonDivisor 0 = .ok (.iload_n 0, 1) := by decide +kernel
theorem dX10_commonDivisor_1 : decode cX10_commonDivisor 1 = .ok (.istore_n 2, 1) := by decide +kernel
theorem dX10_commonDivisor_2 : decode cX10_commonDivisor 2 = .ok (.iload_n 1, 1) := by decide +kernel
theorem dX10_commonDivisor_3 : decode cX10_commonDivisor 3 = .ok (.istore_n 3, 1) := by decide +kernel
theorem dX10_commonDivisor_4 : decode cX10_commonDivisor 4 = .ok (.iconst 0, 1) := by decide +kernel
theorem dX10_commonDivisor_5 : decode cX10_commonDivisor 5 = .ok (.istore 4, 2) := by decide +kernel
theorem dX10_commonDivisor_7 : decode cX10_commonDivisor 7 = .ok (.iload 4, 2) := by decide +kernel
theorem dX10_commonDivisor_9 : decode cX10_commonDivisor 9 = .ok (.bipush 64, 2) := by decide +kernel
theorem dX10_commonDivisor_11 : decode cX10_commonDivisor 11 = .ok (.if_icmp .ge 23, 3) := by decide +kernel
theorem dX10_commonDivisor_14 : decode cX10_commonDivisor 14 = .ok (.iload_n 3, 1) := by decide +kernel
theorem dX10_commonDivisor_15 : decode cX10_commonDivisor 15 = .ok (.ifCond .eq 19, 3) := by decide +kernel
theorem dX10_commonDivisor_18 : decode cX10_commonDivisor 18 = .ok (.iload_n 2, 1) := by decide +kernel
theorem dX10_commonDivisor_19 : decode cX10_commonDivisor 19 = .ok (.iload_n 3, 1) := by decide +kernel
theorem dX10_commonDivisor_20 : decode cX10_commonDivisor 20 = .ok (.irem, 1) := by decide +kernel
theorem dX10_commonDivisor_21 : decode cX10_commonDivisor 21 = .ok (.istore 5, 2) := by decide +kernel
theorem dX10_commonDivisor_23 : decode cX10_commonDivisor 23 = .ok (.iload_n 3, 1) := by decide +kernel
theorem dX10_commonDivisor_24 : decode cX10_commonDivisor 24 = .ok (.istore_n 2, 1) := by decide +kernel
theorem dX10_commonDivisor_25 : decode cX10_commonDivisor 25 = .ok (.iload 5, 2) := by decide +kernel
theorem dX10_commonDivisor_27 : decode cX10_commonDivisor 27 = .ok (.istore_n 3, 1) := by decide +kernel
theorem dX10_commonDivisor_28 : decode cX10_commonDivisor 28 = .ok (.iinc 4 1, 3) := by decide +kernel
theorem dX10_commonDivisor_31 : decode cX10_commonDivisor 31 = .ok (.goto (-24), 3) := by decide +kernel
theorem dX10_commonDivisor_34 : decode cX10_commonDivisor 34 = .ok (.iconst 1, 1) := by decide +kernel
theorem dX10_commonDivisor_35 : decode cX10_commonDivisor 35 = .ok (.iload_n 2, 1) := by decide +kernel
theorem dX10_commonDivisor_36 : decode cX10_commonDivisor 36 = .ok (.invokestatic 204, 3) := by decide +kernel
theorem dX10_commonDivisor_39 : decode cX10_commonDivisor 39 = .ok (.ireturn, 1) := by decide +kernel
theorem dX10_isNoMore_0 : decode cX10_isNoMore 0 = .ok (.iload_n 1, 1) := by decide +kernel
theorem dX10_isNoMore_1 : decode cX10_isNoMore 1 = .ok (.ifCond .eq 12, 3) := by decide +kernel
theorem dX10_isNoMore_4 : decode cX10_isNoMore 4 = .ok (.iload_n 0, 1) := by decide +kernel
theorem dX10_isNoMore_5 : decode cX10_isNoMore 5 = .ok (.iload_n 3, 1) := by decide +kernel
theorem dX10_isNoMore_6 : decode cX10_isNoMore 6 = .ok (.imul, 1) := by decide +kernel
theorem dX10_isNoMore_7 : decode cX10_isNoMore 7 = .ok (.iload_n 2, 1) := by decide +kernel
theorem dX10_isNoMore_8 : decode cX10_isNoMore 8 = .ok (.iload_n 1, 1) := by decide +kernel
theorem dX10_isNoMore_9 : decode cX10_isNoMore 9 = .ok (.imul, 1) := by decide +kernel
theorem dX10_isNoMore_10 : decode cX10_isNoMore 10 = .ok (.if_icmp .gt 7, 3) := by decide +kernel
theorem dX10_isNoMore_13 : decode cX10_isNoMore 13 = .ok (.iconst 1, 1) := by decide +kernel
theorem dX10_isNoMore_14 : decode cX10_isNoMore 14 = .ok (.goto 4, 3) := by decide +kernel
theorem dX10_isNoMore_17 : decode cX10_isNoMore 17 = .ok (.iconst 0, 1) := by decide +kernel
theorem dX10_isNoMore_18 : decode cX10_isNoMore 18 = .ok (.ireturn, 1) := by decide +kernel
theorem dX10_isNoLess_0 : decode cX10_isNoLess 0 = .ok (.iload_n 1, 1) := by decide +kernel
theorem dX10_isNoLess_1 : decode cX10_isNoLess 1 = .ok (.ifCond .eq 16, 3) := by decide +kernel
theorem dX10_isNoLess_4 : decode cX10_isNoLess 4 = .ok (.iload_n 0, 1) := by decide +kernel
theorem dX10_isNoLess_5 : decode cX10_isNoLess 5 = .ok (.iload_n 3, 1) := by decide +kernel
theorem dX10_isNoLess_6 : decode cX10_isNoLess 6 = .ok (.imul, 1) := by decide +kernel
theorem dX10_isNoLess_7 : decode cX10_isNoLess 7 = .ok (.iload_n 2, 1) := by decide +kernel
theorem dX10_isNoLess_8 : decode cX10_isNoLess 8 = .ok (.iload_n 1, 1) := by decide +kernel
theorem dX10_isNoLess_9 : decode cX10_isNoLess 9 = .ok (.imul, 1) := by decide +kernel
theorem dX10_isNoLess_10 : decode cX10_isNoLess 10 = .ok (.if_icmp .lt 7, 3) := by decide +kernel
theorem dX10_isNoLess_13 : decode cX10_isNoLess 13 = .ok (.iconst 1, 1) := by decide +kernel
theorem dX10_isNoLess_14 : decode cX10_isNoLess 14 = .ok (.goto 4, 3) := by decide +kernel
theorem dX10_isNoLess_17 : decode cX10_isNoLess 17 = .ok (.iconst 0, 1) := by decide +kernel
theorem dX10_isNoLess_18 : decode cX10_isNoLess 18 = .ok (.ireturn, 1) := by decide +kernel
theorem dX10_cheapest_0 : decode cX10_cheapest 0 = .ok (.aload_n 0, 1) := by decide +kernel
theorem dX10_cheapest_1 : decode cX10_cheapest 1 = .ok (.getfield 19, 3) := by decide +kernel
theorem dX10_cheapest_4 : decode cX10_cheapest 4 = .ok (.aload_n 0, 1) := by decide +kernel
theorem dX10_cheapest_5 : decode cX10_cheapest 5 = .ok (.getfield 73, 3) := by decide +kernel
theorem dX10_cheapest_8 : decode cX10_cheapest 8 = .ok (.aload_n 0, 1) := by decide +kernel
theorem dX10_cheapest_9 : decode cX10_cheapest 9 = .ok (.getfield 26, 3) := by decide +kernel
theorem dX10_cheapest_12 : decode cX10_cheapest 12 = .ok (.getfield 161, 3) := by decide +kernel
theorem dX10_cheapest_15 : decode cX10_cheapest 15 = .ok (.invokevirtual 235, 3) := by decide +kernel
theorem dX10_cheapest_18 : decode cX10_cheapest 18 = .ok (.bipush (-9), 2) := by decide +kernel
theorem dX10_cheapest_20 : decode cX10_cheapest 20 = .ok (.istore 5, 2) := by decide +kernel
theorem dX10_cheapest_22 : decode cX10_cheapest 22 = .ok (.iconst 0, 1) := by decide +kernel
theorem dX10_cheapest_23 : decode cX10_cheapest 23 = .ok (.istore 6, 2) := by decide +kernel
theorem dX10_cheapest_25 : decode cX10_cheapest 25 = .ok (.iconst 0, 1) := by decide +kernel
theorem dX10_cheapest_26 : decode cX10_cheapest 26 = .ok (.istore 7, 2) := by decide +kernel
theorem dX10_cheapest_28 : decode cX10_cheapest 28 = .ok (.iload 7, 2) := by decide +kernel
theorem dX10_cheapest_30 : decode cX10_cheapest 30 = .ok (.iconst 1, 1) := by decide +kernel
theorem dX10_cheapest_31 : decode cX10_cheapest 31 = .ok (.aload_n 0, 1) := by decide +kernel
theorem dX10_cheapest_32 : decode cX10_cheapest 32 = .ok (.getfield 73, 3) := by decide +kernel
theorem dX10_cheapest_35 : decode cX10_cheapest 35 = .ok (.getfield 239, 3) := by decide +kernel
theorem dX10_cheapest_38 : decode cX10_cheapest 38 = .ok (.ishl, 1) := by decide +kernel
theorem dX10_cheapest_39 : decode cX10_cheapest 39 = .ok (.if_icmp .ge 135, 3) := by decide +kernel
theorem dX10_cheapest_42 : decode cX10_cheapest 42 = .ok (.iload 7, 2) := by decide +kernel
theorem dX10_cheapest_44 : decode cX10_cheapest 44 = .ok (.aload_n 0, 1) := by decide +kernel
theorem dX10_cheapest_45 : decode cX10_cheapest 45 = .ok (.getfield 26, 3) := by decide +kernel
theorem dX10_cheapest_48 : decode cX10_cheapest 48 = .ok (.getfield 135, 3) := by decide +kernel
theorem dX10_cheapest_51 : decode cX10_cheapest 51 = .ok (.iand, 1) := by decide +kernel
theorem dX10_cheapest_52 : decode cX10_cheapest 52 = .ok (.ifCond .eq 6, 3) := by decide +kernel
theorem dX10_cheapest_55 : decode cX10_cheapest 55 = .ok (.goto 113, 3) := by decide +kernel
theorem dX10_cheapest_58 : decode cX10_cheapest 58 = .ok (.aload_n 0, 1) := by decide +kernel
theorem dX10_cheapest_59 : decode cX10_cheapest 59 = .ok (.getfield 73, 3) := by decide +kernel
theorem dX10_cheapest_62 : decode cX10_cheapest 62 = .ok (.iload 7, 2) := by decide +kernel
theorem dX10_cheapest_64 : decode cX10_cheapest 64 = .ok (.invokevirtual 266, 3) := by decide +kernel
theorem dX10_cheapest_67 : decode cX10_cheapest 67 = .ok (.istore 8, 2) := by decide +kernel
theorem dX10_cheapest_69 : decode cX10_cheapest 69 = .ok (.iload 5, 2) := by decide +kernel
theorem dX10_cheapest_71 : decode cX10_cheapest 71 = .ok (.bipush (-9), 2) := by decide +kernel
theorem dX10_cheapest_73 : decode cX10_cheapest 73 = .ok (.if_icmp .eq 13, 3) := by decide +kernel
theorem dX10_cheapest_76 : decode cX10_cheapest 76 = .ok (.iload 8, 2) := by decide +kernel
theorem dX10_cheapest_78 : decode cX10_cheapest 78 = .ok (.iload 6, 2) := by decide +kernel
theorem dX10_cheapest_80 : decode cX10_cheapest 80 = .ok (.if_icmp .lt 6, 3) := by decide +kernel
theorem dX10_cheapest_83 : decode cX10_cheapest 83 = .ok (.goto 85, 3) := by decide +kernel
theorem dX10_cheapest_86 : decode cX10_cheapest 86 = .ok (.aload_n 0, 1) := by decide +kernel
theorem dX10_cheapest_87 : decode cX10_cheapest 87 = .ok (.getfield 19, 3) := by decide +kernel
theorem dX10_cheapest_90 : decode cX10_cheapest 90 = .ok (.aload_n 0, 1) := by decide +kernel
theorem dX10_cheapest_91 : decode cX10_cheapest 91 = .ok (.getfield 73, 3) := by decide +kernel
theorem dX10_cheapest_94 : decode cX10_cheapest 94 = .ok (.iload 7, 2) := by decide +kernel
theorem dX10_cheapest_96 : decode cX10_cheapest 96 = .ok (.aload_n 0, 1) := by decide +kernel
theorem dX10_cheapest_97 : decode cX10_cheapest 97 = .ok (.getfield 26, 3) := by decide +kernel
theorem dX10_cheapest_100 : decode cX10_cheapest 100 = .ok (.getfield 135, 3) := by decide +kernel
theorem dX10_cheapest_103 : decode cX10_cheapest 103 = .ok (.ior, 1) := by decide +kernel
theorem dX10_cheapest_104 : decode cX10_cheapest 104 = .ok (.invokevirtual 260, 3) := by decide +kernel
theorem dX10_cheapest_107 : decode cX10_cheapest 107 = .ok (.aload_n 0, 1) := by decide +kernel
theorem dX10_cheapest_108 : decode cX10_cheapest 108 = .ok (.getfield 19, 3) := by decide +kernel
theorem dX10_cheapest_111 : decode cX10_cheapest 111 = .ok (.getfield 117, 3) := by decide +kernel
theorem dX10_cheapest_114 : decode cX10_cheapest 114 = .ok (.iload_n 1, 1) := by decide +kernel
theorem dX10_cheapest_115 : decode cX10_cheapest 115 = .ok (.iaload, 1) := by decide +kernel
theorem dX10_cheapest_116 : decode cX10_cheapest 116 = .ok (.istore 9, 2) := by decide +kernel
theorem dX10_cheapest_118 : decode cX10_cheapest 118 = .ok (.iload 4, 2) := by decide +kernel
theorem dX10_cheapest_120 : decode cX10_cheapest 120 = .ok (.ifCond .eq 23, 3) := by decide +kernel
theorem dX10_cheapest_123 : decode cX10_cheapest 123 = .ok (.iload 9, 2) := by decide +kernel
theorem dX10_cheapest_125 : decode cX10_cheapest 125 = .ok (.aload_n 0, 1) := by decide +kernel
theorem dX10_cheapest_126 : decode cX10_cheapest 126 = .ok (.getfield 19, 3) := by decide +kernel
theorem dX10_cheapest_129 : decode cX10_cheapest 129 = .ok (.getfield 178, 3) := by decide +kernel
theorem dX10_cheapest_132 : decode cX10_cheapest 132 = .ok (.iload_n 2, 1) := by decide +kernel
theorem dX10_cheapest_133 : decode cX10_cheapest 133 = .ok (.iload_n 3, 1) := by decide +kernel
theorem dX10_cheapest_134 : decode cX10_cheapest 134 = .ok (.invokestatic 269, 3) := by decide +kernel
theorem dX10_cheapest_137 : decode cX10_cheapest 137 = .ok (.ifCond .eq 31, 3) := by decide +kernel
theorem dX10_cheapest_140 : decode cX10_cheapest 140 = .ok (.goto 20, 3) := by decide +kernel
theorem dX10_cheapest_143 : decode cX10_cheapest 143 = .ok (.iload 9, 2) := by decide +kernel
theorem dX10_cheapest_145 : decode cX10_cheapest 145 = .ok (.aload_n 0, 1) := by decide +kernel
theorem dX10_cheapest_146 : decode cX10_cheapest 146 = .ok (.getfield 19, 3) := by decide +kernel
theorem dX10_cheapest_149 : decode cX10_cheapest 149 = .ok (.getfield 178, 3) := by decide +kernel
theorem dX10_cheapest_152 : decode cX10_cheapest 152 = .ok (.iload_n 2, 1) := by decide +kernel
theorem dX10_cheapest_153 : decode cX10_cheapest 153 = .ok (.iload_n 3, 1) := by decide +kernel
theorem dX10_cheapest_154 : decode cX10_cheapest 154 = .ok (.invokestatic 209, 3) := by decide +kernel
theorem dX10_cheapest_157 : decode cX10_cheapest 157 = .ok (.ifCond .eq 11, 3) := by decide +kernel
theorem dX10_cheapest_160 : decode cX10_cheapest 160 = .ok (.iload 7, 2) := by decide +kernel
theorem dX10_cheapest_162 : decode cX10_cheapest 162 = .ok (.istore 5, 2) := by decide +kernel
theorem dX10_cheapest_164 : decode cX10_cheapest 164 = .ok (.iload 8, 2) := by decide +kernel
theorem dX10_cheapest_166 : decode cX10_cheapest 166 = .ok (.istore 6, 2) := by decide +kernel
theorem dX10_cheapest_168 : decode cX10_cheapest 168 = .ok (.iinc 7 1, 3) := by decide +kernel
theorem dX10_cheapest_171 : decode cX10_cheapest 171 = .ok (.goto (-143), 3) := by decide +kernel
theorem dX10_cheapest_174 : decode cX10_cheapest 174 = .ok (.iload 5, 2) := by decide +kernel
theorem dX10_cheapest_176 : decode cX10_cheapest 176 = .ok (.ireturn, 1) := by decide +kernel
theorem dX10_costOrSet_0 : decode cX10_costOrSet 0 = .ok (.iload_n 1, 1) := by decide +kernel
theorem dX10_costOrSet_1 : decode cX10_costOrSet 1 = .ok (.bipush (-9), 2) := by decide +kernel
theorem dX10_costOrSet_3 : decode cX10_costOrSet 3 = .ok (.if_icmp .eq 8, 3) := by decide +kernel
theorem dX10_costOrSet_6 : decode cX10_costOrSet 6 = .ok (.iload_n 2, 1) := by decide +kernel
theorem dX10_costOrSet_7 : decode cX10_costOrSet 7 = .ok (.iconst 1, 1) := by decide +kernel
theorem dX10_costOrSet_8 : decode cX10_costOrSet 8 = .ok (.if_icmp .ne 5, 3) := by decide +kernel
theorem dX10_costOrSet_11 : decode cX10_costOrSet 11 = .ok (.iload_n 1, 1) := by decide +kernel
theorem dX10_costOrSet_12 : decode cX10_costOrSet 12 = .ok (.ireturn, 1) := by decide +kernel
theorem dX10_costOrSet_13 : decode cX10_costOrSet 13 = .ok (.aload_n 0, 1) := by decide +kernel
theorem dX10_costOrSet_14 : decode cX10_costOrSet 14 = .ok (.getfield 73, 3) := by decide +kernel
theorem dX10_costOrSet_17 : decode cX10_costOrSet 17 = .ok (.iload_n 1, 1) := by decide +kernel
theorem dX10_costOrSet_18 : decode cX10_costOrSet 18 = .ok (.invokevirtual 266, 3) := by decide +kernel
theorem dX10_costOrSet_21 : decode cX10_costOrSet 21 = .ok (.ireturn, 1) := by decide +kernel
theorem dX10_matchClashers_0 : decode cX10_matchClashers 0 = .ok (.iconst 0, 1) := by decide +kernel
theorem dX10_matchClashers_1 : decode cX10_matchClashers 1 = .ok (.istore_n 1, 1) := by decide +kernel
theorem dX10_matchClashers_2 : decode cX10_matchClashers 2 = .ok (.iconst 0, 1) := by decide +kernel
theorem dX10_matchClashers_3 : decode cX10_matchClashers 3 = .ok (.istore_n 2, 1) := by decide +kernel
theorem dX10_matchClashers_4 : decode cX10_matchClashers 4 = .ok (.iload_n 2, 1) := by decide +kernel
theorem dX10_matchClashers_5 : decode cX10_matchClashers 5 = .ok (.aload_n 0, 1) := by decide +kernel
theorem dX10_matchClashers_6 : decode cX10_matchClashers 6 = .ok (.getfield 73, 3) := by decide +kernel
theorem dX10_matchClashers_9 : decode cX10_matchClashers 9 = .ok (.getfield 255, 3) := by decide +kernel
theorem dX10_matchClashers_12 : decode cX10_matchClashers 12 = .ok (.if_icmp .ge 64, 3) := by decide +kernel
theorem dX10_matchClashers_15 : decode cX10_matchClashers 15 = .ok (.aload_n 0, 1) := by decide +kernel
theorem dX10_matchClashers_16 : decode cX10_matchClashers 16 = .ok (.getfield 60, 3) := by decide +kernel
theorem dX10_matchClashers_19 : decode cX10_matchClashers 19 = .ok (.iload_n 2, 1) := by decide +kernel
theorem dX10_matchClashers_20 : decode cX10_matchClashers 20 = .ok (.iconst 0, 1) := by decide +kernel
theorem dX10_matchClashers_21 : decode cX10_matchClashers 21 = .ok (.iastore, 1) := by decide +kernel
theorem dX10_matchClashers_22 : decode cX10_matchClashers 22 = .ok (.iload_n 2, 1) := by decide +kernel
theorem dX10_matchClashers_23 : decode cX10_matchClashers 23 = .ok (.iconst 1, 1) := by decide +kernel
theorem dX10_matchClashers_24 : decode cX10_matchClashers 24 = .ok (.iadd, 1) := by decide +kernel
theorem dX10_matchClashers_25 : decode cX10_matchClashers 25 = .ok (.istore_n 3, 1) := by decide +kernel
theorem dX10_matchClashers_26 : decode cX10_matchClashers 26 = .ok (.iload_n 3, 1) := by decide +kernel
theorem dX10_matchClashers_27 : decode cX10_matchClashers 27 = .ok (.aload_n 0, 1) := by decide +kernel
theorem dX10_matchClashers_28 : decode cX10_matchClashers 28 = .ok (.getfield 73, 3) := by decide +kernel
theorem dX10_matchClashers_31 : decode cX10_matchClashers 31 = .ok (.getfield 255, 3) := by decide +kernel
theorem dX10_matchClashers_34 : decode cX10_matchClashers 34 = .ok (.if_icmp .ge 36, 3) := by decide +kernel
theorem dX10_matchClashers_37 : decode cX10_matchClashers 37 = .ok (.aload_n 0, 1) := by decide +kernel
theorem dX10_matchClashers_38 : decode cX10_matchClashers 38 = .ok (.getfield 73, 3) := by decide +kernel
theorem dX10_matchClashers_41 : decode cX10_matchClashers 41 = .ok (.iload_n 2, 1) := by decide +kernel
theorem dX10_matchClashers_42 : decode cX10_matchClashers 42 = .ok (.iload_n 3, 1) := by decide +kernel
theorem dX10_matchClashers_43 : decode cX10_matchClashers 43 = .ok (.invokevirtual 272, 3) := by decide +kernel
theorem dX10_matchClashers_46 : decode cX10_matchClashers 46 = .ok (.ifCond .eq 18, 3) := by decide +kernel
theorem dX10_matchClashers_49 : decode cX10_matchClashers 49 = .ok (.aload_n 0, 1) := by decide +kernel
theorem dX10_matchClashers_50 : decode cX10_matchClashers 50 = .ok (.getfield 60, 3) := by decide +kernel
theorem dX10_matchClashers_53 : decode cX10_matchClashers 53 = .ok (.iload_n 2, 1) := by decide +kernel
theorem dX10_matchClashers_54 : decode cX10_matchClashers 54 = .ok (.dup2, 1) := by decide +kernel
theorem dX10_matchClashers_55 : decode cX10_matchClashers 55 = .ok (.iaload, 1) := by decide +kernel
theorem dX10_matchClashers_56 : decode cX10_matchClashers 56 = .ok (.iconst 1, 1) := by decide +kernel
theorem dX10_matchClashers_57 : decode cX10_matchClashers 57 = .ok (.iload_n 3, 1) := by decide +kernel
theorem dX10_matchClashers_58 : decode cX10_matchClashers 58 = .ok (.ishl, 1) := by decide +kernel
theorem dX10_matchClashers_59 : decode cX10_matchClashers 59 = .ok (.ior, 1) := by decide +kernel
theorem dX10_matchClashers_60 : decode cX10_matchClashers 60 = .ok (.iastore, 1) := by decide +kernel
theorem dX10_matchClashers_61 : decode cX10_matchClashers 61 = .ok (.iinc 1 1, 3) := by decide +kernel
theorem dX10_matchClashers_64 : decode cX10_matchClashers 64 = .ok (.iinc 3 1, 3) := by decide +kernel
theorem dX10_matchClashers_67 : decode cX10_matchClashers 67 = .ok (.goto (-41), 3) := by decide +kernel
theorem dX10_matchClashers_70 : decode cX10_matchClashers 70 = .ok (.iinc 2 1, 3) := by decide +kernel
theorem dX10_matchClashers_73 : decode cX10_matchClashers 73 = .ok (.goto (-69), 3) := by decide +kernel
theorem dX10_matchClashers_76 : decode cX10_matchClashers 76 = .ok (.iload_n 1, 1) := by decide +kernel
theorem dX10_matchClashers_77 : decode cX10_matchClashers 77 = .ok (.ireturn, 1) := by decide +kernel
theorem dX10_fewestFalse_0 : decode cX10_fewestFalse 0 = .ok (.iconst 1, 1) := by decide +kernel
theorem dX10_fewestFalse_1 : decode cX10_fewestFalse 1 = .ok (.aload_n 0, 1) := by decide +kernel
theorem dX10_fewestFalse_2 : decode cX10_fewestFalse 2 = .ok (.getfield 73, 3) := by decide +kernel
theorem dX10_fewestFalse_5 : decode cX10_fewestFalse 5 = .ok (.getfield 255, 3) := by decide +kernel
theorem dX10_fewestFalse_8 : decode cX10_fewestFalse 8 = .ok (.ishl, 1) := by decide +kernel
theorem dX10_fewestFalse_9 : decode cX10_fewestFalse 9 = .ok (.iconst 1, 1) := by decide +kernel
theorem dX10_fewestFalse_10 : decode cX10_fewestFalse 10 = .ok (.isub, 1) := by decide +kernel
theorem dX10_fewestFalse_11 : decode cX10_fewestFalse 11 = .ok (.istore_n 1, 1) := by decide +kernel
theorem dX10_fewestFalse_12 : decode cX10_fewestFalse 12 = .ok (.iconst 0, 1) := by decide +kernel
theorem dX10_fewestFalse_13 : decode cX10_fewestFalse 13 = .ok (.istore_n 2, 1) := by decide +kernel
theorem dX10_fewestFalse_14 : decode cX10_fewestFalse 14 = .ok (.iload_n 2, 1) := by decide +kernel
theorem dX10_fewestFalse_15 : decode cX10_fewestFalse 15 = .ok (.iconst 1, 1) := by decide +kernel
theorem dX10_fewestFalse_16 : decode cX10_fewestFalse 16 = .ok (.aload_n 0, 1) := by decide +kernel
theorem dX10_fewestFalse_17 : decode cX10_fewestFalse 17 = .ok (.getfield 73, 3) := by decide +kernel
theorem dX10_fewestFalse_20 : decode cX10_fewestFalse 20 = .ok (.getfield 255, 3) := by decide +kernel
theorem dX10_fewestFalse_23 : decode cX10_fewestFalse 23 = .ok (.ishl, 1) := by decide +kernel
theorem dX10_fewestFalse_24 : decode cX10_fewestFalse 24 = .ok (.if_icmp .ge 30, 3) := by decide +kernel
theorem dX10_fewestFalse_27 : decode cX10_fewestFalse 27 = .ok (.iload_n 2, 1) := by decide +kernel
theorem dX10_fewestFalse_28 : decode cX10_fewestFalse 28 = .ok (.invokestatic 275, 3) := by decide +kernel
theorem dX10_fewestFalse_31 : decode cX10_fewestFalse 31 = .ok (.iload_n 1, 1) := by decide +kernel
theorem dX10_fewestFalse_32 : decode cX10_fewestFalse 32 = .ok (.invokestatic 275, 3) := by decide +kernel
theorem dX10_fewestFalse_35 : decode cX10_fewestFalse 35 = .ok (.if_icmp .ge 13, 3) := by decide +kernel
theorem dX10_fewestFalse_38 : decode cX10_fewestFalse 38 = .ok (.aload_n 0, 1) := by decide +kernel
theorem dX10_fewestFalse_39 : decode cX10_fewestFalse 39 = .ok (.iload_n 2, 1) := by decide +kernel
theorem dX10_fewestFalse_40 : decode cX10_fewestFalse 40 = .ok (.invokevirtual 280, 3) := by decide +kernel
theorem dX10_fewestFalse_43 : decode cX10_fewestFalse 43 = .ok (.ifCond .eq 5, 3) := by decide +kernel
theorem dX10_fewestFalse_46 : decode cX10_fewestFalse 46 = .ok (.iload_n 2, 1) := by decide +kernel
theorem dX10_fewestFalse_47 : decode cX10_fewestFalse 47 = .ok (.istore_n 1, 1) := by decide +kernel
theorem dX10_fewestFalse_48 : decode cX10_fewestFalse 48 = .ok (.iinc 2 1, 3) := by decide +kernel
theorem dX10_fewestFalse_51 : decode cX10_fewestFalse 51 = .ok (.goto (-37), 3) := by decide +kernel
theorem dX10_fewestFalse_54 : decode cX10_fewestFalse 54 = .ok (.iload_n 1, 1) := by decide +kernel
theorem dX10_fewestFalse_55 : decode cX10_fewestFalse 55 = .ok (.ireturn, 1) := by decide +kernel
theorem dX10_leavesNoClash_0 : decode cX10_leavesNoClash 0 = .ok (.iconst 0, 1) := by decide +kernel
theorem dX10_leavesNoClash_1 : decode cX10_leavesNoClash 1 = .ok (.istore_n 2, 1) := by decide +kernel
theorem dX10_leavesNoClash_2 : decode cX10_leavesNoClash 2 = .ok (.iload_n 2, 1) := by decide +kernel
theorem dX10_leavesNoClash_3 : decode cX10_leavesNoClash 3 = .ok (.aload_n 0, 1) := by decide +kernel
theorem dX10_leavesNoClash_4 : decode cX10_leavesNoClash 4 = .ok (.getfield 73, 3) := by decide +kernel
theorem dX10_leavesNoClash_7 : decode cX10_leavesNoClash 7 = .ok (.getfield 255, 3) := by decide +kernel
theorem dX10_leavesNoClash_10 : decode cX10_leavesNoClash 10 = .ok (.if_icmp .ge 32, 3) := by decide +kernel
theorem dX10_leavesNoClash_13 : decode cX10_leavesNoClash 13 = .ok (.iload_n 1, 1) := by decide +kernel
theorem dX10_leavesNoClash_14 : decode cX10_leavesNoClash 14 = .ok (.iload_n 2, 1) := by decide +kernel
theorem dX10_leavesNoClash_15 : decode cX10_leavesNoClash 15 = .ok (.invokestatic 138, 3) := by decide +kernel
theorem dX10_leavesNoClash_18 : decode cX10_leavesNoClash 18 = .ok (.ifCond .ne 18, 3) := by decide +kernel
theorem dX10_leavesNoClash_21 : decode cX10_leavesNoClash 21 = .ok (.aload_n 0, 1) := by decide +kernel
theorem dX10_leavesNoClash_22 : decode cX10_leavesNoClash 22 = .ok (.getfield 60, 3) := by decide +kernel
theorem dX10_leavesNoClash_25 : decode cX10_leavesNoClash 25 = .ok (.iload_n 2, 1) := by decide +kernel
theorem dX10_leavesNoClash_26 : decode cX10_leavesNoClash 26 = .ok (.iaload, 1) := by decide +kernel
theorem dX10_leavesNoClash_27 : decode cX10_leavesNoClash 27 = .ok (.iload_n 1, 1) := by decide +kernel
theorem dX10_leavesNoClash_28 : decode cX10_leavesNoClash 28 = .ok (.iconst (-1), 1) := by decide +kernel
theorem dX10_leavesNoClash_29 : decode cX10_leavesNoClash 29 = .ok (.ixor, 1) := by decide +kernel
theorem dX10_leavesNoClash_30 : decode cX10_leavesNoClash 30 = .ok (.iand, 1) := by decide +kernel
theorem dX10_leavesNoClash_31 : decode cX10_leavesNoClash 31 = .ok (.ifCond .eq 5, 3) := by decide +kernel
theorem dX10_leavesNoClash_34 : decode cX10_leavesNoClash 34 = .ok (.iconst 0, 1) := by decide +kernel
theorem dX10_leavesNoClash_35 : decode cX10_leavesNoClash 35 = .ok (.ireturn, 1) := by decide +kernel
theorem dX10_leavesNoClash_36 : decode cX10_leavesNoClash 36 = .ok (.iinc 2 1, 3) := by decide +kernel
theorem dX10_leavesNoClash_39 : decode cX10_leavesNoClash 39 = .ok (.goto (-37), 3) := by decide +kernel
theorem dX10_leavesNoClash_42 : decode cX10_leavesNoClash 42 = .ok (.iconst 1, 1) := by decide +kernel
theorem dX10_leavesNoClash_43 : decode cX10_leavesNoClash 43 = .ok (.ireturn, 1) := by decide +kernel
theorem dX10_bandHeld_0 : decode cX10_bandHeld 0 = .ok (.iload_n 1, 1) := by decide +kernel
theorem dX10_bandHeld_1 : decode cX10_bandHeld 1 = .ok (.iload_n 2, 1) := by decide +kernel
theorem dX10_bandHeld_2 : decode cX10_bandHeld 2 = .ok (.invokestatic 138, 3) := by decide +kernel
theorem dX10_bandHeld_5 : decode cX10_bandHeld 5 = .ok (.istore_n 3, 1) := by decide +kernel
theorem dX10_bandHeld_6 : decode cX10_bandHeld 6 = .ok (.iload_n 3, 1) := by decide +kernel
theorem dX10_bandHeld_7 : decode cX10_bandHeld 7 = .ok (.iconst 1, 1) := by decide +kernel
theorem dX10_bandHeld_8 : decode cX10_bandHeld 8 = .ok (.if_icmp .ne 17, 3) := by decide +kernel
theorem dX10_bandHeld_11 : decode cX10_bandHeld 11 = .ok (.aload_n 0, 1) := by decide +kernel
theorem dX10_bandHeld_12 : decode cX10_bandHeld 12 = .ok (.getfield 19, 3) := by decide +kernel
theorem dX10_bandHeld_15 : decode cX10_bandHeld 15 = .ok (.getfield 117, 3) := by decide +kernel
theorem dX10_bandHeld_18 : decode cX10_bandHeld 18 = .ok (.iload_n 2, 1) := by decide +kernel
theorem dX10_bandHeld_19 : decode cX10_bandHeld 19 = .ok (.iaload, 1) := by decide +kernel
theorem dX10_bandHeld_20 : decode cX10_bandHeld 20 = .ok (.iconst 2, 1) := by decide +kernel
theorem dX10_bandHeld_21 : decode cX10_bandHeld 21 = .ok (.idiv, 1) := by decide +kernel
theorem dX10_bandHeld_22 : decode cX10_bandHeld 22 = .ok (.goto 12, 3) := by decide +kernel
theorem dX10_bandHeld_25 : decode cX10_bandHeld 25 = .ok (.aload_n 0, 1) := by decide +kernel
theorem dX10_bandHeld_26 : decode cX10_bandHeld 26 = .ok (.getfield 19, 3) := by decide +kernel
theorem dX10_bandHeld_29 : decode cX10_bandHeld 29 = .ok (.getfield 117, 3) := by decide +kernel
theorem dX10_bandHeld_32 : decode cX10_bandHeld 32 = .ok (.iload_n 2, 1) := by decide +kernel
theorem dX10_bandHeld_33 : decode cX10_bandHeld 33 = .ok (.iaload, 1) := by decide +kernel
theorem dX10_bandHeld_34 : decode cX10_bandHeld 34 = .ok (.istore 4, 2) := by decide +kernel
theorem dX10_bandHeld_36 : decode cX10_bandHeld 36 = .ok (.iload 4, 2) := by decide +kernel
theorem dX10_bandHeld_38 : decode cX10_bandHeld 38 = .ok (.iconst 3, 1) := by decide +kernel
theorem dX10_bandHeld_39 : decode cX10_bandHeld 39 = .ok (.iload_n 1, 1) := by decide +kernel
theorem dX10_bandHeld_40 : decode cX10_bandHeld 40 = .ok (.invokestatic 275, 3) := by decide +kernel
theorem dX10_bandHeld_43 : decode cX10_bandHeld 43 = .ok (.iload_n 3, 1) := by decide +kernel
theorem dX10_bandHeld_44 : decode cX10_bandHeld 44 = .ok (.isub, 1) := by decide +kernel
theorem dX10_bandHeld_45 : decode cX10_bandHeld 45 = .ok (.imul, 1) := by decide +kernel
theorem dX10_bandHeld_46 : decode cX10_bandHeld 46 = .ok (.iadd, 1) := by decide +kernel
theorem dX10_bandHeld_47 : decode cX10_bandHeld 47 = .ok (.ireturn, 1) := by decide +kernel
theorem dX10_bandDays_0 : decode cX10_bandDays 0 = .ok (.iconst 0, 1) := by decide +kernel
theorem dX10_bandDays_1 : decode cX10_bandDays 1 = .ok (.istore_n 3, 1) := by decide +kernel
theorem dX10_bandDays_2 : decode cX10_bandDays 2 = .ok (.iconst 0, 1) := by decide +kernel
theorem dX10_bandDays_3 : decode cX10_bandDays 3 = .ok (.istore 4, 2) := by decide +kernel
theorem dX10_bandDays_5 : decode cX10_bandDays 5 = .ok (.iload 4, 2) := by decide +kernel
theorem dX10_bandDays_7 : decode cX10_bandDays 7 = .ok (.aload_n 0, 1) := by decide +kernel
theorem dX10_bandDays_8 : decode cX10_bandDays 8 = .ok (.getfield 73, 3) := by decide +kernel
theorem dX10_bandDays_11 : decode cX10_bandDays 11 = .ok (.getfield 219, 3) := by decide +kernel
theorem dX10_bandDays_14 : decode cX10_bandDays 14 = .ok (.if_icmp .ge 19, 3) := by decide +kernel
theorem dX10_bandDays_17 : decode cX10_bandDays 17 = .ok (.iload_n 3, 1) := by decide +kernel
theorem dX10_bandDays_18 : decode cX10_bandDays 18 = .ok (.aload_n 0, 1) := by decide +kernel
theorem dX10_bandDays_19 : decode cX10_bandDays 19 = .ok (.iload_n 1, 1) := by decide +kernel
theorem dX10_bandDays_20 : decode cX10_bandDays 20 = .ok (.iload 4, 2) := by decide +kernel
theorem dX10_bandDays_22 : decode cX10_bandDays 22 = .ok (.invokevirtual 283, 3) := by decide +kernel
theorem dX10_bandDays_25 : decode cX10_bandDays 25 = .ok (.iadd, 1) := by decide +kernel
theorem dX10_bandDays_26 : decode cX10_bandDays 26 = .ok (.istore_n 3, 1) := by decide +kernel
theorem dX10_bandDays_27 : decode cX10_bandDays 27 = .ok (.iinc 4 1, 3) := by decide +kernel
theorem dX10_bandDays_30 : decode cX10_bandDays 30 = .ok (.goto (-25), 3) := by decide +kernel
theorem dX10_bandDays_33 : decode cX10_bandDays 33 = .ok (.iload_n 3, 1) := by decide +kernel
theorem dX10_bandDays_34 : decode cX10_bandDays 34 = .ok (.ifCond .ne 7, 3) := by decide +kernel
theorem dX10_bandDays_37 : decode cX10_bandDays 37 = .ok (.iconst 0, 1) := by decide +kernel
theorem dX10_bandDays_38 : decode cX10_bandDays 38 = .ok (.goto 19, 3) := by decide +kernel
theorem dX10_bandDays_41 : decode cX10_bandDays 41 = .ok (.aload_n 0, 1) := by decide +kernel
theorem dX10_bandDays_42 : decode cX10_bandDays 42 = .ok (.getfield 26, 3) := by decide +kernel
theorem dX10_bandDays_45 : decode cX10_bandDays 45 = .ok (.getfield 171, 3) := by decide +kernel
theorem dX10_bandDays_48 : decode cX10_bandDays 48 = .ok (.aload_n 0, 1) := by decide +kernel
theorem dX10_bandDays_49 : decode cX10_bandDays 49 = .ok (.iload_n 1, 1) := by decide +kernel
theorem dX10_bandDays_50 : decode cX10_bandDays 50 = .ok (.iload_n 2, 1) := by decide +kernel
theorem dX10_bandDays_51 : decode cX10_bandDays 51 = .ok (.invokevirtual 283, 3) := by decide +kernel
theorem dX10_bandDays_54 : decode cX10_bandDays 54 = .ok (.imul, 1) := by decide +kernel
theorem dX10_bandDays_55 : decode cX10_bandDays 55 = .ok (.iload_n 3, 1) := by decide +kernel
theorem dX10_bandDays_56 : decode cX10_bandDays 56 = .ok (.idiv, 1) := by decide +kernel
theorem dX10_bandDays_57 : decode cX10_bandDays 57 = .ok (.ireturn, 1) := by decide +kernel
theorem dX10_firstGainer_0 : decode cX10_firstGainer 0 = .ok (.iconst 0, 1) := by decide +kernel
theorem dX10_firstGainer_1 : decode cX10_firstGainer 1 = .ok (.istore_n 2, 1) := by decide +kernel
theorem dX10_firstGainer_2 : decode cX10_firstGainer 2 = .ok (.iload_n 2, 1) := by decide +kernel
theorem dX10_firstGainer_3 : decode cX10_firstGainer 3 = .ok (.aload_n 0, 1) := by decide +kernel
theorem dX10_firstGainer_4 : decode cX10_firstGainer 4 = .ok (.getfield 73, 3) := by decide +kernel
theorem dX10_firstGainer_7 : decode cX10_firstGainer 7 = .ok (.getfield 219, 3) := by decide +kernel
theorem dX10_firstGainer_10 : decode cX10_firstGainer 10 = .ok (.if_icmp .ge 30, 3) := by decide +kernel
theorem dX10_firstGainer_13 : decode cX10_firstGainer 13 = .ok (.aload_n 0, 1) := by decide +kernel
theorem dX10_firstGainer_14 : decode cX10_firstGainer 14 = .ok (.iload_n 1, 1) := by decide +kernel
theorem dX10_firstGainer_15 : decode cX10_firstGainer 15 = .ok (.iconst 1, 1) := by decide +kernel
theorem dX10_firstGainer_16 : decode cX10_firstGainer 16 = .ok (.iload_n 2, 1) := by decide +kernel
theorem dX10_firstGainer_17 : decode cX10_firstGainer 17 = .ok (.ishl, 1) := by decide +kernel
theorem dX10_firstGainer_18 : decode cX10_firstGainer 18 = .ok (.ixor, 1) := by decide +kernel
theorem dX10_firstGainer_19 : decode cX10_firstGainer 19 = .ok (.iload_n 2, 1) := by decide +kernel
theorem dX10_firstGainer_20 : decode cX10_firstGainer 20 = .ok (.invokevirtual 286, 3) := by decide +kernel
theorem dX10_firstGainer_23 : decode cX10_firstGainer 23 = .ok (.aload_n 0, 1) := by decide +kernel
theorem dX10_firstGainer_24 : decode cX10_firstGainer 24 = .ok (.iload_n 1, 1) := by decide +kernel
theorem dX10_firstGainer_25 : decode cX10_firstGainer 25 = .ok (.iload_n 2, 1) := by decide +kernel
theorem dX10_firstGainer_26 : decode cX10_firstGainer 26 = .ok (.invokevirtual 286, 3) := by decide +kernel
theorem dX10_firstGainer_29 : decode cX10_firstGainer 29 = .ok (.if_icmp .ge 5, 3) := by decide +kernel
theorem dX10_firstGainer_32 : decode cX10_firstGainer 32 = .ok (.iload_n 2, 1) := by decide +kernel
theorem dX10_firstGainer_33 : decode cX10_firstGainer 33 = .ok (.ireturn, 1) := by decide +kernel
theorem dX10_firstGainer_34 : decode cX10_firstGainer 34 = .ok (.iinc 2 1, 3) := by decide +kernel
theorem dX10_firstGainer_37 : decode cX10_firstGainer 37 = .ok (.goto (-35), 3) := by decide +kernel
theorem dX10_firstGainer_40 : decode cX10_firstGainer 40 = .ok (.bipush (-9), 2) := by decide +kernel
theorem dX10_firstGainer_42 : decode cX10_firstGainer 42 = .ok (.ireturn, 1) := by decide +kernel
theorem dX10_cellsNeeded_0 : decode cX10_cellsNeeded 0 = .ok (.iconst 0, 1) := by decide +kernel
theorem dX10_cellsNeeded_1 : decode cX10_cellsNeeded 1 = .ok (.istore_n 2, 1) := by decide +kernel
theorem dX10_cellsNeeded_2 : decode cX10_cellsNeeded 2 = .ok (.iload_n 2, 1) := by decide +kernel
theorem dX10_cellsNeeded_3 : decode cX10_cellsNeeded 3 = .ok (.aload_n 0, 1) := by decide +kernel
theorem dX10_cellsNeeded_4 : decode cX10_cellsNeeded 4 = .ok (.getfield 73, 3) := by decide +kernel
theorem dX10_cellsNeeded_7 : decode cX10_cellsNeeded 7 = .ok (.getfield 219, 3) := by decide +kernel
theorem dX10_cellsNeeded_10 : decode cX10_cellsNeeded 10 = .ok (.if_icmp .ge 25, 3) := by decide +kernel
theorem dX10_cellsNeeded_13 : decode cX10_cellsNeeded 13 = .ok (.aload_n 0, 1) := by decide +kernel
theorem dX10_cellsNeeded_14 : decode cX10_cellsNeeded 14 = .ok (.getfield 19, 3) := by decide +kernel
theorem dX10_cellsNeeded_17 : decode cX10_cellsNeeded 17 = .ok (.getfield 120, 3) := by decide +kernel
theorem dX10_cellsNeeded_20 : decode cX10_cellsNeeded 20 = .ok (.iload_n 2, 1) := by decide +kernel
theorem dX10_cellsNeeded_21 : decode cX10_cellsNeeded 21 = .ok (.iaload, 1) := by decide +kernel
theorem dX10_cellsNeeded_22 : decode cX10_cellsNeeded 22 = .ok (.iload_n 1, 1) := by decide +kernel
theorem dX10_cellsNeeded_23 : decode cX10_cellsNeeded 23 = .ok (.if_icmp .le 6, 3) := by decide +kernel
theorem dX10_cellsNeeded_26 : decode cX10_cellsNeeded 26 = .ok (.bipush (-9), 2) := by decide +kernel
theorem dX10_cellsNeeded_28 : decode cX10_cellsNeeded 28 = .ok (.ireturn, 1) := by decide +kernel
theorem dX10_cellsNeeded_29 : decode cX10_cellsNeeded 29 = .ok (.iinc 2 1, 3) := by decide +kernel
theorem dX10_cellsNeeded_32 : decode cX10_cellsNeeded 32 = .ok (.goto (-30), 3) := by decide +kernel
theorem dX10_cellsNeeded_35 : decode cX10_cellsNeeded 35 = .ok (.aload_n 0, 1) := by decide +kernel
theorem dX10_cellsNeeded_36 : decode cX10_cellsNeeded 36 = .ok (.getfield 19, 3) := by decide +kernel
theorem dX10_cellsNeeded_39 : decode cX10_cellsNeeded 39 = .ok (.invokevirtual 184, 3) := by decide +kernel
theorem dX10_cellsNeeded_42 : decode cX10_cellsNeeded 42 = .ok (.iload_n 1, 1) := by decide +kernel
theorem dX10_cellsNeeded_43 : decode cX10_cellsNeeded 43 = .ok (.iadd, 1) := by decide +kernel
theorem dX10_cellsNeeded_44 : decode cX10_cellsNeeded 44 = .ok (.iconst 1, 1) := by decide +kernel
theorem dX10_cellsNeeded_45 : decode cX10_cellsNeeded 45 = .ok (.isub, 1) := by decide +kernel
theorem dX10_cellsNeeded_46 : decode cX10_cellsNeeded 46 = .ok (.iload_n 1, 1) := by decide +kernel
theorem dX10_cellsNeeded_47 : decode cX10_cellsNeeded 47 = .ok (.idiv, 1) := by decide +kernel
theorem dX10_cellsNeeded_48 : decode cX10_cellsNeeded 48 = .ok (.ireturn, 1) := by decide +kernel
theorem dX10_wrongTo_0 : decode cX10_wrongTo 0 = .ok (.aload_n 0, 1) := by decide +kernel
theorem dX10_wrongTo_1 : decode cX10_wrongTo 1 = .ok (.getfield 26, 3) := by decide +kernel
theorem dX10_wrongTo_4 : decode cX10_wrongTo 4 = .ok (.getfield 171, 3) := by decide +kernel
theorem dX10_wrongTo_7 : decode cX10_wrongTo 7 = .ok (.aload_n 0, 1) := by decide +kernel
theorem dX10_wrongTo_8 : decode cX10_wrongTo 8 = .ok (.getfield 26, 3) := by decide +kernel
theorem dX10_wrongTo_11 : decode cX10_wrongTo 11 = .ok (.getfield 171, 3) := by decide +kernel
theorem dX10_wrongTo_14 : decode cX10_wrongTo 14 = .ok (.aload_n 0, 1) := by decide +kernel
theorem dX10_wrongTo_15 : decode cX10_wrongTo 15 = .ok (.getfield 19, 3) := by decide +kernel
theorem dX10_wrongTo_18 : decode cX10_wrongTo 18 = .ok (.getfield 117, 3) := by decide +kernel
theorem dX10_wrongTo_21 : decode cX10_wrongTo 21 = .ok (.iload_n 1, 1) := by decide +kernel
theorem dX10_wrongTo_22 : decode cX10_wrongTo 22 = .ok (.iaload, 1) := by decide +kernel
theorem dX10_wrongTo_23 : decode cX10_wrongTo 23 = .ok (.imul, 1) := by decide +kernel
theorem dX10_wrongTo_24 : decode cX10_wrongTo 24 = .ok (.bipush 20, 2) := by decide +kernel
theorem dX10_wrongTo_26 : decode cX10_wrongTo 26 = .ok (.idiv, 1) := by decide +kernel
theorem dX10_wrongTo_27 : decode cX10_wrongTo 27 = .ok (.invokestatic 289, 3) := by decide +kernel
theorem dX10_wrongTo_30 : decode cX10_wrongTo 30 = .ok (.istore_n 2, 1) := by decide +kernel
theorem dX10_wrongTo_31 : decode cX10_wrongTo 31 = .ok (.aload_n 0, 1) := by decide +kernel
theorem dX10_wrongTo_32 : decode cX10_wrongTo 32 = .ok (.getfield 19, 3) := by decide +kernel
theorem dX10_wrongTo_35 : decode cX10_wrongTo 35 = .ok (.getfield 120, 3) := by decide +kernel
theorem dX10_wrongTo_38 : decode cX10_wrongTo 38 = .ok (.iload_n 1, 1) := by decide +kernel
theorem dX10_wrongTo_39 : decode cX10_wrongTo 39 = .ok (.iaload, 1) := by decide +kernel
theorem dX10_wrongTo_40 : decode cX10_wrongTo 40 = .ok (.iload_n 2, 1) := by decide +kernel
theorem dX10_wrongTo_41 : decode cX10_wrongTo 41 = .ok (.isub, 1) := by decide +kernel
theorem dX10_wrongTo_42 : decode cX10_wrongTo 42 = .ok (.ireturn, 1) := by decide +kernel
theorem dX10_fitsBook_0 : decode cX10_fitsBook 0 = .ok (.aload_n 0, 1) := by decide +kernel
theorem dX10_fitsBook_1 : decode cX10_fitsBook 1 = .ok (.getfield 19, 3) := by decide +kernel
theorem dX10_fitsBook_4 : decode cX10_fitsBook 4 = .ok (.aload_n 0, 1) := by decide +kernel
theorem dX10_fitsBook_5 : decode cX10_fitsBook 5 = .ok (.getfield 73, 3) := by decide +kernel
theorem dX10_fitsBook_8 : decode cX10_fitsBook 8 = .ok (.iload_n 1, 1) := by decide +kernel
theorem dX10_fitsBook_9 : decode cX10_fitsBook 9 = .ok (.invokevirtual 260, 3) := by decide +kernel
theorem dX10_fitsBook_12 : decode cX10_fitsBook 12 = .ok (.aload_n 0, 1) := by decide +kernel
theorem dX10_fitsBook_13 : decode cX10_fitsBook 13 = .ok (.getfield 19, 3) := by decide +kernel
theorem dX10_fitsBook_16 : decode cX10_fitsBook 16 = .ok (.aload_n 0, 1) := by decide +kernel
theorem dX10_fitsBook_17 : decode cX10_fitsBook 17 = .ok (.getfield 26, 3) := by decide +kernel
theorem dX10_fitsBook_20 : decode cX10_fitsBook 20 = .ok (.getfield 171, 3) := by decide +kernel
theorem dX10_fitsBook_23 : decode cX10_fitsBook 23 = .ok (.invokevirtual 263, 3) := by decide +kernel
theorem dX10_fitsBook_26 : decode cX10_fitsBook 26 = .ok (.iconst 0, 1) := by decide +kernel
theorem dX10_fitsBook_27 : decode cX10_fitsBook 27 = .ok (.istore_n 2, 1) := by decide +kernel
theorem dX10_fitsBook_28 : decode cX10_fitsBook 28 = .ok (.iload_n 2, 1) := by decide +kernel
theorem dX10_fitsBook_29 : decode cX10_fitsBook 29 = .ok (.aload_n 0, 1) := by decide +kernel
theorem dX10_fitsBook_30 : decode cX10_fitsBook 30 = .ok (.getfield 104, 3) := by decide +kernel
theorem dX10_fitsBook_33 : decode cX10_fitsBook 33 = .ok (.if_icmp .ge 34, 3) := by decide +kernel
theorem dX10_fitsBook_36 : decode cX10_fitsBook 36 = .ok (.aload_n 0, 1) := by decide +kernel
theorem dX10_fitsBook_37 : decode cX10_fitsBook 37 = .ok (.getfield 19, 3) := by decide +kernel
theorem dX10_fitsBook_40 : decode cX10_fitsBook 40 = .ok (.getfield 120, 3) := by decide +kernel
theorem dX10_fitsBook_43 : decode cX10_fitsBook 43 = .ok (.aload_n 0, 1) := by decide +kernel
theorem dX10_fitsBook_44 : decode cX10_fitsBook 44 = .ok (.getfield 64, 3) := by decide +kernel
theorem dX10_fitsBook_47 : decode cX10_fitsBook 47 = .ok (.iload_n 2, 1) := by decide +kernel
theorem dX10_fitsBook_48 : decode cX10_fitsBook 48 = .ok (.iaload, 1) := by decide +kernel
theorem dX10_fitsBook_49 : decode cX10_fitsBook 49 = .ok (.iaload, 1) := by decide +kernel
theorem dX10_fitsBook_50 : decode cX10_fitsBook 50 = .ok (.aload_n 0, 1) := by decide +kernel
theorem dX10_fitsBook_51 : decode cX10_fitsBook 51 = .ok (.getfield 67, 3) := by decide +kernel
theorem dX10_fitsBook_54 : decode cX10_fitsBook 54 = .ok (.iload_n 2, 1) := by decide +kernel
theorem dX10_fitsBook_55 : decode cX10_fitsBook 55 = .ok (.iaload, 1) := by decide +kernel
theorem dX10_fitsBook_56 : decode cX10_fitsBook 56 = .ok (.if_icmp .eq 5, 3) := by decide +kernel
theorem dX10_fitsBook_59 : decode cX10_fitsBook 59 = .ok (.iconst 0, 1) := by decide +kernel
theorem dX10_fitsBook_60 : decode cX10_fitsBook 60 = .ok (.ireturn, 1) := by decide +kernel
theorem dX10_fitsBook_61 : decode cX10_fitsBook 61 = .ok (.iinc 2 1, 3) := by decide +kernel
theorem dX10_fitsBook_64 : decode cX10_fitsBook 64 = .ok (.goto (-36), 3) := by decide +kernel
theorem dX10_fitsBook_67 : decode cX10_fitsBook 67 = .ok (.iconst 1, 1) := by decide +kernel
theorem dX10_fitsBook_68 : decode cX10_fitsBook 68 = .ok (.ireturn, 1) := by decide +kernel
