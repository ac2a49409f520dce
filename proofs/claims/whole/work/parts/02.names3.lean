theorem dX11_init_0 : decode cX11_init 0 = .ok (.aload_n 0, 1) := by decide +kernel
theorem dX11_init_1 : decode cX11_init 1 = .ok (.invokespecial 1, 3) := by decide +kernel
theorem dX11_init_4 : decode cX11_init 4 = .ok (.aload_n 0, 1) := by decide +kernel
theorem dX11_init_5 : decode cX11_init 5 = .ok (.sipush 200, 3) := by decide +kernel
theorem dX11_init_8 : decode cX11_init 8 = .ok (.newarray .byte, 2) := by decide +kernel
theorem dX11_init_10 : decode cX11_init 10 = .ok (.putfield 7, 3) := by decide +kernel
theorem dX11_init_13 : decode cX11_init 13 = .ok (.aload_n 0, 1) := by decide +kernel
theorem dX11_init_14 : decode cX11_init 14 = .ok (.iconst 2, 1) := by decide +kernel
theorem dX11_init_15 : decode cX11_init 15 = .ok (.newarray .int, 2) := by decide +kernel
theorem dX11_init_17 : decode cX11_init 17 = .ok (.putfield 13, 3) := by decide +kernel
theorem dX11_init_20 : decode cX11_init 20 = .ok (.aload_n 0, 1) := by decide +kernel
theorem dX11_init_21 : decode cX11_init 21 = .ok (.bipush 12, 2) := by decide +kernel
theorem dX11_init_23 : decode cX11_init 23 = .ok (.newarray .int, 2) := by decide +kernel
theorem dX11_init_25 : decode cX11_init 25 = .ok (.putfield 17, 3) := by decide +kernel
theorem dX11_init_28 : decode cX11_init 28 = .ok (.aload_n 0, 1) := by decide +kernel
theorem dX11_init_29 : decode cX11_init 29 = .ok (.iconst 2, 1) := by decide +kernel
theorem dX11_init_30 : decode cX11_init 30 = .ok (.newarray .int, 2) := by decide +kernel
theorem dX11_init_32 : decode cX11_init 32 = .ok (.putfield 20, 3) := by decide +kernel
theorem dX11_init_35 : decode cX11_init 35 = .ok (.aload_n 0, 1) := by decide +kernel
theorem dX11_init_36 : decode cX11_init 36 = .ok (.bipush 16, 2) := by decide +kernel
theorem dX11_init_38 : decode cX11_init 38 = .ok (.newarray .int, 2) := by decide +kernel
theorem dX11_init_40 : decode cX11_init 40 = .ok (.putfield 23, 3) := by decide +kernel
theorem dX11_init_43 : decode cX11_init 43 = .ok (.aload_n 0, 1) := by decide +kernel
theorem dX11_init_44 : decode cX11_init 44 = .ok (.bipush 16, 2) := by decide +kernel
theorem dX11_init_46 : decode cX11_init 46 = .ok (.newarray .int, 2) := by decide +kernel
theorem dX11_init_48 : decode cX11_init 48 = .ok (.putfield 26, 3) := by decide +kernel
theorem dX11_init_51 : decode cX11_init 51 = .ok (.aload_n 0, 1) := by decide +kernel
theorem dX11_init_52 : decode cX11_init 52 = .ok (.bipush 96, 2) := by decide +kernel
theorem dX11_init_54 : decode cX11_init 54 = .ok (.newarray .int, 2) := by decide +kernel
theorem dX11_init_56 : decode cX11_init 56 = .ok (.putfield 29, 3) := by decide +kernel
theorem dX11_init_59 : decode cX11_init 59 = .ok (.aload_n 0, 1) := by decide +kernel
theorem dX11_init_60 : decode cX11_init 60 = .ok (.iconst 2, 1) := by decide +kernel
theorem dX11_init_61 : decode cX11_init 61 = .ok (.newarray .int, 2) := by decide +kernel
theorem dX11_init_63 : decode cX11_init 63 = .ok (.putfield 32, 3) := by decide +kernel
theorem dX11_init_66 : decode cX11_init 66 = .ok (.aload_n 0, 1) := by decide +kernel
theorem dX11_init_67 : decode cX11_init 67 = .ok (.bipush 16, 2) := by decide +kernel
theorem dX11_init_69 : decode cX11_init 69 = .ok (.newarray .int, 2) := by decide +kernel
theorem dX11_init_71 : decode cX11_init 71 = .ok (.putfield 35, 3) := by decide +kernel
theorem dX11_init_74 : decode cX11_init 74 = .ok (.aload_n 0, 1) := by decide +kernel
theorem dX11_init_75 : decode cX11_init 75 = .ok (.bipush 16, 2) := by decide +kernel
theorem dX11_init_77 : decode cX11_init 77 = .ok (.newarray .int, 2) := by decide +kernel
theorem dX11_init_79 : decode cX11_init 79 = .ok (.putfield 38, 3) := by decide +kernel
theorem dX11_init_82 : decode cX11_init 82 = .ok (.aload_n 0, 1) := by decide +kernel
theorem dX11_init_83 : decode cX11_init 83 = .ok (.bipush 16, 2) := by decide +kernel
theorem dX11_init_85 : decode cX11_init 85 = .ok (.newarray .int, 2) := by decide +kernel
theorem dX11_init_87 : decode cX11_init 87 = .ok (.putfield 41, 3) := by decide +kernel
theorem dX11_init_90 : decode cX11_init 90 = .ok (.aload_n 0, 1) := by decide +kernel
theorem dX11_init_91 : decode cX11_init 91 = .ok (.bipush 16, 2) := by decide +kernel
theorem dX11_init_93 : decode cX11_init 93 = .ok (.newarray .int, 2) := by decide +kernel
theorem dX11_init_95 : decode cX11_init 95 = .ok (.putfield 44, 3) := by decide +kernel
theorem dX11_init_98 : decode cX11_init 98 = .ok (.aload_n 0, 1) := by decide +kernel
theorem dX11_init_99 : decode cX11_init 99 = .ok (.iconst 2, 1) := by decide +kernel
theorem dX11_init_100 : decode cX11_init 100 = .ok (.newarray .int, 2) := by decide +kernel
theorem dX11_init_102 : decode cX11_init 102 = .ok (.putfield 47, 3) := by decide +kernel
theorem dX11_init_105 : decode cX11_init 105 = .ok (.aload_n 0, 1) := by decide +kernel
theorem dX11_init_106 : decode cX11_init 106 = .ok (.iconst 2, 1) := by decide +kernel
theorem dX11_init_107 : decode cX11_init 107 = .ok (.newarray .int, 2) := by decide +kernel
theorem dX11_init_109 : decode cX11_init 109 = .ok (.putfield 50, 3) := by decide +kernel
theorem dX11_init_112 : decode cX11_init 112 = .ok (.aload_n 0, 1) := by decide +kernel
theorem dX11_init_113 : decode cX11_init 113 = .ok (.bipush 102, 2) := by decide +kernel
theorem dX11_init_115 : decode cX11_init 115 = .ok (.newarray .int, 2) := by decide +kernel
theorem dX11_init_117 : decode cX11_init 117 = .ok (.putfield 53, 3) := by decide +kernel
theorem dX11_init_120 : decode cX11_init 120 = .ok (.aload_n 0, 1) := by decide +kernel
theorem dX11_init_121 : decode cX11_init 121 = .ok (.iconst 2, 1) := by decide +kernel
theorem dX11_init_122 : decode cX11_init 122 = .ok (.newarray .boolean, 2) := by decide +kernel
theorem dX11_init_124 : decode cX11_init 124 = .ok (.putfield 56, 3) := by decide +kernel
theorem dX11_init_127 : decode cX11_init 127 = .ok (.aload_n 0, 1) := by decide +kernel
theorem dX11_init_128 : decode cX11_init 128 = .ok (.bipush 6, 2) := by decide +kernel
theorem dX11_init_130 : decode cX11_init 130 = .ok (.newarray .int, 2) := by decide +kernel
theorem dX11_init_132 : decode cX11_init 132 = .ok (.putfield 60, 3) := by decide +kernel
theorem dX11_init_135 : decode cX11_init 135 = .ok (.aload_n 0, 1) := by decide +kernel
theorem dX11_init_136 : decode cX11_init 136 = .ok (.bipush 6, 2) := by decide +kernel
theorem dX11_init_138 : decode cX11_init 138 = .ok (.newarray .int, 2) := by decide +kernel
theorem dX11_init_140 : decode cX11_init 140 = .ok (.putfield 63, 3) := by decide +kernel
theorem dX11_init_143 : decode cX11_init 143 = .ok (.aload_n 0, 1) := by decide +kernel
theorem dX11_init_144 : decode cX11_init 144 = .ok (.bipush 6, 2) := by decide +kernel
theorem dX11_init_146 : decode cX11_init 146 = .ok (.newarray .int, 2) := by decide +kernel
theorem dX11_init_148 : decode cX11_init 148 = .ok (.putfield 66, 3) := by decide +kernel
theorem dX11_init_151 : decode cX11_init 151 = .ok (.aload_n 0, 1) := by decide +kernel
theorem dX11_init_152 : decode cX11_init 152 = .ok (.bipush 6, 2) := by decide +kernel
theorem dX11_init_154 : decode cX11_init 154 = .ok (.newarray .int, 2) := by decide +kernel
theorem dX11_init_156 : decode cX11_init 156 = .ok (.putfield 69, 3) := by decide +kernel
theorem dX11_init_159 : decode cX11_init 159 = .ok (.aload_n 0, 1) := by decide +kernel
theorem dX11_init_160 : decode cX11_init 160 = .ok (.getfield 47, 3) := by decide +kernel
theorem dX11_init_163 : decode cX11_init 163 = .ok (.iconst 0, 1) := by decide +kernel
theorem dX11_init_164 : decode cX11_init 164 = .ok (.bipush 8, 2) := by decide +kernel
theorem dX11_init_166 : decode cX11_init 166 = .ok (.iastore, 1) := by decide +kernel
theorem dX11_init_167 : decode cX11_init 167 = .ok (.aload_n 0, 1) := by decide +kernel
theorem dX11_init_168 : decode cX11_init 168 = .ok (.getfield 50, 3) := by decide +kernel
theorem dX11_init_171 : decode cX11_init 171 = .ok (.iconst 0, 1) := by decide +kernel
theorem dX11_init_172 : decode cX11_init 172 = .ok (.bipush 15, 2) := by decide +kernel
theorem dX11_init_174 : decode cX11_init 174 = .ok (.iastore, 1) := by decide +kernel
theorem dX11_init_175 : decode cX11_init 175 = .ok (.aload_n 0, 1) := by decide +kernel
theorem dX11_init_176 : decode cX11_init 176 = .ok (.getfield 53, 3) := by decide +kernel
theorem dX11_init_179 : decode cX11_init 179 = .ok (.iconst 2, 1) := by decide +kernel
theorem dX11_init_180 : decode cX11_init 180 = .ok (.bipush 10, 2) := by decide +kernel
theorem dX11_init_182 : decode cX11_init 182 = .ok (.iastore, 1) := by decide +kernel
theorem dX11_init_183 : decode cX11_init 183 = .ok (.return_, 1) := by decide +kernel
theorem dX11_in_0 : decode cX11_in 0 = .ok (.iload_n 0, 1) := by decide +kernel
theorem dX11_in_1 : decode cX11_in 1 = .ok (.iload_n 1, 1) := by decide +kernel
theorem dX11_in_2 : decode cX11_in 2 = .ok (.if_icmp .lt 12, 3) := by decide +kernel
theorem dX11_in_5 : decode cX11_in 5 = .ok (.iload_n 0, 1) := by decide +kernel
theorem dX11_in_6 : decode cX11_in 6 = .ok (.iload_n 2, 1) := by decide +kernel
theorem dX11_in_7 : decode cX11_in 7 = .ok (.if_icmp .gt 7, 3) := by decide +kernel
theorem dX11_in_10 : decode cX11_in 10 = .ok (.iconst 1, 1) := by decide +kernel
theorem dX11_in_11 : decode cX11_in 11 = .ok (.goto 4, 3) := by decide +kernel
theorem dX11_in_14 : decode cX11_in 14 = .ok (.iconst 0, 1) := by decide +kernel
theorem dX11_in_15 : decode cX11_in 15 = .ok (.ireturn, 1) := by decide +kernel
theorem dX11_type_0 : decode cX11_type 0 = .ok (.iload_n 1, 1) := by decide +kernel
theorem dX11_type_1 : decode cX11_type 1 = .ok (.iconst 0, 1) := by decide +kernel
theorem dX11_type_2 : decode cX11_type 2 = .ok (.sipush 255, 3) := by decide +kernel
theorem dX11_type_5 : decode cX11_type 5 = .ok (.invokestatic 72, 3) := by decide +kernel
theorem dX11_type_8 : decode cX11_type 8 = .ok (.ifCond .ne 5, 3) := by decide +kernel
theorem dX11_type_11 : decode cX11_type 11 = .ok (.iconst (-1), 1) := by decide +kernel
theorem dX11_type_12 : decode cX11_type 12 = .ok (.ireturn, 1) := by decide +kernel
theorem dX11_type_13 : decode cX11_type 13 = .ok (.aload_n 0, 1) := by decide +kernel
theorem dX11_type_14 : decode cX11_type 14 = .ok (.getfield 76, 3) := by decide +kernel
theorem dX11_type_17 : decode cX11_type 17 = .ok (.sipush 200, 3) := by decide +kernel
theorem dX11_type_20 : decode cX11_type 20 = .ok (.if_icmp .ne 6, 3) := by decide +kernel
theorem dX11_type_23 : decode cX11_type 23 = .ok (.bipush (-3), 2) := by decide +kernel
theorem dX11_type_25 : decode cX11_type 25 = .ok (.ireturn, 1) := by decide +kernel
theorem dX11_type_26 : decode cX11_type 26 = .ok (.aload_n 0, 1) := by decide +kernel
theorem dX11_type_27 : decode cX11_type 27 = .ok (.getfield 7, 3) := by decide +kernel
theorem dX11_type_30 : decode cX11_type 30 = .ok (.aload_n 0, 1) := by decide +kernel
theorem dX11_type_31 : decode cX11_type 31 = .ok (.getfield 76, 3) := by decide +kernel
theorem dX11_type_34 : decode cX11_type 34 = .ok (.iload_n 1, 1) := by decide +kernel
theorem dX11_type_35 : decode cX11_type 35 = .ok (.i2b, 1) := by decide +kernel
theorem dX11_type_36 : decode cX11_type 36 = .ok (.bastore, 1) := by decide +kernel
theorem dX11_type_37 : decode cX11_type 37 = .ok (.aload_n 0, 1) := by decide +kernel
theorem dX11_type_38 : decode cX11_type 38 = .ok (.dup, 1) := by decide +kernel
theorem dX11_type_39 : decode cX11_type 39 = .ok (.getfield 76, 3) := by decide +kernel
theorem dX11_type_42 : decode cX11_type 42 = .ok (.iconst 1, 1) := by decide +kernel
theorem dX11_type_43 : decode cX11_type 43 = .ok (.iadd, 1) := by decide +kernel
theorem dX11_type_44 : decode cX11_type 44 = .ok (.putfield 76, 3) := by decide +kernel
theorem dX11_type_47 : decode cX11_type 47 = .ok (.aload_n 0, 1) := by decide +kernel
theorem dX11_type_48 : decode cX11_type 48 = .ok (.getfield 76, 3) := by decide +kernel
theorem dX11_type_51 : decode cX11_type 51 = .ok (.ireturn, 1) := by decide +kernel
theorem dX11_clear_0 : decode cX11_clear 0 = .ok (.aload_n 0, 1) := by decide +kernel
theorem dX11_clear_1 : decode cX11_clear 1 = .ok (.getfield 76, 3) := by decide +kernel
theorem dX11_clear_4 : decode cX11_clear 4 = .ok (.istore_n 1, 1) := by decide +kernel
theorem dX11_clear_5 : decode cX11_clear 5 = .ok (.aload_n 0, 1) := by decide +kernel
theorem dX11_clear_6 : decode cX11_clear 6 = .ok (.iconst 0, 1) := by decide +kernel
theorem dX11_clear_7 : decode cX11_clear 7 = .ok (.putfield 76, 3) := by decide +kernel
theorem dX11_clear_10 : decode cX11_clear 10 = .ok (.iload_n 1, 1) := by decide +kernel
theorem dX11_clear_11 : decode cX11_clear 11 = .ok (.ireturn, 1) := by decide +kernel
theorem dX11_here_0 : decode cX11_here 0 = .ok (.aload_n 0, 1) := by decide +kernel
theorem dX11_here_1 : decode cX11_here 1 = .ok (.getfield 80, 3) := by decide +kernel
theorem dX11_here_4 : decode cX11_here 4 = .ok (.aload_n 0, 1) := by decide +kernel
theorem dX11_here_5 : decode cX11_here 5 = .ok (.getfield 76, 3) := by decide +kernel
theorem dX11_here_8 : decode cX11_here 8 = .ok (.if_icmp .ge 19, 3) := by decide +kernel
theorem dX11_here_11 : decode cX11_here 11 = .ok (.aload_n 0, 1) := by decide +kernel
theorem dX11_here_12 : decode cX11_here 12 = .ok (.getfield 7, 3) := by decide +kernel
theorem dX11_here_15 : decode cX11_here 15 = .ok (.aload_n 0, 1) := by decide +kernel
theorem dX11_here_16 : decode cX11_here 16 = .ok (.getfield 80, 3) := by decide +kernel
theorem dX11_here_19 : decode cX11_here 19 = .ok (.baload, 1) := by decide +kernel
theorem dX11_here_20 : decode cX11_here 20 = .ok (.sipush 255, 3) := by decide +kernel
theorem dX11_here_23 : decode cX11_here 23 = .ok (.iand, 1) := by decide +kernel
theorem dX11_here_24 : decode cX11_here 24 = .ok (.goto 4, 3) := by decide +kernel
theorem dX11_here_27 : decode cX11_here 27 = .ok (.iconst (-1), 1) := by decide +kernel
theorem dX11_here_28 : decode cX11_here 28 = .ok (.ireturn, 1) := by decide +kernel
theorem dX11_next_0 : decode cX11_next 0 = .ok (.aload_n 0, 1) := by decide +kernel
theorem dX11_next_1 : decode cX11_next 1 = .ok (.invokevirtual 83, 3) := by decide +kernel
theorem dX11_next_4 : decode cX11_next 4 = .ok (.bipush 32, 2) := by decide +kernel
theorem dX11_next_6 : decode cX11_next 6 = .ok (.if_icmp .ne 16, 3) := by decide +kernel
theorem dX11_next_9 : decode cX11_next 9 = .ok (.aload_n 0, 1) := by decide +kernel
theorem dX11_next_10 : decode cX11_next 10 = .ok (.dup, 1) := by decide +kernel
theorem dX11_next_11 : decode cX11_next 11 = .ok (.getfield 80, 3) := by decide +kernel
theorem dX11_next_14 : decode cX11_next 14 = .ok (.iconst 1, 1) := by decide +kernel
theorem dX11_next_15 : decode cX11_next 15 = .ok (.iadd, 1) := by decide +kernel
theorem dX11_next_16 : decode cX11_next 16 = .ok (.putfield 80, 3) := by decide +kernel
theorem dX11_next_19 : decode cX11_next 19 = .ok (.goto (-19), 3) := by decide +kernel
theorem dX11_next_22 : decode cX11_next 22 = .ok (.aload_n 0, 1) := by decide +kernel
theorem dX11_next_23 : decode cX11_next 23 = .ok (.aload_n 0, 1) := by decide +kernel
theorem dX11_next_24 : decode cX11_next 24 = .ok (.getfield 80, 3) := by decide +kernel
theorem dX11_next_27 : decode cX11_next 27 = .ok (.putfield 87, 3) := by decide +kernel
theorem dX11_next_30 : decode cX11_next 30 = .ok (.aload_n 0, 1) := by decide +kernel
theorem dX11_next_31 : decode cX11_next 31 = .ok (.iconst 0, 1) := by decide +kernel
theorem dX11_next_32 : decode cX11_next 32 = .ok (.putfield 90, 3) := by decide +kernel
theorem dX11_next_35 : decode cX11_next 35 = .ok (.aload_n 0, 1) := by decide +kernel
theorem dX11_next_36 : decode cX11_next 36 = .ok (.invokevirtual 83, 3) := by decide +kernel
theorem dX11_next_39 : decode cX11_next 39 = .ok (.istore_n 1, 1) := by decide +kernel
theorem dX11_next_40 : decode cX11_next 40 = .ok (.iload_n 1, 1) := by decide +kernel
theorem dX11_next_41 : decode cX11_next 41 = .ok (.ifCond .ge 11, 3) := by decide +kernel
theorem dX11_next_44 : decode cX11_next 44 = .ok (.aload_n 0, 1) := by decide +kernel
theorem dX11_next_45 : decode cX11_next 45 = .ok (.iconst 3, 1) := by decide +kernel
theorem dX11_next_46 : decode cX11_next 46 = .ok (.putfield 93, 3) := by decide +kernel
theorem dX11_next_49 : decode cX11_next 49 = .ok (.goto 204, 3) := by decide +kernel
theorem dX11_next_52 : decode cX11_next 52 = .ok (.iload_n 1, 1) := by decide +kernel
theorem dX11_next_53 : decode cX11_next 53 = .ok (.bipush 97, 2) := by decide +kernel
theorem dX11_next_55 : decode cX11_next 55 = .ok (.bipush 122, 2) := by decide +kernel
theorem dX11_next_57 : decode cX11_next 57 = .ok (.invokestatic 72, 3) := by decide +kernel
theorem dX11_next_60 : decode cX11_next 60 = .ok (.ifCond .eq 55, 3) := by decide +kernel
theorem dX11_next_63 : decode cX11_next 63 = .ok (.aload_n 0, 1) := by decide +kernel
theorem dX11_next_64 : decode cX11_next 64 = .ok (.invokevirtual 83, 3) := by decide +kernel
theorem dX11_next_67 : decode cX11_next 67 = .ok (.bipush 97, 2) := by decide +kernel
theorem dX11_next_69 : decode cX11_next 69 = .ok (.bipush 122, 2) := by decide +kernel
theorem dX11_next_71 : decode cX11_next 71 = .ok (.invokestatic 72, 3) := by decide +kernel
theorem dX11_next_74 : decode cX11_next 74 = .ok (.ifCond .eq 16, 3) := by decide +kernel
theorem dX11_next_77 : decode cX11_next 77 = .ok (.aload_n 0, 1) := by decide +kernel
theorem dX11_next_78 : decode cX11_next 78 = .ok (.dup, 1) := by decide +kernel
theorem dX11_next_79 : decode cX11_next 79 = .ok (.getfield 80, 3) := by decide +kernel
theorem dX11_next_82 : decode cX11_next 82 = .ok (.iconst 1, 1) := by decide +kernel
theorem dX11_next_83 : decode cX11_next 83 = .ok (.iadd, 1) := by decide +kernel
theorem dX11_next_84 : decode cX11_next 84 = .ok (.putfield 80, 3) := by decide +kernel
theorem dX11_next_87 : decode cX11_next 87 = .ok (.goto (-24), 3) := by decide +kernel
theorem dX11_next_90 : decode cX11_next 90 = .ok (.aload_n 0, 1) := by decide +kernel
theorem dX11_next_91 : decode cX11_next 91 = .ok (.aload_n 0, 1) := by decide +kernel
theorem dX11_next_92 : decode cX11_next 92 = .ok (.getfield 80, 3) := by decide +kernel
theorem dX11_next_95 : decode cX11_next 95 = .ok (.aload_n 0, 1) := by decide +kernel
theorem dX11_next_96 : decode cX11_next 96 = .ok (.getfield 87, 3) := by decide +kernel
theorem dX11_next_99 : decode cX11_next 99 = .ok (.isub, 1) := by decide +kernel
theorem dX11_next_100 : decode cX11_next 100 = .ok (.iconst 1, 1) := by decide +kernel
theorem dX11_next_101 : decode cX11_next 101 = .ok (.if_icmp .ne 7, 3) := by decide +kernel
theorem dX11_next_104 : decode cX11_next 104 = .ok (.iload_n 1, 1) := by decide +kernel
theorem dX11_next_105 : decode cX11_next 105 = .ok (.goto 4, 3) := by decide +kernel
theorem dX11_next_108 : decode cX11_next 108 = .ok (.iconst 4, 1) := by decide +kernel
theorem dX11_next_109 : decode cX11_next 109 = .ok (.putfield 93, 3) := by decide +kernel
theorem dX11_next_112 : decode cX11_next 112 = .ok (.goto 141, 3) := by decide +kernel
theorem dX11_next_115 : decode cX11_next 115 = .ok (.iload_n 1, 1) := by decide +kernel
theorem dX11_next_116 : decode cX11_next 116 = .ok (.bipush 48, 2) := by decide +kernel
theorem dX11_next_118 : decode cX11_next 118 = .ok (.bipush 57, 2) := by decide +kernel
theorem dX11_next_120 : decode cX11_next 120 = .ok (.invokestatic 72, 3) := by decide +kernel
theorem dX11_next_123 : decode cX11_next 123 = .ok (.ifCond .eq 105, 3) := by decide +kernel
theorem dX11_next_126 : decode cX11_next 126 = .ok (.aload_n 0, 1) := by decide +kernel
theorem dX11_next_127 : decode cX11_next 127 = .ok (.invokevirtual 83, 3) := by decide +kernel
theorem dX11_next_130 : decode cX11_next 130 = .ok (.bipush 48, 2) := by decide +kernel
theorem dX11_next_132 : decode cX11_next 132 = .ok (.bipush 57, 2) := by decide +kernel
theorem dX11_next_134 : decode cX11_next 134 = .ok (.invokestatic 72, 3) := by decide +kernel
theorem dX11_next_137 : decode cX11_next 137 = .ok (.ifCond .eq 51, 3) := by decide +kernel
theorem dX11_next_140 : decode cX11_next 140 = .ok (.aload_n 0, 1) := by decide +kernel
theorem dX11_next_141 : decode cX11_next 141 = .ok (.aload_n 0, 1) := by decide +kernel
theorem dX11_next_142 : decode cX11_next 142 = .ok (.getfield 90, 3) := by decide +kernel
theorem dX11_next_145 : decode cX11_next 145 = .ok (.bipush 99, 2) := by decide +kernel
theorem dX11_next_147 : decode cX11_next 147 = .ok (.if_icmp .le 10, 3) := by decide +kernel
theorem dX11_next_150 : decode cX11_next 150 = .ok (.aload_n 0, 1) := by decide +kernel
theorem dX11_next_151 : decode cX11_next 151 = .ok (.getfield 90, 3) := by decide +kernel
theorem dX11_next_154 : decode cX11_next 154 = .ok (.goto 18, 3) := by decide +kernel
theorem dX11_next_157 : decode cX11_next 157 = .ok (.bipush 10, 2) := by decide +kernel
theorem dX11_next_159 : decode cX11_next 159 = .ok (.aload_n 0, 1) := by decide +kernel
theorem dX11_next_160 : decode cX11_next 160 = .ok (.getfield 90, 3) := by decide +kernel
theorem dX11_next_163 : decode cX11_next 163 = .ok (.imul, 1) := by decide +kernel
theorem dX11_next_164 : decode cX11_next 164 = .ok (.aload_n 0, 1) := by decide +kernel
theorem dX11_next_165 : decode cX11_next 165 = .ok (.invokevirtual 83, 3) := by decide +kernel
theorem dX11_next_168 : decode cX11_next 168 = .ok (.iadd, 1) := by decide +kernel
theorem dX11_next_169 : decode cX11_next 169 = .ok (.bipush 48, 2) := by decide +kernel
theorem dX11_next_171 : decode cX11_next 171 = .ok (.isub, 1) := by decide +kernel
theorem dX11_next_172 : decode cX11_next 172 = .ok (.putfield 90, 3) := by decide +kernel
theorem dX11_next_175 : decode cX11_next 175 = .ok (.aload_n 0, 1) := by decide +kernel
theorem dX11_next_176 : decode cX11_next 176 = .ok (.dup, 1) := by decide +kernel
theorem dX11_next_177 : decode cX11_next 177 = .ok (.getfield 80, 3) := by decide +kernel
theorem dX11_next_180 : decode cX11_next 180 = .ok (.iconst 1, 1) := by decide +kernel
theorem dX11_next_181 : decode cX11_next 181 = .ok (.iadd, 1) := by decide +kernel
theorem dX11_next_182 : decode cX11_next 182 = .ok (.putfield 80, 3) := by decide +kernel
theorem dX11_next_185 : decode cX11_next 185 = .ok (.goto (-59), 3) := by decide +kernel
theorem dX11_next_188 : decode cX11_next 188 = .ok (.aload_n 0, 1) := by decide +kernel
theorem dX11_next_189 : decode cX11_next 189 = .ok (.aload_n 0, 1) := by decide +kernel
theorem dX11_next_190 : decode cX11_next 190 = .ok (.getfield 90, 3) := by decide +kernel
theorem dX11_next_193 : decode cX11_next 193 = .ok (.bipush 99, 2) := by decide +kernel
theorem dX11_next_195 : decode cX11_next 195 = .ok (.if_icmp .gt 22, 3) := by decide +kernel
theorem dX11_next_198 : decode cX11_next 198 = .ok (.iload_n 1, 1) := by decide +kernel
theorem dX11_next_199 : decode cX11_next 199 = .ok (.bipush 48, 2) := by decide +kernel
theorem dX11_next_201 : decode cX11_next 201 = .ok (.if_icmp .ne 20, 3) := by decide +kernel
theorem dX11_next_204 : decode cX11_next 204 = .ok (.aload_n 0, 1) := by decide +kernel
theorem dX11_next_205 : decode cX11_next 205 = .ok (.getfield 80, 3) := by decide +kernel
theorem dX11_next_208 : decode cX11_next 208 = .ok (.aload_n 0, 1) := by decide +kernel
theorem dX11_next_209 : decode cX11_next 209 = .ok (.getfield 87, 3) := by decide +kernel
theorem dX11_next_212 : decode cX11_next 212 = .ok (.isub, 1) := by decide +kernel
theorem dX11_next_213 : decode cX11_next 213 = .ok (.iconst 1, 1) := by decide +kernel
theorem dX11_next_214 : decode cX11_next 214 = .ok (.if_icmp .le 7, 3) := by decide +kernel
theorem dX11_next_217 : decode cX11_next 217 = .ok (.iconst 4, 1) := by decide +kernel
theorem dX11_next_218 : decode cX11_next 218 = .ok (.goto 4, 3) := by decide +kernel
theorem dX11_next_221 : decode cX11_next 221 = .ok (.iconst 1, 1) := by decide +kernel
theorem dX11_next_222 : decode cX11_next 222 = .ok (.putfield 93, 3) := by decide +kernel
theorem dX11_next_225 : decode cX11_next 225 = .ok (.goto 28, 3) := by decide +kernel
theorem dX11_next_228 : decode cX11_next 228 = .ok (.aload_n 0, 1) := by decide +kernel
theorem dX11_next_229 : decode cX11_next 229 = .ok (.dup, 1) := by decide +kernel
theorem dX11_next_230 : decode cX11_next 230 = .ok (.getfield 80, 3) := by decide +kernel
theorem dX11_next_233 : decode cX11_next 233 = .ok (.iconst 1, 1) := by decide +kernel
theorem dX11_next_234 : decode cX11_next 234 = .ok (.iadd, 1) := by decide +kernel
theorem dX11_next_235 : decode cX11_next 235 = .ok (.putfield 80, 3) := by decide +kernel
theorem dX11_next_238 : decode cX11_next 238 = .ok (.aload_n 0, 1) := by decide +kernel
theorem dX11_next_239 : decode cX11_next 239 = .ok (.iload_n 1, 1) := by decide +kernel
theorem dX11_next_240 : decode cX11_next 240 = .ok (.bipush 59, 2) := by decide +kernel
theorem dX11_next_242 : decode cX11_next 242 = .ok (.if_icmp .ne 7, 3) := by decide +kernel
theorem dX11_next_245 : decode cX11_next 245 = .ok (.iconst 2, 1) := by decide +kernel
theorem dX11_next_246 : decode cX11_next 246 = .ok (.goto 4, 3) := by decide +kernel
theorem dX11_next_249 : decode cX11_next 249 = .ok (.iconst 4, 1) := by decide +kernel
theorem dX11_next_250 : decode cX11_next 250 = .ok (.putfield 93, 3) := by decide +kernel
theorem dX11_next_253 : decode cX11_next 253 = .ok (.return_, 1) := by decide +kernel
theorem dX11_due_0 : decode cX11_due 0 = .ok (.aload_n 0, 1) := by decide +kernel
theorem dX11_due_1 : decode cX11_due 1 = .ok (.getfield 90, 3) := by decide +kernel
theorem dX11_due_4 : decode cX11_due 4 = .ok (.istore_n 2, 1) := by decide +kernel
theorem dX11_due_5 : decode cX11_due 5 = .ok (.aload_n 0, 1) := by decide +kernel
theorem dX11_due_6 : decode cX11_due 6 = .ok (.getfield 96, 3) := by decide +kernel
theorem dX11_due_9 : decode cX11_due 9 = .ok (.bipush (-9), 2) := by decide +kernel
theorem dX11_due_11 : decode cX11_due 11 = .ok (.if_icmp .ne 22, 3) := by decide +kernel
theorem dX11_due_14 : decode cX11_due 14 = .ok (.iload_n 1, 1) := by decide +kernel
theorem dX11_due_15 : decode cX11_due 15 = .ok (.ifCond .eq 10, 3) := by decide +kernel
theorem dX11_due_18 : decode cX11_due 18 = .ok (.aload_n 0, 1) := by decide +kernel
theorem dX11_due_19 : decode cX11_due 19 = .ok (.invokevirtual 99, 3) := by decide +kernel
theorem dX11_due_22 : decode cX11_due 22 = .ok (.goto 11, 3) := by decide +kernel
theorem dX11_due_25 : decode cX11_due 25 = .ok (.aload_n 0, 1) := by decide +kernel
theorem dX11_due_26 : decode cX11_due 26 = .ok (.aload_n 0, 1) := by decide +kernel
theorem dX11_due_27 : decode cX11_due 27 = .ok (.getfield 87, 3) := by decide +kernel
theorem dX11_due_30 : decode cX11_due 30 = .ok (.putfield 96, 3) := by decide +kernel
theorem dX11_due_33 : decode cX11_due 33 = .ok (.iload_n 2, 1) := by decide +kernel
theorem dX11_due_34 : decode cX11_due 34 = .ok (.ireturn, 1) := by decide +kernel
theorem dX11_number_0 : decode cX11_number 0 = .ok (.aload_n 0, 1) := by decide +kernel
theorem dX11_number_1 : decode cX11_number 1 = .ok (.aload_n 0, 1) := by decide +kernel
theorem dX11_number_2 : decode cX11_number 2 = .ok (.getfield 93, 3) := by decide +kernel
theorem dX11_number_5 : decode cX11_number 5 = .ok (.iconst 1, 1) := by decide +kernel
theorem dX11_number_6 : decode cX11_number 6 = .ok (.if_icmp .ne 19, 3) := by decide +kernel
theorem dX11_number_9 : decode cX11_number 9 = .ok (.aload_n 0, 1) := by decide +kernel
theorem dX11_number_10 : decode cX11_number 10 = .ok (.getfield 90, 3) := by decide +kernel
theorem dX11_number_13 : decode cX11_number 13 = .ok (.iload_n 1, 1) := by decide +kernel
theorem dX11_number_14 : decode cX11_number 14 = .ok (.iload_n 2, 1) := by decide +kernel
theorem dX11_number_15 : decode cX11_number 15 = .ok (.invokestatic 72, 3) := by decide +kernel
theorem dX11_number_18 : decode cX11_number 18 = .ok (.ifCond .eq 7, 3) := by decide +kernel
theorem dX11_number_21 : decode cX11_number 21 = .ok (.iconst 1, 1) := by decide +kernel
theorem dX11_number_22 : decode cX11_number 22 = .ok (.goto 4, 3) := by decide +kernel
theorem dX11_number_25 : decode cX11_number 25 = .ok (.iconst 0, 1) := by decide +kernel
theorem dX11_number_26 : decode cX11_number 26 = .ok (.invokevirtual 102, 3) := by decide +kernel
theorem dX11_number_29 : decode cX11_number 29 = .ok (.ireturn, 1) := by decide +kernel
theorem dX11_mayBe_0 : decode cX11_mayBe 0 = .ok (.iload_n 1, 1) := by decide +kernel
theorem dX11_mayBe_1 : decode cX11_mayBe 1 = .ok (.lookupswitch 128 #[(97, 85), (100, 115), (102, 68), (115, 51), (116, 102)], 51) := by decide +kernel
theorem dX11_mayBe_52 : decode cX11_mayBe 52 = .ok (.aload_n 0, 1) := by decide +kernel
theorem dX11_mayBe_53 : decode cX11_mayBe 53 = .ok (.getfield 13, 3) := by decide +kernel
theorem dX11_mayBe_56 : decode cX11_mayBe 56 = .ok (.iconst 1, 1) := by decide +kernel
theorem dX11_mayBe_57 : decode cX11_mayBe 57 = .ok (.iaload, 1) := by decide +kernel
theorem dX11_mayBe_58 : decode cX11_mayBe 58 = .ok (.bipush 6, 2) := by decide +kernel
theorem dX11_mayBe_60 : decode cX11_mayBe 60 = .ok (.if_icmp .ge 7, 3) := by decide +kernel
theorem dX11_mayBe_63 : decode cX11_mayBe 63 = .ok (.iconst 1, 1) := by decide +kernel
theorem dX11_mayBe_64 : decode cX11_mayBe 64 = .ok (.goto 4, 3) := by decide +kernel
theorem dX11_mayBe_67 : decode cX11_mayBe 67 = .ok (.iconst 0, 1) := by decide +kernel
theorem dX11_mayBe_68 : decode cX11_mayBe 68 = .ok (.ireturn, 1) := by decide +kernel
theorem dX11_mayBe_69 : decode cX11_mayBe 69 = .ok (.aload_n 0, 1) := by decide +kernel
theorem dX11_mayBe_70 : decode cX11_mayBe 70 = .ok (.getfield 20, 3) := by decide +kernel
theorem dX11_mayBe_73 : decode cX11_mayBe 73 = .ok (.iconst 1, 1) := by decide +kernel
theorem dX11_mayBe_74 : decode cX11_mayBe 74 = .ok (.iaload, 1) := by decide +kernel
theorem dX11_mayBe_75 : decode cX11_mayBe 75 = .ok (.bipush 8, 2) := by decide +kernel
theorem dX11_mayBe_77 : decode cX11_mayBe 77 = .ok (.if_icmp .ge 7, 3) := by decide +kernel
theorem dX11_mayBe_80 : decode cX11_mayBe 80 = .ok (.iconst 1, 1) := by decide +kernel
theorem dX11_mayBe_81 : decode cX11_mayBe 81 = .ok (.goto 4, 3) := by decide +kernel
theorem dX11_mayBe_84 : decode cX11_mayBe 84 = .ok (.iconst 0, 1) := by decide +kernel
theorem dX11_mayBe_85 : decode cX11_mayBe 85 = .ok (.ireturn, 1) := by decide +kernel
theorem dX11_mayBe_86 : decode cX11_mayBe 86 = .ok (.aload_n 0, 1) := by decide +kernel
theorem dX11_mayBe_87 : decode cX11_mayBe 87 = .ok (.getfield 32, 3) := by decide +kernel
theorem dX11_mayBe_90 : decode cX11_mayBe 90 = .ok (.iconst 1, 1) := by decide +kernel
theorem dX11_mayBe_91 : decode cX11_mayBe 91 = .ok (.iaload, 1) := by decide +kernel
theorem dX11_mayBe_92 : decode cX11_mayBe 92 = .ok (.bipush 8, 2) := by decide +kernel
theorem dX11_mayBe_94 : decode cX11_mayBe 94 = .ok (.if_icmp .ge 7, 3) := by decide +kernel
theorem dX11_mayBe_97 : decode cX11_mayBe 97 = .ok (.iconst 1, 1) := by decide +kernel
theorem dX11_mayBe_98 : decode cX11_mayBe 98 = .ok (.goto 4, 3) := by decide +kernel
theorem dX11_mayBe_101 : decode cX11_mayBe 101 = .ok (.iconst 0, 1) := by decide +kernel
theorem dX11_mayBe_102 : decode cX11_mayBe 102 = .ok (.ireturn, 1) := by decide +kernel
theorem dX11_mayBe_103 : decode cX11_mayBe 103 = .ok (.aload_n 0, 1) := by decide +kernel
theorem dX11_mayBe_104 : decode cX11_mayBe 104 = .ok (.getfield 106, 3) := by decide +kernel
theorem dX11_mayBe_107 : decode cX11_mayBe 107 = .ok (.ifCond .ne 7, 3) := by decide +kernel
theorem dX11_mayBe_110 : decode cX11_mayBe 110 = .ok (.iconst 1, 1) := by decide +kernel
theorem dX11_mayBe_111 : decode cX11_mayBe 111 = .ok (.goto 4, 3) := by decide +kernel
theorem dX11_mayBe_114 : decode cX11_mayBe 114 = .ok (.iconst 0, 1) := by decide +kernel
theorem dX11_mayBe_115 : decode cX11_mayBe 115 = .ok (.ireturn, 1) := by decide +kernel
theorem dX11_mayBe_116 : decode cX11_mayBe 116 = .ok (.aload_n 0, 1) := by decide +kernel
theorem dX11_mayBe_117 : decode cX11_mayBe 117 = .ok (.getfield 110, 3) := by decide +kernel
theorem dX11_mayBe_120 : decode cX11_mayBe 120 = .ok (.ifCond .ne 7, 3) := by decide +kernel
theorem dX11_mayBe_123 : decode cX11_mayBe 123 = .ok (.iconst 1, 1) := by decide +kernel
theorem dX11_mayBe_124 : decode cX11_mayBe 124 = .ok (.goto 4, 3) := by decide +kernel
theorem dX11_mayBe_127 : decode cX11_mayBe 127 = .ok (.iconst 0, 1) := by decide +kernel
theorem dX11_mayBe_128 : decode cX11_mayBe 128 = .ok (.ireturn, 1) := by decide +kernel
theorem dX11_mayBe_129 : decode cX11_mayBe 129 = .ok (.iconst 0, 1) := by decide +kernel
theorem dX11_mayBe_130 : decode cX11_mayBe 130 = .ok (.ireturn, 1) := by decide +kernel
theorem dX11_readFact_0 : decode cX11_readFact 0 = .ok (.bipush 8, 2) := by decide +kernel
theorem dX11_readFact_2 : decode cX11_readFact 2 = .ok (.aload_n 0, 1) := by decide +kernel
theorem dX11_readFact_3 : decode cX11_readFact 3 = .ok (.getfield 20, 3) := by decide +kernel
theorem dX11_readFact_6 : decode cX11_readFact 6 = .ok (.iconst 1, 1) := by decide +kernel
theorem dX11_readFact_7 : decode cX11_readFact 7 = .ok (.iaload, 1) := by decide +kernel
theorem dX11_readFact_8 : decode cX11_readFact 8 = .ok (.iadd, 1) := by decide +kernel
theorem dX11_readFact_9 : decode cX11_readFact 9 = .ok (.istore_n 1, 1) := by decide +kernel
theorem dX11_readFact_10 : decode cX11_readFact 10 = .ok (.aload_n 0, 1) := by decide +kernel
theorem dX11_readFact_11 : decode cX11_readFact 11 = .ok (.getfield 23, 3) := by decide +kernel
theorem dX11_readFact_14 : decode cX11_readFact 14 = .ok (.iload_n 1, 1) := by decide +kernel
theorem dX11_readFact_15 : decode cX11_readFact 15 = .ok (.aload_n 0, 1) := by decide +kernel
theorem dX11_readFact_16 : decode cX11_readFact 16 = .ok (.iconst 1, 1) := by decide +kernel
theorem dX11_readFact_17 : decode cX11_readFact 17 = .ok (.bipush 9, 2) := by decide +kernel
theorem dX11_readFact_19 : decode cX11_readFact 19 = .ok (.invokevirtual 113, 3) := by decide +kernel
theorem dX11_readFact_22 : decode cX11_readFact 22 = .ok (.iastore, 1) := by decide +kernel
theorem dX11_readFact_23 : decode cX11_readFact 23 = .ok (.aload_n 0, 1) := by decide +kernel
theorem dX11_readFact_24 : decode cX11_readFact 24 = .ok (.getfield 26, 3) := by decide +kernel
theorem dX11_readFact_27 : decode cX11_readFact 27 = .ok (.iload_n 1, 1) := by decide +kernel
theorem dX11_readFact_28 : decode cX11_readFact 28 = .ok (.aload_n 0, 1) := by decide +kernel
theorem dX11_readFact_29 : decode cX11_readFact 29 = .ok (.iconst 0, 1) := by decide +kernel
theorem dX11_readFact_30 : decode cX11_readFact 30 = .ok (.bipush 10, 2) := by decide +kernel
theorem dX11_readFact_32 : decode cX11_readFact 32 = .ok (.invokevirtual 113, 3) := by decide +kernel
theorem dX11_readFact_35 : decode cX11_readFact 35 = .ok (.iastore, 1) := by decide +kernel
theorem dX11_readFact_36 : decode cX11_readFact 36 = .ok (.iconst 0, 1) := by decide +kernel
theorem dX11_readFact_37 : decode cX11_readFact 37 = .ok (.istore_n 2, 1) := by decide +kernel
theorem dX11_readFact_38 : decode cX11_readFact 38 = .ok (.iload_n 2, 1) := by decide +kernel
theorem dX11_readFact_39 : decode cX11_readFact 39 = .ok (.bipush 6, 2) := by decide +kernel
theorem dX11_readFact_41 : decode cX11_readFact 41 = .ok (.if_icmp .ge 44, 3) := by decide +kernel
theorem dX11_readFact_44 : decode cX11_readFact 44 = .ok (.aload_n 0, 1) := by decide +kernel
theorem dX11_readFact_45 : decode cX11_readFact 45 = .ok (.getfield 29, 3) := by decide +kernel
theorem dX11_readFact_48 : decode cX11_readFact 48 = .ok (.bipush 6, 2) := by decide +kernel
theorem dX11_readFact_50 : decode cX11_readFact 50 = .ok (.iload_n 1, 1) := by decide +kernel
theorem dX11_readFact_51 : decode cX11_readFact 51 = .ok (.imul, 1) := by decide +kernel
theorem dX11_readFact_52 : decode cX11_readFact 52 = .ok (.iload_n 2, 1) := by decide +kernel
theorem dX11_readFact_53 : decode cX11_readFact 53 = .ok (.iadd, 1) := by decide +kernel
theorem dX11_readFact_54 : decode cX11_readFact 54 = .ok (.iload_n 2, 1) := by decide +kernel
theorem dX11_readFact_55 : decode cX11_readFact 55 = .ok (.aload_n 0, 1) := by decide +kernel
theorem dX11_readFact_56 : decode cX11_readFact 56 = .ok (.getfield 13, 3) := by decide +kernel
theorem dX11_readFact_59 : decode cX11_readFact 59 = .ok (.iconst 1, 1) := by decide +kernel
theorem dX11_readFact_60 : decode cX11_readFact 60 = .ok (.iaload, 1) := by decide +kernel
theorem dX11_readFact_61 : decode cX11_readFact 61 = .ok (.if_icmp .ge 16, 3) := by decide +kernel
theorem dX11_readFact_64 : decode cX11_readFact 64 = .ok (.aload_n 0, 1) := by decide +kernel
theorem dX11_readFact_65 : decode cX11_readFact 65 = .ok (.iconst 0, 1) := by decide +kernel
theorem dX11_readFact_66 : decode cX11_readFact 66 = .ok (.bipush 18, 2) := by decide +kernel
theorem dX11_readFact_68 : decode cX11_readFact 68 = .ok (.invokevirtual 113, 3) := by decide +kernel
theorem dX11_readFact_71 : decode cX11_readFact 71 = .ok (.bipush 9, 2) := by decide +kernel
theorem dX11_readFact_73 : decode cX11_readFact 73 = .ok (.isub, 1) := by decide +kernel
theorem dX11_readFact_74 : decode cX11_readFact 74 = .ok (.goto 4, 3) := by decide +kernel
theorem dX11_readFact_77 : decode cX11_readFact 77 = .ok (.iconst 0, 1) := by decide +kernel
theorem dX11_readFact_78 : decode cX11_readFact 78 = .ok (.iastore, 1) := by decide +kernel
theorem dX11_readFact_79 : decode cX11_readFact 79 = .ok (.iinc 2 1, 3) := by decide +kernel
theorem dX11_readFact_82 : decode cX11_readFact 82 = .ok (.goto (-44), 3) := by decide +kernel
theorem dX11_readFact_85 : decode cX11_readFact 85 = .ok (.aload_n 0, 1) := by decide +kernel
theorem dX11_readFact_86 : decode cX11_readFact 86 = .ok (.getfield 20, 3) := by decide +kernel
theorem dX11_readFact_89 : decode cX11_readFact 89 = .ok (.iconst 1, 1) := by decide +kernel
theorem dX11_readFact_90 : decode cX11_readFact 90 = .ok (.dup2, 1) := by decide +kernel
theorem dX11_readFact_91 : decode cX11_readFact 91 = .ok (.iaload, 1) := by decide +kernel
theorem dX11_readFact_92 : decode cX11_readFact 92 = .ok (.iconst 1, 1) := by decide +kernel
theorem dX11_readFact_93 : decode cX11_readFact 93 = .ok (.iadd, 1) := by decide +kernel
theorem dX11_readFact_94 : decode cX11_readFact 94 = .ok (.iastore, 1) := by decide +kernel
theorem dX11_readFact_95 : decode cX11_readFact 95 = .ok (.return_, 1) := by decide +kernel
theorem dX11_readRow_0 : decode cX11_readRow 0 = .ok (.iload_n 1, 1) := by decide +kernel
theorem dX11_readRow_1 : decode cX11_readRow 1 = .ok (.bipush 115, 2) := by decide +kernel
theorem dX11_readRow_3 : decode cX11_readRow 3 = .ok (.if_icmp .ne 37, 3) := by decide +kernel
theorem dX11_readRow_6 : decode cX11_readRow 6 = .ok (.aload_n 0, 1) := by decide +kernel
theorem dX11_readRow_7 : decode cX11_readRow 7 = .ok (.getfield 17, 3) := by decide +kernel
theorem dX11_readRow_10 : decode cX11_readRow 10 = .ok (.bipush 6, 2) := by decide +kernel
theorem dX11_readRow_12 : decode cX11_readRow 12 = .ok (.aload_n 0, 1) := by decide +kernel
theorem dX11_readRow_13 : decode cX11_readRow 13 = .ok (.getfield 13, 3) := by decide +kernel
theorem dX11_readRow_16 : decode cX11_readRow 16 = .ok (.iconst 1, 1) := by decide +kernel
theorem dX11_readRow_17 : decode cX11_readRow 17 = .ok (.iaload, 1) := by decide +kernel
theorem dX11_readRow_18 : decode cX11_readRow 18 = .ok (.iadd, 1) := by decide +kernel
theorem dX11_readRow_19 : decode cX11_readRow 19 = .ok (.aload_n 0, 1) := by decide +kernel
theorem dX11_readRow_20 : decode cX11_readRow 20 = .ok (.iconst 0, 1) := by decide +kernel
theorem dX11_readRow_21 : decode cX11_readRow 21 = .ok (.bipush 20, 2) := by decide +kernel
theorem dX11_readRow_23 : decode cX11_readRow 23 = .ok (.invokevirtual 113, 3) := by decide +kernel
theorem dX11_readRow_26 : decode cX11_readRow 26 = .ok (.iastore, 1) := by decide +kernel
theorem dX11_readRow_27 : decode cX11_readRow 27 = .ok (.aload_n 0, 1) := by decide +kernel
theorem dX11_readRow_28 : decode cX11_readRow 28 = .ok (.getfield 13, 3) := by decide +kernel
theorem dX11_readRow_31 : decode cX11_readRow 31 = .ok (.iconst 1, 1) := by decide +kernel
theorem dX11_readRow_32 : decode cX11_readRow 32 = .ok (.dup2, 1) := by decide +kernel
theorem dX11_readRow_33 : decode cX11_readRow 33 = .ok (.iaload, 1) := by decide +kernel
theorem dX11_readRow_34 : decode cX11_readRow 34 = .ok (.iconst 1, 1) := by decide +kernel
theorem dX11_readRow_35 : decode cX11_readRow 35 = .ok (.iadd, 1) := by decide +kernel
theorem dX11_readRow_36 : decode cX11_readRow 36 = .ok (.iastore, 1) := by decide +kernel
theorem dX11_readRow_37 : decode cX11_readRow 37 = .ok (.goto 168, 3) := by decide +kernel
theorem dX11_readRow_40 : decode cX11_readRow 40 = .ok (.iload_n 1, 1) := by decide +kernel
theorem dX11_readRow_41 : decode cX11_readRow 41 = .ok (.bipush 102, 2) := by decide +kernel
theorem dX11_readRow_43 : decode cX11_readRow 43 = .ok (.if_icmp .ne 10, 3) := by decide +kernel
theorem dX11_readRow_46 : decode cX11_readRow 46 = .ok (.aload_n 0, 1) := by decide +kernel
theorem dX11_readRow_47 : decode cX11_readRow 47 = .ok (.invokevirtual 117, 3) := by decide +kernel
theorem dX11_readRow_50 : decode cX11_readRow 50 = .ok (.goto 155, 3) := by decide +kernel
theorem dX11_readRow_53 : decode cX11_readRow 53 = .ok (.iload_n 1, 1) := by decide +kernel
theorem dX11_readRow_54 : decode cX11_readRow 54 = .ok (.bipush 97, 2) := by decide +kernel
theorem dX11_readRow_56 : decode cX11_readRow 56 = .ok (.if_icmp .ne 88, 3) := by decide +kernel
theorem dX11_readRow_59 : decode cX11_readRow 59 = .ok (.bipush 8, 2) := by decide +kernel
theorem dX11_readRow_61 : decode cX11_readRow 61 = .ok (.aload_n 0, 1) := by decide +kernel
theorem dX11_readRow_62 : decode cX11_readRow 62 = .ok (.getfield 32, 3) := by decide +kernel
theorem dX11_readRow_65 : decode cX11_readRow 65 = .ok (.iconst 1, 1) := by decide +kernel
theorem dX11_readRow_66 : decode cX11_readRow 66 = .ok (.iaload, 1) := by decide +kernel
theorem dX11_readRow_67 : decode cX11_readRow 67 = .ok (.iadd, 1) := by decide +kernel
theorem dX11_readRow_68 : decode cX11_readRow 68 = .ok (.istore_n 2, 1) := by decide +kernel
theorem dX11_readRow_69 : decode cX11_readRow 69 = .ok (.aload_n 0, 1) := by decide +kernel
theorem dX11_readRow_70 : decode cX11_readRow 70 = .ok (.getfield 35, 3) := by decide +kernel
theorem dX11_readRow_73 : decode cX11_readRow 73 = .ok (.iload_n 2, 1) := by decide +kernel
theorem dX11_readRow_74 : decode cX11_readRow 74 = .ok (.aload_n 0, 1) := by decide +kernel
theorem dX11_readRow_75 : decode cX11_readRow 75 = .ok (.iconst 0, 1) := by decide +kernel
theorem dX11_readRow_76 : decode cX11_readRow 76 = .ok (.aload_n 0, 1) := by decide +kernel
theorem dX11_readRow_77 : decode cX11_readRow 77 = .ok (.getfield 13, 3) := by decide +kernel
theorem dX11_readRow_80 : decode cX11_readRow 80 = .ok (.iconst 1, 1) := by decide +kernel
theorem dX11_readRow_81 : decode cX11_readRow 81 = .ok (.iaload, 1) := by decide +kernel
theorem dX11_readRow_82 : decode cX11_readRow 82 = .ok (.iconst 1, 1) := by decide +kernel
theorem dX11_readRow_83 : decode cX11_readRow 83 = .ok (.isub, 1) := by decide +kernel
theorem dX11_readRow_84 : decode cX11_readRow 84 = .ok (.invokevirtual 113, 3) := by decide +kernel
theorem dX11_readRow_87 : decode cX11_readRow 87 = .ok (.iastore, 1) := by decide +kernel
theorem dX11_readRow_88 : decode cX11_readRow 88 = .ok (.aload_n 0, 1) := by decide +kernel
theorem dX11_readRow_89 : decode cX11_readRow 89 = .ok (.getfield 38, 3) := by decide +kernel
theorem dX11_readRow_92 : decode cX11_readRow 92 = .ok (.iload_n 2, 1) := by decide +kernel
theorem dX11_readRow_93 : decode cX11_readRow 93 = .ok (.aload_n 0, 1) := by decide +kernel
theorem dX11_readRow_94 : decode cX11_readRow 94 = .ok (.iconst 0, 1) := by decide +kernel
theorem dX11_readRow_95 : decode cX11_readRow 95 = .ok (.iconst 3, 1) := by decide +kernel
theorem dX11_readRow_96 : decode cX11_readRow 96 = .ok (.invokevirtual 113, 3) := by decide +kernel
theorem dX11_readRow_99 : decode cX11_readRow 99 = .ok (.iastore, 1) := by decide +kernel
theorem dX11_readRow_100 : decode cX11_readRow 100 = .ok (.aload_n 0, 1) := by decide +kernel
theorem dX11_readRow_101 : decode cX11_readRow 101 = .ok (.getfield 41, 3) := by decide +kernel
theorem dX11_readRow_104 : decode cX11_readRow 104 = .ok (.iload_n 2, 1) := by decide +kernel
theorem dX11_readRow_105 : decode cX11_readRow 105 = .ok (.aload_n 0, 1) := by decide +kernel
theorem dX11_readRow_106 : decode cX11_readRow 106 = .ok (.iconst 0, 1) := by decide +kernel
theorem dX11_readRow_107 : decode cX11_readRow 107 = .ok (.bipush 23, 2) := by decide +kernel
theorem dX11_readRow_109 : decode cX11_readRow 109 = .ok (.invokevirtual 113, 3) := by decide +kernel
theorem dX11_readRow_112 : decode cX11_readRow 112 = .ok (.iastore, 1) := by decide +kernel
theorem dX11_readRow_113 : decode cX11_readRow 113 = .ok (.aload_n 0, 1) := by decide +kernel
theorem dX11_readRow_114 : decode cX11_readRow 114 = .ok (.getfield 44, 3) := by decide +kernel
theorem dX11_readRow_117 : decode cX11_readRow 117 = .ok (.iload_n 2, 1) := by decide +kernel
theorem dX11_readRow_118 : decode cX11_readRow 118 = .ok (.aload_n 0, 1) := by decide +kernel
theorem dX11_readRow_119 : decode cX11_readRow 119 = .ok (.aload_n 0, 1) := by decide +kernel
theorem dX11_readRow_120 : decode cX11_readRow 120 = .ok (.getfield 41, 3) := by decide +kernel
theorem dX11_readRow_123 : decode cX11_readRow 123 = .ok (.iload_n 2, 1) := by decide +kernel
theorem dX11_readRow_124 : decode cX11_readRow 124 = .ok (.iaload, 1) := by decide +kernel
theorem dX11_readRow_125 : decode cX11_readRow 125 = .ok (.bipush 23, 2) := by decide +kernel
theorem dX11_readRow_127 : decode cX11_readRow 127 = .ok (.invokevirtual 113, 3) := by decide +kernel
theorem dX11_readRow_130 : decode cX11_readRow 130 = .ok (.iastore, 1) := by decide +kernel
theorem dX11_readRow_131 : decode cX11_readRow 131 = .ok (.aload_n 0, 1) := by decide +kernel
theorem dX11_readRow_132 : decode cX11_readRow 132 = .ok (.getfield 32, 3) := by decide +kernel
theorem dX11_readRow_135 : decode cX11_readRow 135 = .ok (.iconst 1, 1) := by decide +kernel
theorem dX11_readRow_136 : decode cX11_readRow 136 = .ok (.dup2, 1) := by decide +kernel
theorem dX11_readRow_137 : decode cX11_readRow 137 = .ok (.iaload, 1) := by decide +kernel
theorem dX11_readRow_138 : decode cX11_readRow 138 = .ok (.iconst 1, 1) := by decide +kernel
theorem dX11_readRow_139 : decode cX11_readRow 139 = .ok (.iadd, 1) := by decide +kernel
theorem dX11_readRow_140 : decode cX11_readRow 140 = .ok (.iastore, 1) := by decide +kernel
theorem dX11_readRow_141 : decode cX11_readRow 141 = .ok (.goto 64, 3) := by decide +kernel
theorem dX11_readRow_144 : decode cX11_readRow 144 = .ok (.iload_n 1, 1) := by decide +kernel
theorem dX11_readRow_145 : decode cX11_readRow 145 = .ok (.bipush 116, 2) := by decide +kernel
theorem dX11_readRow_147 : decode cX11_readRow 147 = .ok (.if_icmp .ne 42, 3) := by decide +kernel
theorem dX11_readRow_150 : decode cX11_readRow 150 = .ok (.aload_n 0, 1) := by decide +kernel
theorem dX11_readRow_151 : decode cX11_readRow 151 = .ok (.getfield 47, 3) := by decide +kernel
theorem dX11_readRow_154 : decode cX11_readRow 154 = .ok (.iconst 1, 1) := by decide +kernel
theorem dX11_readRow_155 : decode cX11_readRow 155 = .ok (.aload_n 0, 1) := by decide +kernel
theorem dX11_readRow_156 : decode cX11_readRow 156 = .ok (.iconst 0, 1) := by decide +kernel
theorem dX11_readRow_157 : decode cX11_readRow 157 = .ok (.bipush 23, 2) := by decide +kernel
theorem dX11_readRow_159 : decode cX11_readRow 159 = .ok (.invokevirtual 113, 3) := by decide +kernel
theorem dX11_readRow_162 : decode cX11_readRow 162 = .ok (.iastore, 1) := by decide +kernel
theorem dX11_readRow_163 : decode cX11_readRow 163 = .ok (.aload_n 0, 1) := by decide +kernel
theorem dX11_readRow_164 : decode cX11_readRow 164 = .ok (.getfield 50, 3) := by decide +kernel
theorem dX11_readRow_167 : decode cX11_readRow 167 = .ok (.iconst 1, 1) := by decide +kernel
theorem dX11_readRow_168 : decode cX11_readRow 168 = .ok (.aload_n 0, 1) := by decide +kernel
theorem dX11_readRow_169 : decode cX11_readRow 169 = .ok (.aload_n 0, 1) := by decide +kernel
theorem dX11_readRow_170 : decode cX11_readRow 170 = .ok (.getfield 47, 3) := by decide +kernel
theorem dX11_readRow_173 : decode cX11_readRow 173 = .ok (.iconst 1, 1) := by decide +kernel
theorem dX11_readRow_174 : decode cX11_readRow 174 = .ok (.iaload, 1) := by decide +kernel
theorem dX11_readRow_175 : decode cX11_readRow 175 = .ok (.bipush 23, 2) := by decide +kernel
theorem dX11_readRow_177 : decode cX11_readRow 177 = .ok (.invokevirtual 113, 3) := by decide +kernel
theorem dX11_readRow_180 : decode cX11_readRow 180 = .ok (.iastore, 1) := by decide +kernel
theorem dX11_readRow_181 : decode cX11_readRow 181 = .ok (.aload_n 0, 1) := by decide +kernel
theorem dX11_readRow_182 : decode cX11_readRow 182 = .ok (.iconst 1, 1) := by decide +kernel
theorem dX11_readRow_183 : decode cX11_readRow 183 = .ok (.putfield 106, 3) := by decide +kernel
theorem dX11_readRow_186 : decode cX11_readRow 186 = .ok (.goto 19, 3) := by decide +kernel
theorem dX11_readRow_189 : decode cX11_readRow 189 = .ok (.aload_n 0, 1) := by decide +kernel
theorem dX11_readRow_190 : decode cX11_readRow 190 = .ok (.aload_n 0, 1) := by decide +kernel
theorem dX11_readRow_191 : decode cX11_readRow 191 = .ok (.iconst 0, 1) := by decide +kernel
theorem dX11_readRow_192 : decode cX11_readRow 192 = .ok (.bipush 60, 2) := by decide +kernel
theorem dX11_readRow_194 : decode cX11_readRow 194 = .ok (.invokevirtual 113, 3) := by decide +kernel
theorem dX11_readRow_197 : decode cX11_readRow 197 = .ok (.putfield 120, 3) := by decide +kernel
theorem dX11_readRow_200 : decode cX11_readRow 200 = .ok (.aload_n 0, 1) := by decide +kernel
theorem dX11_readRow_201 : decode cX11_readRow 201 = .ok (.iconst 1, 1) := by decide +kernel
theorem dX11_readRow_202 : decode cX11_readRow 202 = .ok (.putfield 110, 3) := by decide +kernel
theorem dX11_readRow_205 : decode cX11_readRow 205 = .ok (.return_, 1) := by decide +kernel
theorem dX11_court_0 : decode cX11_court 0 = .ok (.aload_n 0, 1) := by decide +kernel
theorem dX11_court_1 : decode cX11_court 1 = .ok (.iconst 0, 1) := by decide +kernel
theorem dX11_court_2 : decode cX11_court 2 = .ok (.putfield 80, 3) := by decide +kernel
theorem dX11_court_5 : decode cX11_court 5 = .ok (.aload_n 0, 1) := by decide +kernel
theorem dX11_court_6 : decode cX11_court 6 = .ok (.bipush (-9), 2) := by decide +kernel
theorem dX11_court_8 : decode cX11_court 8 = .ok (.putfield 96, 3) := by decide +kernel
theorem dX11_court_11 : decode cX11_court 11 = .ok (.aload_n 0, 1) := by decide +kernel
theorem dX11_court_12 : decode cX11_court 12 = .ok (.iconst 0, 1) := by decide +kernel
theorem dX11_court_13 : decode cX11_court 13 = .ok (.putfield 106, 3) := by decide +kernel
theorem dX11_court_16 : decode cX11_court 16 = .ok (.aload_n 0, 1) := by decide +kernel
theorem dX11_court_17 : decode cX11_court 17 = .ok (.iconst 0, 1) := by decide +kernel
theorem dX11_court_18 : decode cX11_court 18 = .ok (.putfield 110, 3) := by decide +kernel
theorem dX11_court_21 : decode cX11_court 21 = .ok (.aload_n 0, 1) := by decide +kernel
theorem dX11_court_22 : decode cX11_court 22 = .ok (.bipush 10, 2) := by decide +kernel
theorem dX11_court_24 : decode cX11_court 24 = .ok (.putfield 120, 3) := by decide +kernel
theorem dX11_court_27 : decode cX11_court 27 = .ok (.aload_n 0, 1) := by decide +kernel
theorem dX11_court_28 : decode cX11_court 28 = .ok (.getfield 13, 3) := by decide +kernel
theorem dX11_court_31 : decode cX11_court 31 = .ok (.iconst 1, 1) := by decide +kernel
theorem dX11_court_32 : decode cX11_court 32 = .ok (.iconst 0, 1) := by decide +kernel
theorem dX11_court_33 : decode cX11_court 33 = .ok (.iastore, 1) := by decide +kernel
theorem dX11_court_34 : decode cX11_court 34 = .ok (.aload_n 0, 1) := by decide +kernel
theorem dX11_court_35 : decode cX11_court 35 = .ok (.getfield 20, 3) := by decide +kernel
theorem dX11_court_38 : decode cX11_court 38 = .ok (.iconst 1, 1) := by decide +kernel
theorem dX11_court_39 : decode cX11_court 39 = .ok (.iconst 0, 1) := by decide +kernel
theorem dX11_court_40 : decode cX11_court 40 = .ok (.iastore, 1) := by decide +kernel
theorem dX11_court_41 : decode cX11_court 41 = .ok (.aload_n 0, 1) := by decide +kernel
theorem dX11_court_42 : decode cX11_court 42 = .ok (.getfield 32, 3) := by decide +kernel
theorem dX11_court_45 : decode cX11_court 45 = .ok (.iconst 1, 1) := by decide +kernel
theorem dX11_court_46 : decode cX11_court 46 = .ok (.iconst 0, 1) := by decide +kernel
theorem dX11_court_47 : decode cX11_court 47 = .ok (.iastore, 1) := by decide +kernel
theorem dX11_court_48 : decode cX11_court 48 = .ok (.aload_n 0, 1) := by decide +kernel
theorem dX11_court_49 : decode cX11_court 49 = .ok (.getfield 47, 3) := by decide +kernel
theorem dX11_court_52 : decode cX11_court 52 = .ok (.iconst 1, 1) := by decide +kernel
theorem dX11_court_53 : decode cX11_court 53 = .ok (.bipush 8, 2) := by decide +kernel
theorem dX11_court_55 : decode cX11_court 55 = .ok (.iastore, 1) := by decide +kernel
theorem dX11_court_56 : decode cX11_court 56 = .ok (.aload_n 0, 1) := by decide +kernel
theorem dX11_court_57 : decode cX11_court 57 = .ok (.getfield 50, 3) := by decide +kernel
theorem dX11_court_60 : decode cX11_court 60 = .ok (.iconst 1, 1) := by decide +kernel
theorem dX11_court_61 : decode cX11_court 61 = .ok (.bipush 15, 2) := by decide +kernel
theorem dX11_court_63 : decode cX11_court 63 = .ok (.iastore, 1) := by decide +kernel
theorem dX11_court_64 : decode cX11_court 64 = .ok (.iconst 0, 1) := by decide +kernel
theorem dX11_court_65 : decode cX11_court 65 = .ok (.istore_n 1, 1) := by decide +kernel
theorem dX11_court_66 : decode cX11_court 66 = .ok (.aload_n 0, 1) := by decide +kernel
theorem dX11_court_67 : decode cX11_court 67 = .ok (.invokevirtual 99, 3) := by decide +kernel
theorem dX11_court_70 : decode cX11_court 70 = .ok (.aload_n 0, 1) := by decide +kernel
theorem dX11_court_71 : decode cX11_court 71 = .ok (.getfield 96, 3) := by decide +kernel
theorem dX11_court_74 : decode cX11_court 74 = .ok (.bipush (-9), 2) := by decide +kernel
theorem dX11_court_76 : decode cX11_court 76 = .ok (.if_icmp .ne 64, 3) := by decide +kernel
theorem dX11_court_79 : decode cX11_court 79 = .ok (.aload_n 0, 1) := by decide +kernel
theorem dX11_court_80 : decode cX11_court 80 = .ok (.getfield 93, 3) := by decide +kernel
theorem dX11_court_83 : decode cX11_court 83 = .ok (.iconst 3, 1) := by decide +kernel
theorem dX11_court_84 : decode cX11_court 84 = .ok (.if_icmp .eq 56, 3) := by decide +kernel
theorem dX11_court_87 : decode cX11_court 87 = .ok (.aload_n 0, 1) := by decide +kernel
theorem dX11_court_88 : decode cX11_court 88 = .ok (.getfield 93, 3) := by decide +kernel
theorem dX11_court_91 : decode cX11_court 91 = .ok (.istore_n 2, 1) := by decide +kernel
theorem dX11_court_92 : decode cX11_court 92 = .ok (.aload_n 0, 1) := by decide +kernel
theorem dX11_court_93 : decode cX11_court 93 = .ok (.aload_n 0, 1) := by decide +kernel
theorem dX11_court_94 : decode cX11_court 94 = .ok (.iload_n 2, 1) := by decide +kernel
theorem dX11_court_95 : decode cX11_court 95 = .ok (.invokevirtual 123, 3) := by decide +kernel
theorem dX11_court_98 : decode cX11_court 98 = .ok (.invokevirtual 102, 3) := by decide +kernel
theorem dX11_court_101 : decode cX11_court 101 = .ok (.pop, 1) := by decide +kernel
theorem dX11_court_102 : decode cX11_court 102 = .ok (.aload_n 0, 1) := by decide +kernel
theorem dX11_court_103 : decode cX11_court 103 = .ok (.getfield 96, 3) := by decide +kernel
theorem dX11_court_106 : decode cX11_court 106 = .ok (.bipush (-9), 2) := by decide +kernel
theorem dX11_court_108 : decode cX11_court 108 = .ok (.if_icmp .ne 29, 3) := by decide +kernel
theorem dX11_court_111 : decode cX11_court 111 = .ok (.aload_n 0, 1) := by decide +kernel
theorem dX11_court_112 : decode cX11_court 112 = .ok (.iload_n 2, 1) := by decide +kernel
theorem dX11_court_113 : decode cX11_court 113 = .ok (.invokevirtual 127, 3) := by decide +kernel
theorem dX11_court_116 : decode cX11_court 116 = .ok (.aload_n 0, 1) := by decide +kernel
theorem dX11_court_117 : decode cX11_court 117 = .ok (.aload_n 0, 1) := by decide +kernel
theorem dX11_court_118 : decode cX11_court 118 = .ok (.getfield 93, 3) := by decide +kernel
theorem dX11_court_121 : decode cX11_court 121 = .ok (.iconst 2, 1) := by decide +kernel
theorem dX11_court_122 : decode cX11_court 122 = .ok (.if_icmp .ne 7, 3) := by decide +kernel
theorem dX11_court_125 : decode cX11_court 125 = .ok (.iconst 1, 1) := by decide +kernel
theorem dX11_court_126 : decode cX11_court 126 = .ok (.goto 4, 3) := by decide +kernel
theorem dX11_court_129 : decode cX11_court 129 = .ok (.iconst 0, 1) := by decide +kernel
theorem dX11_court_130 : decode cX11_court 130 = .ok (.invokevirtual 102, 3) := by decide +kernel
theorem dX11_court_133 : decode cX11_court 133 = .ok (.pop, 1) := by decide +kernel
theorem dX11_court_134 : decode cX11_court 134 = .ok (.iinc 1 1, 3) := by decide +kernel
theorem dX11_court_137 : decode cX11_court 137 = .ok (.goto (-67), 3) := by decide +kernel
theorem dX11_court_140 : decode cX11_court 140 = .ok (.aload_n 0, 1) := by decide +kernel
theorem dX11_court_141 : decode cX11_court 141 = .ok (.getfield 96, 3) := by decide +kernel
theorem dX11_court_144 : decode cX11_court 144 = .ok (.bipush (-9), 2) := by decide +kernel
theorem dX11_court_146 : decode cX11_court 146 = .ok (.if_icmp .eq 11, 3) := by decide +kernel
theorem dX11_court_149 : decode cX11_court 149 = .ok (.bipush (-10), 2) := by decide +kernel
theorem dX11_court_151 : decode cX11_court 151 = .ok (.aload_n 0, 1) := by decide +kernel
theorem dX11_court_152 : decode cX11_court 152 = .ok (.getfield 96, 3) := by decide +kernel
theorem dX11_court_155 : decode cX11_court 155 = .ok (.isub, 1) := by decide +kernel
theorem dX11_court_156 : decode cX11_court 156 = .ok (.ireturn, 1) := by decide +kernel
theorem dX11_court_157 : decode cX11_court 157 = .ok (.aload_n 0, 1) := by decide +kernel
theorem dX11_court_158 : decode cX11_court 158 = .ok (.invokevirtual 131, 3) := by decide +kernel
theorem dX11_court_161 : decode cX11_court 161 = .ok (.aload_n 0, 1) := by decide +kernel
theorem dX11_court_162 : decode cX11_court 162 = .ok (.getfield 53, 3) := by decide +kernel
theorem dX11_court_165 : decode cX11_court 165 = .ok (.iconst 0, 1) := by decide +kernel
theorem dX11_court_166 : decode cX11_court 166 = .ok (.iconst 0, 1) := by decide +kernel
theorem dX11_court_167 : decode cX11_court 167 = .ok (.iastore, 1) := by decide +kernel
theorem dX11_court_168 : decode cX11_court 168 = .ok (.aload_n 0, 1) := by decide +kernel
theorem dX11_court_169 : decode cX11_court 169 = .ok (.getfield 53, 3) := by decide +kernel
theorem dX11_court_172 : decode cX11_court 172 = .ok (.iconst 1, 1) := by decide +kernel
theorem dX11_court_173 : decode cX11_court 173 = .ok (.iconst 0, 1) := by decide +kernel
theorem dX11_court_174 : decode cX11_court 174 = .ok (.iastore, 1) := by decide +kernel
theorem dX11_court_175 : decode cX11_court 175 = .ok (.aload_n 0, 1) := by decide +kernel
theorem dX11_court_176 : decode cX11_court 176 = .ok (.getfield 53, 3) := by decide +kernel
theorem dX11_court_179 : decode cX11_court 179 = .ok (.iconst 2, 1) := by decide +kernel
theorem dX11_court_180 : decode cX11_court 180 = .ok (.aload_n 0, 1) := by decide +kernel
theorem dX11_court_181 : decode cX11_court 181 = .ok (.getfield 120, 3) := by decide +kernel
theorem dX11_court_184 : decode cX11_court 184 = .ok (.iastore, 1) := by decide +kernel
theorem dX11_court_185 : decode cX11_court 185 = .ok (.aload_n 0, 1) := by decide +kernel
theorem dX11_court_186 : decode cX11_court 186 = .ok (.getfield 53, 3) := by decide +kernel
theorem dX11_court_189 : decode cX11_court 189 = .ok (.iconst 3, 1) := by decide +kernel
theorem dX11_court_190 : decode cX11_court 190 = .ok (.iconst 0, 1) := by decide +kernel
theorem dX11_court_191 : decode cX11_court 191 = .ok (.iastore, 1) := by decide +kernel
theorem dX11_court_192 : decode cX11_court 192 = .ok (.aload_n 0, 1) := by decide +kernel
theorem dX11_court_193 : decode cX11_court 193 = .ok (.iconst 0, 1) := by decide +kernel
theorem dX11_court_194 : decode cX11_court 194 = .ok (.putfield 134, 3) := by decide +kernel
theorem dX11_court_197 : decode cX11_court 197 = .ok (.aload_n 0, 1) := by decide +kernel
theorem dX11_court_198 : decode cX11_court 198 = .ok (.getfield 56, 3) := by decide +kernel
theorem dX11_court_201 : decode cX11_court 201 = .ok (.iconst 0, 1) := by decide +kernel
theorem dX11_court_202 : decode cX11_court 202 = .ok (.iconst 0, 1) := by decide +kernel
theorem dX11_court_203 : decode cX11_court 203 = .ok (.bastore, 1) := by decide +kernel
theorem dX11_court_204 : decode cX11_court 204 = .ok (.aload_n 0, 1) := by decide +kernel
theorem dX11_court_205 : decode cX11_court 205 = .ok (.getfield 56, 3) := by decide +kernel
theorem dX11_court_208 : decode cX11_court 208 = .ok (.iconst 1, 1) := by decide +kernel
theorem dX11_court_209 : decode cX11_court 209 = .ok (.iconst 0, 1) := by decide +kernel
theorem dX11_court_210 : decode cX11_court 210 = .ok (.bastore, 1) := by decide +kernel
theorem dX11_court_211 : decode cX11_court 211 = .ok (.aload_n 0, 1) := by decide +kernel
theorem dX11_court_212 : decode cX11_court 212 = .ok (.iconst 0, 1) := by decide +kernel
theorem dX11_court_213 : decode cX11_court 213 = .ok (.putfield 76, 3) := by decide +kernel
theorem dX11_court_216 : decode cX11_court 216 = .ok (.iload_n 1, 1) := by decide +kernel
theorem dX11_court_217 : decode cX11_court 217 = .ok (.ireturn, 1) := by decide +kernel
theorem dX11_take_0 : decode cX11_take 0 = .ok (.aload_n 0, 1) := by decide +kernel
theorem dX11_take_1 : decode cX11_take 1 = .ok (.getfield 13, 3) := by decide +kernel
theorem dX11_take_4 : decode cX11_take 4 = .ok (.iconst 0, 1) := by decide +kernel
theorem dX11_take_5 : decode cX11_take 5 = .ok (.aload_n 0, 1) := by decide +kernel
theorem dX11_take_6 : decode cX11_take 6 = .ok (.getfield 13, 3) := by decide +kernel
theorem dX11_take_9 : decode cX11_take 9 = .ok (.iconst 1, 1) := by decide +kernel
theorem dX11_take_10 : decode cX11_take 10 = .ok (.iaload, 1) := by decide +kernel
theorem dX11_take_11 : decode cX11_take 11 = .ok (.iastore, 1) := by decide +kernel
theorem dX11_take_12 : decode cX11_take 12 = .ok (.aload_n 0, 1) := by decide +kernel
theorem dX11_take_13 : decode cX11_take 13 = .ok (.getfield 20, 3) := by decide +kernel
theorem dX11_take_16 : decode cX11_take 16 = .ok (.iconst 0, 1) := by decide +kernel
theorem dX11_take_17 : decode cX11_take 17 = .ok (.aload_n 0, 1) := by decide +kernel
theorem dX11_take_18 : decode cX11_take 18 = .ok (.getfield 20, 3) := by decide +kernel
theorem dX11_take_21 : decode cX11_take 21 = .ok (.iconst 1, 1) := by decide +kernel
theorem dX11_take_22 : decode cX11_take 22 = .ok (.iaload, 1) := by decide +kernel
theorem dX11_take_23 : decode cX11_take 23 = .ok (.iastore, 1) := by decide +kernel
theorem dX11_take_24 : decode cX11_take 24 = .ok (.aload_n 0, 1) := by decide +kernel
theorem dX11_take_25 : decode cX11_take 25 = .ok (.getfield 32, 3) := by decide +kernel
theorem dX11_take_28 : decode cX11_take 28 = .ok (.iconst 0, 1) := by decide +kernel
theorem dX11_take_29 : decode cX11_take 29 = .ok (.aload_n 0, 1) := by decide +kernel
theorem dX11_take_30 : decode cX11_take 30 = .ok (.getfield 32, 3) := by decide +kernel
theorem dX11_take_33 : decode cX11_take 33 = .ok (.iconst 1, 1) := by decide +kernel
theorem dX11_take_34 : decode cX11_take 34 = .ok (.iaload, 1) := by decide +kernel
theorem dX11_take_35 : decode cX11_take 35 = .ok (.iastore, 1) := by decide +kernel
theorem dX11_take_36 : decode cX11_take 36 = .ok (.aload_n 0, 1) := by decide +kernel
theorem dX11_take_37 : decode cX11_take 37 = .ok (.getfield 47, 3) := by decide +kernel
theorem dX11_take_40 : decode cX11_take 40 = .ok (.iconst 0, 1) := by decide +kernel
theorem dX11_take_41 : decode cX11_take 41 = .ok (.aload_n 0, 1) := by decide +kernel
theorem dX11_take_42 : decode cX11_take 42 = .ok (.getfield 47, 3) := by decide +kernel
theorem dX11_take_45 : decode cX11_take 45 = .ok (.iconst 1, 1) := by decide +kernel
theorem dX11_take_46 : decode cX11_take 46 = .ok (.iaload, 1) := by decide +kernel
theorem dX11_take_47 : decode cX11_take 47 = .ok (.iastore, 1) := by decide +kernel
theorem dX11_take_48 : decode cX11_take 48 = .ok (.aload_n 0, 1) := by decide +kernel
theorem dX11_take_49 : decode cX11_take 49 = .ok (.getfield 50, 3) := by decide +kernel
theorem dX11_take_52 : decode cX11_take 52 = .ok (.iconst 0, 1) := by decide +kernel
theorem dX11_take_53 : decode cX11_take 53 = .ok (.aload_n 0, 1) := by decide +kernel
theorem dX11_take_54 : decode cX11_take 54 = .ok (.getfield 50, 3) := by decide +kernel
theorem dX11_take_57 : decode cX11_take 57 = .ok (.iconst 1, 1) := by decide +kernel
theorem dX11_take_58 : decode cX11_take 58 = .ok (.iaload, 1) := by decide +kernel
theorem dX11_take_59 : decode cX11_take 59 = .ok (.iastore, 1) := by decide +kernel
theorem dX11_take_60 : decode cX11_take 60 = .ok (.iconst 0, 1) := by decide +kernel
theorem dX11_take_61 : decode cX11_take 61 = .ok (.istore_n 1, 1) := by decide +kernel
theorem dX11_take_62 : decode cX11_take 62 = .ok (.iload_n 1, 1) := by decide +kernel
theorem dX11_take_63 : decode cX11_take 63 = .ok (.bipush 6, 2) := by decide +kernel
theorem dX11_take_65 : decode cX11_take 65 = .ok (.if_icmp .ge 24, 3) := by decide +kernel
theorem dX11_take_68 : decode cX11_take 68 = .ok (.aload_n 0, 1) := by decide +kernel
theorem dX11_take_69 : decode cX11_take 69 = .ok (.getfield 17, 3) := by decide +kernel
theorem dX11_take_72 : decode cX11_take 72 = .ok (.iload_n 1, 1) := by decide +kernel
theorem dX11_take_73 : decode cX11_take 73 = .ok (.aload_n 0, 1) := by decide +kernel
theorem dX11_take_74 : decode cX11_take 74 = .ok (.getfield 17, 3) := by decide +kernel
theorem dX11_take_77 : decode cX11_take 77 = .ok (.bipush 6, 2) := by decide +kernel
theorem dX11_take_79 : decode cX11_take 79 = .ok (.iload_n 1, 1) := by decide +kernel
theorem dX11_take_80 : decode cX11_take 80 = .ok (.iadd, 1) := by decide +kernel
theorem dX11_take_81 : decode cX11_take 81 = .ok (.iaload, 1) := by decide +kernel
theorem dX11_take_82 : decode cX11_take 82 = .ok (.iastore, 1) := by decide +kernel
theorem dX11_take_83 : decode cX11_take 83 = .ok (.iinc 1 1, 3) := by decide +kernel
theorem dX11_take_86 : decode cX11_take 86 = .ok (.goto (-24), 3) := by decide +kernel
theorem dX11_take_89 : decode cX11_take 89 = .ok (.iconst 0, 1) := by decide +kernel
theorem dX11_take_90 : decode cX11_take 90 = .ok (.istore_n 1, 1) := by decide +kernel
theorem dX11_take_91 : decode cX11_take 91 = .ok (.iload_n 1, 1) := by decide +kernel
theorem dX11_take_92 : decode cX11_take 92 = .ok (.bipush 8, 2) := by decide +kernel
theorem dX11_take_94 : decode cX11_take 94 = .ok (.if_icmp .ge 78, 3) := by decide +kernel
theorem dX11_take_97 : decode cX11_take 97 = .ok (.aload_n 0, 1) := by decide +kernel
theorem dX11_take_98 : decode cX11_take 98 = .ok (.getfield 23, 3) := by decide +kernel
theorem dX11_take_101 : decode cX11_take 101 = .ok (.iload_n 1, 1) := by decide +kernel
theorem dX11_take_102 : decode cX11_take 102 = .ok (.aload_n 0, 1) := by decide +kernel
theorem dX11_take_103 : decode cX11_take 103 = .ok (.getfield 23, 3) := by decide +kernel
theorem dX11_take_106 : decode cX11_take 106 = .ok (.bipush 8, 2) := by decide +kernel
theorem dX11_take_108 : decode cX11_take 108 = .ok (.iload_n 1, 1) := by decide +kernel
theorem dX11_take_109 : decode cX11_take 109 = .ok (.iadd, 1) := by decide +kernel
theorem dX11_take_110 : decode cX11_take 110 = .ok (.iaload, 1) := by decide +kernel
theorem dX11_take_111 : decode cX11_take 111 = .ok (.iastore, 1) := by decide +kernel
theorem dX11_take_112 : decode cX11_take 112 = .ok (.aload_n 0, 1) := by decide +kernel
theorem dX11_take_113 : decode cX11_take 113 = .ok (.getfield 26, 3) := by decide +kernel
theorem dX11_take_116 : decode cX11_take 116 = .ok (.iload_n 1, 1) := by decide +kernel
theorem dX11_take_117 : decode cX11_take 117 = .ok (.aload_n 0, 1) := by decide +kernel
theorem dX11_take_118 : decode cX11_take 118 = .ok (.getfield 26, 3) := by decide +kernel
theorem dX11_take_121 : decode cX11_take 121 = .ok (.bipush 8, 2) := by decide +kernel
theorem dX11_take_123 : decode cX11_take 123 = .ok (.iload_n 1, 1) := by decide +kernel
theorem dX11_take_124 : decode cX11_take 124 = .ok (.iadd, 1) := by decide +kernel
theorem dX11_take_125 : decode cX11_take 125 = .ok (.iaload, 1) := by decide +kernel
theorem dX11_take_126 : decode cX11_take 126 = .ok (.iastore, 1) := by decide +kernel
theorem dX11_take_127 : decode cX11_take 127 = .ok (.iconst 0, 1) := by decide +kernel
theorem dX11_take_128 : decode cX11_take 128 = .ok (.istore_n 2, 1) := by decide +kernel
theorem dX11_take_129 : decode cX11_take 129 = .ok (.iload_n 2, 1) := by decide +kernel
theorem dX11_take_130 : decode cX11_take 130 = .ok (.bipush 6, 2) := by decide +kernel
theorem dX11_take_132 : decode cX11_take 132 = .ok (.if_icmp .ge 34, 3) := by decide +kernel
theorem dX11_take_135 : decode cX11_take 135 = .ok (.aload_n 0, 1) := by decide +kernel
theorem dX11_take_136 : decode cX11_take 136 = .ok (.getfield 29, 3) := by decide +kernel
theorem dX11_take_139 : decode cX11_take 139 = .ok (.bipush 6, 2) := by decide +kernel
theorem dX11_take_141 : decode cX11_take 141 = .ok (.iload_n 1, 1) := by decide +kernel
theorem dX11_take_142 : decode cX11_take 142 = .ok (.imul, 1) := by decide +kernel
theorem dX11_take_143 : decode cX11_take 143 = .ok (.iload_n 2, 1) := by decide +kernel
theorem dX11_take_144 : decode cX11_take 144 = .ok (.iadd, 1) := by decide +kernel
theorem dX11_take_145 : decode cX11_take 145 = .ok (.aload_n 0, 1) := by decide +kernel
theorem dX11_take_146 : decode cX11_take 146 = .ok (.getfield 29, 3) := by decide +kernel
theorem dX11_take_149 : decode cX11_take 149 = .ok (.bipush 6, 2) := by decide +kernel
theorem dX11_take_151 : decode cX11_take 151 = .ok (.bipush 8, 2) := by decide +kernel
theorem dX11_take_153 : decode cX11_take 153 = .ok (.iload_n 1, 1) := by decide +kernel
theorem dX11_take_154 : decode cX11_take 154 = .ok (.iadd, 1) := by decide +kernel
theorem dX11_take_155 : decode cX11_take 155 = .ok (.imul, 1) := by decide +kernel
theorem dX11_take_156 : decode cX11_take 156 = .ok (.iload_n 2, 1) := by decide +kernel
theorem dX11_take_157 : decode cX11_take 157 = .ok (.iadd, 1) := by decide +kernel
theorem dX11_take_158 : decode cX11_take 158 = .ok (.iaload, 1) := by decide +kernel
theorem dX11_take_159 : decode cX11_take 159 = .ok (.iastore, 1) := by decide +kernel
theorem dX11_take_160 : decode cX11_take 160 = .ok (.iinc 2 1, 3) := by decide +kernel
theorem dX11_take_163 : decode cX11_take 163 = .ok (.goto (-34), 3) := by decide +kernel
theorem dX11_take_166 : decode cX11_take 166 = .ok (.iinc 1 1, 3) := by decide +kernel
theorem dX11_take_169 : decode cX11_take 169 = .ok (.goto (-78), 3) := by decide +kernel
theorem dX11_take_172 : decode cX11_take 172 = .ok (.iconst 0, 1) := by decide +kernel
theorem dX11_take_173 : decode cX11_take 173 = .ok (.istore_n 1, 1) := by decide +kernel
theorem dX11_take_174 : decode cX11_take 174 = .ok (.iload_n 1, 1) := by decide +kernel
theorem dX11_take_175 : decode cX11_take 175 = .ok (.bipush 8, 2) := by decide +kernel
theorem dX11_take_177 : decode cX11_take 177 = .ok (.if_icmp .ge 69, 3) := by decide +kernel
theorem dX11_take_180 : decode cX11_take 180 = .ok (.aload_n 0, 1) := by decide +kernel
theorem dX11_take_181 : decode cX11_take 181 = .ok (.getfield 35, 3) := by decide +kernel
theorem dX11_take_184 : decode cX11_take 184 = .ok (.iload_n 1, 1) := by decide +kernel
theorem dX11_take_185 : decode cX11_take 185 = .ok (.aload_n 0, 1) := by decide +kernel
theorem dX11_take_186 : decode cX11_take 186 = .ok (.getfield 35, 3) := by decide +kernel
theorem dX11_take_189 : decode cX11_take 189 = .ok (.bipush 8, 2) := by decide +kernel
theorem dX11_take_191 : decode cX11_take 191 = .ok (.iload_n 1, 1) := by decide +kernel
theorem dX11_take_192 : decode cX11_take 192 = .ok (.iadd, 1) := by decide +kernel
theorem dX11_take_193 : decode cX11_take 193 = .ok (.iaload, 1) := by decide +kernel
theorem dX11_take_194 : decode cX11_take 194 = .ok (.iastore, 1) := by decide +kernel
theorem dX11_take_195 : decode cX11_take 195 = .ok (.aload_n 0, 1) := by decide +kernel
theorem dX11_take_196 : decode cX11_take 196 = .ok (.getfield 38, 3) := by decide +kernel
theorem dX11_take_199 : decode cX11_take 199 = .ok (.iload_n 1, 1) := by decide +kernel
theorem dX11_take_200 : decode cX11_take 200 = .ok (.aload_n 0, 1) := by decide +kernel
theorem dX11_take_201 : decode cX11_take 201 = .ok (.getfield 38, 3) := by decide +kernel
theorem dX11_take_204 : decode cX11_take 204 = .ok (.bipush 8, 2) := by decide +kernel
theorem dX11_take_206 : decode cX11_take 206 = .ok (.iload_n 1, 1) := by decide +kernel
theorem dX11_take_207 : decode cX11_take 207 = .ok (.iadd, 1) := by decide +kernel
theorem dX11_take_208 : decode cX11_take 208 = .ok (.iaload, 1) := by decide +kernel
theorem dX11_take_209 : decode cX11_take 209 = .ok (.iastore, 1) := by decide +kernel
theorem dX11_take_210 : decode cX11_take 210 = .ok (.aload_n 0, 1) := by decide +kernel
theorem dX11_take_211 : decode cX11_take 211 = .ok (.getfield 41, 3) := by decide +kernel
theorem dX11_take_214 : decode cX11_take 214 = .ok (.iload_n 1, 1) := by decide +kernel
theorem dX11_take_215 : decode cX11_take 215 = .ok (.aload_n 0, 1) := by decide +kernel
theorem dX11_take_216 : decode cX11_take 216 = .ok (.getfield 41, 3) := by decide +kernel
theorem dX11_take_219 : decode cX11_take 219 = .ok (.bipush 8, 2) := by decide +kernel
theorem dX11_take_221 : decode cX11_take 221 = .ok (.iload_n 1, 1) := by decide +kernel
theorem dX11_take_222 : decode cX11_take 222 = .ok (.iadd, 1) := by decide +kernel
theorem dX11_take_223 : decode cX11_take 223 = .ok (.iaload, 1) := by decide +kernel
theorem dX11_take_224 : decode cX11_take 224 = .ok (.iastore, 1) := by decide +kernel
theorem dX11_take_225 : decode cX11_take 225 = .ok (.aload_n 0, 1) := by decide +kernel
theorem dX11_take_226 : decode cX11_take 226 = .ok (.getfield 44, 3) := by decide +kernel
theorem dX11_take_229 : decode cX11_take 229 = .ok (.iload_n 1, 1) := by decide +kernel
theorem dX11_take_230 : decode cX11_take 230 = .ok (.aload_n 0, 1) := by decide +kernel
theorem dX11_take_231 : decode cX11_take 231 = .ok (.getfield 44, 3) := by decide +kernel
theorem dX11_take_234 : decode cX11_take 234 = .ok (.bipush 8, 2) := by decide +kernel
theorem dX11_take_236 : decode cX11_take 236 = .ok (.iload_n 1, 1) := by decide +kernel
theorem dX11_take_237 : decode cX11_take 237 = .ok (.iadd, 1) := by decide +kernel
theorem dX11_take_238 : decode cX11_take 238 = .ok (.iaload, 1) := by decide +kernel
theorem dX11_take_239 : decode cX11_take 239 = .ok (.iastore, 1) := by decide +kernel
theorem dX11_take_240 : decode cX11_take 240 = .ok (.iinc 1 1, 3) := by decide +kernel
theorem dX11_take_243 : decode cX11_take 243 = .ok (.goto (-69), 3) := by decide +kernel
theorem dX11_take_246 : decode cX11_take 246 = .ok (.return_, 1) := by decide +kernel
theorem dX11_isSuspect_0 : decode cX11_isSuspect 0 = .ok (.iload_n 1, 1) := by decide +kernel
theorem dX11_isSuspect_1 : decode cX11_isSuspect 1 = .ok (.iconst 0, 1) := by decide +kernel
theorem dX11_isSuspect_2 : decode cX11_isSuspect 2 = .ok (.aload_n 0, 1) := by decide +kernel
theorem dX11_isSuspect_3 : decode cX11_isSuspect 3 = .ok (.getfield 13, 3) := by decide +kernel
theorem dX11_isSuspect_6 : decode cX11_isSuspect 6 = .ok (.iconst 0, 1) := by decide +kernel
theorem dX11_isSuspect_7 : decode cX11_isSuspect 7 = .ok (.iaload, 1) := by decide +kernel
theorem dX11_isSuspect_8 : decode cX11_isSuspect 8 = .ok (.iconst 1, 1) := by decide +kernel
theorem dX11_isSuspect_9 : decode cX11_isSuspect 9 = .ok (.isub, 1) := by decide +kernel
theorem dX11_isSuspect_10 : decode cX11_isSuspect 10 = .ok (.invokestatic 72, 3) := by decide +kernel
theorem dX11_isSuspect_13 : decode cX11_isSuspect 13 = .ok (.ireturn, 1) := by decide +kernel
theorem dX11_isFact_0 : decode cX11_isFact 0 = .ok (.iload_n 1, 1) := by decide +kernel
theorem dX11_isFact_1 : decode cX11_isFact 1 = .ok (.iconst 0, 1) := by decide +kernel
theorem dX11_isFact_2 : decode cX11_isFact 2 = .ok (.aload_n 0, 1) := by decide +kernel
theorem dX11_isFact_3 : decode cX11_isFact 3 = .ok (.getfield 20, 3) := by decide +kernel
theorem dX11_isFact_6 : decode cX11_isFact 6 = .ok (.iconst 0, 1) := by decide +kernel
theorem dX11_isFact_7 : decode cX11_isFact 7 = .ok (.iaload, 1) := by decide +kernel
theorem dX11_isFact_8 : decode cX11_isFact 8 = .ok (.iconst 1, 1) := by decide +kernel
theorem dX11_isFact_9 : decode cX11_isFact 9 = .ok (.isub, 1) := by decide +kernel
theorem dX11_isFact_10 : decode cX11_isFact 10 = .ok (.invokestatic 72, 3) := by decide +kernel
theorem dX11_isFact_13 : decode cX11_isFact 13 = .ok (.ireturn, 1) := by decide +kernel
theorem dX11_isAlibi_0 : decode cX11_isAlibi 0 = .ok (.iload_n 1, 1) := by decide +kernel
theorem dX11_isAlibi_1 : decode cX11_isAlibi 1 = .ok (.iconst 0, 1) := by decide +kernel
theorem dX11_isAlibi_2 : decode cX11_isAlibi 2 = .ok (.aload_n 0, 1) := by decide +kernel
theorem dX11_isAlibi_3 : decode cX11_isAlibi 3 = .ok (.getfield 32, 3) := by decide +kernel
theorem dX11_isAlibi_6 : decode cX11_isAlibi 6 = .ok (.iconst 0, 1) := by decide +kernel
theorem dX11_isAlibi_7 : decode cX11_isAlibi 7 = .ok (.iaload, 1) := by decide +kernel
theorem dX11_isAlibi_8 : decode cX11_isAlibi 8 = .ok (.iconst 1, 1) := by decide +kernel
theorem dX11_isAlibi_9 : decode cX11_isAlibi 9 = .ok (.isub, 1) := by decide +kernel
theorem dX11_isAlibi_10 : decode cX11_isAlibi 10 = .ok (.invokestatic 72, 3) := by decide +kernel
theorem dX11_isAlibi_13 : decode cX11_isAlibi 13 = .ok (.ireturn, 1) := by decide +kernel
theorem dX11_hoursOf_0 : decode cX11_hoursOf 0 = .ok (.iconst 0, 1) := by decide +kernel
theorem dX11_hoursOf_1 : decode cX11_hoursOf 1 = .ok (.istore_n 2, 1) := by decide +kernel
theorem dX11_hoursOf_2 : decode cX11_hoursOf 2 = .ok (.aload_n 0, 1) := by decide +kernel
theorem dX11_hoursOf_3 : decode cX11_hoursOf 3 = .ok (.getfield 47, 3) := by decide +kernel
theorem dX11_hoursOf_6 : decode cX11_hoursOf 6 = .ok (.iconst 0, 1) := by decide +kernel
theorem dX11_hoursOf_7 : decode cX11_hoursOf 7 = .ok (.iaload, 1) := by decide +kernel
theorem dX11_hoursOf_8 : decode cX11_hoursOf 8 = .ok (.istore_n 3, 1) := by decide +kernel
theorem dX11_hoursOf_9 : decode cX11_hoursOf 9 = .ok (.iload_n 3, 1) := by decide +kernel
theorem dX11_hoursOf_10 : decode cX11_hoursOf 10 = .ok (.aload_n 0, 1) := by decide +kernel
theorem dX11_hoursOf_11 : decode cX11_hoursOf 11 = .ok (.getfield 50, 3) := by decide +kernel
theorem dX11_hoursOf_14 : decode cX11_hoursOf 14 = .ok (.iconst 0, 1) := by decide +kernel
theorem dX11_hoursOf_15 : decode cX11_hoursOf 15 = .ok (.iaload, 1) := by decide +kernel
theorem dX11_hoursOf_16 : decode cX11_hoursOf 16 = .ok (.if_icmp .gt 104, 3) := by decide +kernel
theorem dX11_hoursOf_19 : decode cX11_hoursOf 19 = .ok (.iconst 0, 1) := by decide +kernel
theorem dX11_hoursOf_20 : decode cX11_hoursOf 20 = .ok (.istore 4, 2) := by decide +kernel
theorem dX11_hoursOf_22 : decode cX11_hoursOf 22 = .ok (.iconst 0, 1) := by decide +kernel
theorem dX11_hoursOf_23 : decode cX11_hoursOf 23 = .ok (.istore 5, 2) := by decide +kernel
theorem dX11_hoursOf_25 : decode cX11_hoursOf 25 = .ok (.iload 5, 2) := by decide +kernel
theorem dX11_hoursOf_27 : decode cX11_hoursOf 27 = .ok (.aload_n 0, 1) := by decide +kernel
theorem dX11_hoursOf_28 : decode cX11_hoursOf 28 = .ok (.getfield 32, 3) := by decide +kernel
theorem dX11_hoursOf_31 : decode cX11_hoursOf 31 = .ok (.iconst 0, 1) := by decide +kernel
theorem dX11_hoursOf_32 : decode cX11_hoursOf 32 = .ok (.iaload, 1) := by decide +kernel
theorem dX11_hoursOf_33 : decode cX11_hoursOf 33 = .ok (.if_icmp .ge 68, 3) := by decide +kernel
theorem dX11_hoursOf_36 : decode cX11_hoursOf 36 = .ok (.iload 4, 2) := by decide +kernel
theorem dX11_hoursOf_38 : decode cX11_hoursOf 38 = .ok (.ifCond .ne 50, 3) := by decide +kernel
theorem dX11_hoursOf_41 : decode cX11_hoursOf 41 = .ok (.aload_n 0, 1) := by decide +kernel
theorem dX11_hoursOf_42 : decode cX11_hoursOf 42 = .ok (.getfield 53, 3) := by decide +kernel
theorem dX11_hoursOf_45 : decode cX11_hoursOf 45 = .ok (.iconst 1, 1) := by decide +kernel
theorem dX11_hoursOf_46 : decode cX11_hoursOf 46 = .ok (.iaload, 1) := by decide +kernel
theorem dX11_hoursOf_47 : decode cX11_hoursOf 47 = .ok (.iload 5, 2) := by decide +kernel
theorem dX11_hoursOf_49 : decode cX11_hoursOf 49 = .ok (.ishr, 1) := by decide +kernel
theorem dX11_hoursOf_50 : decode cX11_hoursOf 50 = .ok (.iconst 1, 1) := by decide +kernel
theorem dX11_hoursOf_51 : decode cX11_hoursOf 51 = .ok (.iand, 1) := by decide +kernel
theorem dX11_hoursOf_52 : decode cX11_hoursOf 52 = .ok (.iconst 1, 1) := by decide +kernel
theorem dX11_hoursOf_53 : decode cX11_hoursOf 53 = .ok (.if_icmp .ne 39, 3) := by decide +kernel
theorem dX11_hoursOf_56 : decode cX11_hoursOf 56 = .ok (.aload_n 0, 1) := by decide +kernel
theorem dX11_hoursOf_57 : decode cX11_hoursOf 57 = .ok (.getfield 35, 3) := by decide +kernel
theorem dX11_hoursOf_60 : decode cX11_hoursOf 60 = .ok (.iload 5, 2) := by decide +kernel
theorem dX11_hoursOf_62 : decode cX11_hoursOf 62 = .ok (.iaload, 1) := by decide +kernel
theorem dX11_hoursOf_63 : decode cX11_hoursOf 63 = .ok (.iload_n 1, 1) := by decide +kernel
theorem dX11_hoursOf_64 : decode cX11_hoursOf 64 = .ok (.if_icmp .ne 28, 3) := by decide +kernel
theorem dX11_hoursOf_67 : decode cX11_hoursOf 67 = .ok (.iload_n 3, 1) := by decide +kernel
theorem dX11_hoursOf_68 : decode cX11_hoursOf 68 = .ok (.aload_n 0, 1) := by decide +kernel
theorem dX11_hoursOf_69 : decode cX11_hoursOf 69 = .ok (.getfield 41, 3) := by decide +kernel
theorem dX11_hoursOf_72 : decode cX11_hoursOf 72 = .ok (.iload 5, 2) := by decide +kernel
theorem dX11_hoursOf_74 : decode cX11_hoursOf 74 = .ok (.iaload, 1) := by decide +kernel
theorem dX11_hoursOf_75 : decode cX11_hoursOf 75 = .ok (.aload_n 0, 1) := by decide +kernel
theorem dX11_hoursOf_76 : decode cX11_hoursOf 76 = .ok (.getfield 44, 3) := by decide +kernel
theorem dX11_hoursOf_79 : decode cX11_hoursOf 79 = .ok (.iload 5, 2) := by decide +kernel
theorem dX11_hoursOf_81 : decode cX11_hoursOf 81 = .ok (.iaload, 1) := by decide +kernel
theorem dX11_hoursOf_82 : decode cX11_hoursOf 82 = .ok (.invokestatic 72, 3) := by decide +kernel
theorem dX11_hoursOf_85 : decode cX11_hoursOf 85 = .ok (.ifCond .eq 7, 3) := by decide +kernel
theorem dX11_hoursOf_88 : decode cX11_hoursOf 88 = .ok (.iconst 1, 1) := by decide +kernel
theorem dX11_hoursOf_89 : decode cX11_hoursOf 89 = .ok (.goto 4, 3) := by decide +kernel
theorem dX11_hoursOf_92 : decode cX11_hoursOf 92 = .ok (.iconst 0, 1) := by decide +kernel
theorem dX11_hoursOf_93 : decode cX11_hoursOf 93 = .ok (.istore 4, 2) := by decide +kernel
theorem dX11_hoursOf_95 : decode cX11_hoursOf 95 = .ok (.iinc 5 1, 3) := by decide +kernel
theorem dX11_hoursOf_98 : decode cX11_hoursOf 98 = .ok (.goto (-73), 3) := by decide +kernel
theorem dX11_hoursOf_101 : decode cX11_hoursOf 101 = .ok (.iload_n 2, 1) := by decide +kernel
theorem dX11_hoursOf_102 : decode cX11_hoursOf 102 = .ok (.iload 4, 2) := by decide +kernel
theorem dX11_hoursOf_104 : decode cX11_hoursOf 104 = .ok (.ifCond .eq 7, 3) := by decide +kernel
theorem dX11_hoursOf_107 : decode cX11_hoursOf 107 = .ok (.iconst 1, 1) := by decide +kernel
theorem dX11_hoursOf_108 : decode cX11_hoursOf 108 = .ok (.goto 4, 3) := by decide +kernel
theorem dX11_hoursOf_111 : decode cX11_hoursOf 111 = .ok (.iconst 0, 1) := by decide +kernel
theorem dX11_hoursOf_112 : decode cX11_hoursOf 112 = .ok (.iadd, 1) := by decide +kernel
theorem dX11_hoursOf_113 : decode cX11_hoursOf 113 = .ok (.istore_n 2, 1) := by decide +kernel
theorem dX11_hoursOf_114 : decode cX11_hoursOf 114 = .ok (.iinc 3 1, 3) := by decide +kernel
theorem dX11_hoursOf_117 : decode cX11_hoursOf 117 = .ok (.goto (-108), 3) := by decide +kernel
theorem dX11_hoursOf_120 : decode cX11_hoursOf 120 = .ok (.iload_n 2, 1) := by decide +kernel
theorem dX11_hoursOf_121 : decode cX11_hoursOf 121 = .ok (.ireturn, 1) := by decide +kernel
theorem dX11_heldBy_0 : decode cX11_heldBy 0 = .ok (.aload_n 0, 1) := by decide +kernel
theorem dX11_heldBy_1 : decode cX11_heldBy 1 = .ok (.getfield 17, 3) := by decide +kernel
theorem dX11_heldBy_4 : decode cX11_heldBy 4 = .ok (.iload_n 1, 1) := by decide +kernel
theorem dX11_heldBy_5 : decode cX11_heldBy 5 = .ok (.iaload, 1) := by decide +kernel
theorem dX11_heldBy_6 : decode cX11_heldBy 6 = .ok (.istore_n 3, 1) := by decide +kernel
theorem dX11_heldBy_7 : decode cX11_heldBy 7 = .ok (.iconst 0, 1) := by decide +kernel
theorem dX11_heldBy_8 : decode cX11_heldBy 8 = .ok (.istore 4, 2) := by decide +kernel
theorem dX11_heldBy_10 : decode cX11_heldBy 10 = .ok (.iload 4, 2) := by decide +kernel
theorem dX11_heldBy_12 : decode cX11_heldBy 12 = .ok (.aload_n 0, 1) := by decide +kernel
theorem dX11_heldBy_13 : decode cX11_heldBy 13 = .ok (.getfield 20, 3) := by decide +kernel
theorem dX11_heldBy_16 : decode cX11_heldBy 16 = .ok (.iconst 0, 1) := by decide +kernel
theorem dX11_heldBy_17 : decode cX11_heldBy 17 = .ok (.iaload, 1) := by decide +kernel
theorem dX11_heldBy_18 : decode cX11_heldBy 18 = .ok (.if_icmp .ge 49, 3) := by decide +kernel
theorem dX11_heldBy_21 : decode cX11_heldBy 21 = .ok (.iload_n 3, 1) := by decide +kernel
theorem dX11_heldBy_22 : decode cX11_heldBy 22 = .ok (.iload_n 2, 1) := by decide +kernel
theorem dX11_heldBy_23 : decode cX11_heldBy 23 = .ok (.iload 4, 2) := by decide +kernel
theorem dX11_heldBy_25 : decode cX11_heldBy 25 = .ok (.ishr, 1) := by decide +kernel
theorem dX11_heldBy_26 : decode cX11_heldBy 26 = .ok (.iconst 1, 1) := by decide +kernel
theorem dX11_heldBy_27 : decode cX11_heldBy 27 = .ok (.iand, 1) := by decide +kernel
theorem dX11_heldBy_28 : decode cX11_heldBy 28 = .ok (.iconst 1, 1) := by decide +kernel
theorem dX11_heldBy_29 : decode cX11_heldBy 29 = .ok (.if_icmp .ne 29, 3) := by decide +kernel
theorem dX11_heldBy_32 : decode cX11_heldBy 32 = .ok (.aload_n 0, 1) := by decide +kernel
theorem dX11_heldBy_33 : decode cX11_heldBy 33 = .ok (.getfield 29, 3) := by decide +kernel
theorem dX11_heldBy_36 : decode cX11_heldBy 36 = .ok (.bipush 6, 2) := by decide +kernel
theorem dX11_heldBy_38 : decode cX11_heldBy 38 = .ok (.iload 4, 2) := by decide +kernel
theorem dX11_heldBy_40 : decode cX11_heldBy 40 = .ok (.imul, 1) := by decide +kernel
theorem dX11_heldBy_41 : decode cX11_heldBy 41 = .ok (.iload_n 1, 1) := by decide +kernel
theorem dX11_heldBy_42 : decode cX11_heldBy 42 = .ok (.iadd, 1) := by decide +kernel
theorem dX11_heldBy_43 : decode cX11_heldBy 43 = .ok (.iaload, 1) := by decide +kernel
theorem dX11_heldBy_44 : decode cX11_heldBy 44 = .ok (.aload_n 0, 1) := by decide +kernel
theorem dX11_heldBy_45 : decode cX11_heldBy 45 = .ok (.getfield 26, 3) := by decide +kernel
theorem dX11_heldBy_48 : decode cX11_heldBy 48 = .ok (.iload 4, 2) := by decide +kernel
theorem dX11_heldBy_50 : decode cX11_heldBy 50 = .ok (.iaload, 1) := by decide +kernel
theorem dX11_heldBy_51 : decode cX11_heldBy 51 = .ok (.imul, 1) := by decide +kernel
theorem dX11_heldBy_52 : decode cX11_heldBy 52 = .ok (.bipush 10, 2) := by decide +kernel
theorem dX11_heldBy_54 : decode cX11_heldBy 54 = .ok (.idiv, 1) := by decide +kernel
theorem dX11_heldBy_55 : decode cX11_heldBy 55 = .ok (.goto 4, 3) := by decide +kernel
theorem dX11_heldBy_58 : decode cX11_heldBy 58 = .ok (.iconst 0, 1) := by decide +kernel
theorem dX11_heldBy_59 : decode cX11_heldBy 59 = .ok (.iadd, 1) := by decide +kernel
theorem dX11_heldBy_60 : decode cX11_heldBy 60 = .ok (.istore_n 3, 1) := by decide +kernel
theorem dX11_heldBy_61 : decode cX11_heldBy 61 = .ok (.iinc 4 1, 3) := by decide +kernel
theorem dX11_heldBy_64 : decode cX11_heldBy 64 = .ok (.goto (-54), 3) := by decide +kernel
theorem dX11_heldBy_67 : decode cX11_heldBy 67 = .ok (.iload_n 3, 1) := by decide +kernel
theorem dX11_heldBy_68 : decode cX11_heldBy 68 = .ok (.ifCond .ge 7, 3) := by decide +kernel
theorem dX11_heldBy_71 : decode cX11_heldBy 71 = .ok (.iconst 0, 1) := by decide +kernel
theorem dX11_heldBy_72 : decode cX11_heldBy 72 = .ok (.goto 4, 3) := by decide +kernel
theorem dX11_heldBy_75 : decode cX11_heldBy 75 = .ok (.iload_n 3, 1) := by decide +kernel
theorem dX11_heldBy_76 : decode cX11_heldBy 76 = .ok (.istore_n 3, 1) := by decide +kernel
theorem dX11_heldBy_77 : decode cX11_heldBy 77 = .ok (.iload_n 3, 1) := by decide +kernel
theorem dX11_heldBy_78 : decode cX11_heldBy 78 = .ok (.aload_n 0, 1) := by decide +kernel
theorem dX11_heldBy_79 : decode cX11_heldBy 79 = .ok (.iload_n 1, 1) := by decide +kernel
theorem dX11_heldBy_80 : decode cX11_heldBy 80 = .ok (.invokevirtual 137, 3) := by decide +kernel
theorem dX11_heldBy_83 : decode cX11_heldBy 83 = .ok (.isub, 1) := by decide +kernel
theorem dX11_heldBy_84 : decode cX11_heldBy 84 = .ok (.istore_n 3, 1) := by decide +kernel
theorem dX11_heldBy_85 : decode cX11_heldBy 85 = .ok (.iload_n 3, 1) := by decide +kernel
theorem dX11_heldBy_86 : decode cX11_heldBy 86 = .ok (.ifCond .ge 7, 3) := by decide +kernel
theorem dX11_heldBy_89 : decode cX11_heldBy 89 = .ok (.iconst 0, 1) := by decide +kernel
theorem dX11_heldBy_90 : decode cX11_heldBy 90 = .ok (.goto 4, 3) := by decide +kernel
theorem dX11_heldBy_93 : decode cX11_heldBy 93 = .ok (.iload_n 3, 1) := by decide +kernel
theorem dX11_heldBy_94 : decode cX11_heldBy 94 = .ok (.ireturn, 1) := by decide +kernel
theorem dX11_hold_0 : decode cX11_hold 0 = .ok (.aload_n 0, 1) := by decide +kernel
theorem dX11_hold_1 : decode cX11_hold 1 = .ok (.iconst 0, 1) := by decide +kernel
theorem dX11_hold_2 : decode cX11_hold 2 = .ok (.putfield 141, 3) := by decide +kernel
theorem dX11_hold_5 : decode cX11_hold 5 = .ok (.iconst 0, 1) := by decide +kernel
theorem dX11_hold_6 : decode cX11_hold 6 = .ok (.istore_n 2, 1) := by decide +kernel
theorem dX11_hold_7 : decode cX11_hold 7 = .ok (.iload_n 2, 1) := by decide +kernel
theorem dX11_hold_8 : decode cX11_hold 8 = .ok (.aload_n 0, 1) := by decide +kernel
theorem dX11_hold_9 : decode cX11_hold 9 = .ok (.getfield 13, 3) := by decide +kernel
theorem dX11_hold_12 : decode cX11_hold 12 = .ok (.iconst 0, 1) := by decide +kernel
theorem dX11_hold_13 : decode cX11_hold 13 = .ok (.iaload, 1) := by decide +kernel
theorem dX11_hold_14 : decode cX11_hold 14 = .ok (.if_icmp .ge 36, 3) := by decide +kernel
theorem dX11_hold_17 : decode cX11_hold 17 = .ok (.aload_n 0, 1) := by decide +kernel
theorem dX11_hold_18 : decode cX11_hold 18 = .ok (.getfield 60, 3) := by decide +kernel
theorem dX11_hold_21 : decode cX11_hold 21 = .ok (.iload_n 2, 1) := by decide +kernel
theorem dX11_hold_22 : decode cX11_hold 22 = .ok (.aload_n 0, 1) := by decide +kernel
theorem dX11_hold_23 : decode cX11_hold 23 = .ok (.iload_n 2, 1) := by decide +kernel
theorem dX11_hold_24 : decode cX11_hold 24 = .ok (.iload_n 1, 1) := by decide +kernel
theorem dX11_hold_25 : decode cX11_hold 25 = .ok (.invokevirtual 144, 3) := by decide +kernel
theorem dX11_hold_28 : decode cX11_hold 28 = .ok (.iastore, 1) := by decide +kernel
theorem dX11_hold_29 : decode cX11_hold 29 = .ok (.aload_n 0, 1) := by decide +kernel
theorem dX11_hold_30 : decode cX11_hold 30 = .ok (.dup, 1) := by decide +kernel
theorem dX11_hold_31 : decode cX11_hold 31 = .ok (.getfield 141, 3) := by decide +kernel
theorem dX11_hold_34 : decode cX11_hold 34 = .ok (.aload_n 0, 1) := by decide +kernel
theorem dX11_hold_35 : decode cX11_hold 35 = .ok (.getfield 60, 3) := by decide +kernel
theorem dX11_hold_38 : decode cX11_hold 38 = .ok (.iload_n 2, 1) := by decide +kernel
theorem dX11_hold_39 : decode cX11_hold 39 = .ok (.iaload, 1) := by decide +kernel
theorem dX11_hold_40 : decode cX11_hold 40 = .ok (.iadd, 1) := by decide +kernel
theorem dX11_hold_41 : decode cX11_hold 41 = .ok (.putfield 141, 3) := by decide +kernel
theorem dX11_hold_44 : decode cX11_hold 44 = .ok (.iinc 2 1, 3) := by decide +kernel
theorem dX11_hold_47 : decode cX11_hold 47 = .ok (.goto (-40), 3) := by decide +kernel
theorem dX11_hold_50 : decode cX11_hold 50 = .ok (.return_, 1) := by decide +kernel
theorem dX11_serve_0 : decode cX11_serve 0 = .ok (.aload_n 0, 1) := by decide +kernel
theorem dX11_serve_1 : decode cX11_serve 1 = .ok (.getfield 141, 3) := by decide +kernel
theorem dX11_serve_4 : decode cX11_serve 4 = .ok (.ifCond .ne 7, 3) := by decide +kernel
theorem dX11_serve_7 : decode cX11_serve 7 = .ok (.iconst 0, 1) := by decide +kernel
theorem dX11_serve_8 : decode cX11_serve 8 = .ok (.goto 9, 3) := by decide +kernel
theorem dX11_serve_11 : decode cX11_serve 11 = .ok (.aload_n 0, 1) := by decide +kernel
theorem dX11_serve_12 : decode cX11_serve 12 = .ok (.getfield 53, 3) := by decide +kernel
theorem dX11_serve_15 : decode cX11_serve 15 = .ok (.iconst 2, 1) := by decide +kernel
theorem dX11_serve_16 : decode cX11_serve 16 = .ok (.iaload, 1) := by decide +kernel
theorem dX11_serve_17 : decode cX11_serve 17 = .ok (.istore_n 1, 1) := by decide +kernel
theorem dX11_serve_18 : decode cX11_serve 18 = .ok (.iconst 0, 1) := by decide +kernel
theorem dX11_serve_19 : decode cX11_serve 19 = .ok (.istore_n 2, 1) := by decide +kernel
theorem dX11_serve_20 : decode cX11_serve 20 = .ok (.iload_n 2, 1) := by decide +kernel
theorem dX11_serve_21 : decode cX11_serve 21 = .ok (.aload_n 0, 1) := by decide +kernel
theorem dX11_serve_22 : decode cX11_serve 22 = .ok (.getfield 13, 3) := by decide +kernel
theorem dX11_serve_25 : decode cX11_serve 25 = .ok (.iconst 0, 1) := by decide +kernel
theorem dX11_serve_26 : decode cX11_serve 26 = .ok (.iaload, 1) := by decide +kernel
theorem dX11_serve_27 : decode cX11_serve 27 = .ok (.if_icmp .ge 53, 3) := by decide +kernel
theorem dX11_serve_30 : decode cX11_serve 30 = .ok (.aload_n 0, 1) := by decide +kernel
theorem dX11_serve_31 : decode cX11_serve 31 = .ok (.getfield 63, 3) := by decide +kernel
theorem dX11_serve_34 : decode cX11_serve 34 = .ok (.iload_n 2, 1) := by decide +kernel
theorem dX11_serve_35 : decode cX11_serve 35 = .ok (.aload_n 0, 1) := by decide +kernel
theorem dX11_serve_36 : decode cX11_serve 36 = .ok (.getfield 141, 3) := by decide +kernel
theorem dX11_serve_39 : decode cX11_serve 39 = .ok (.ifCond .ne 7, 3) := by decide +kernel
theorem dX11_serve_42 : decode cX11_serve 42 = .ok (.iconst 0, 1) := by decide +kernel
theorem dX11_serve_43 : decode cX11_serve 43 = .ok (.goto 21, 3) := by decide +kernel
theorem dX11_serve_46 : decode cX11_serve 46 = .ok (.aload_n 0, 1) := by decide +kernel
theorem dX11_serve_47 : decode cX11_serve 47 = .ok (.getfield 53, 3) := by decide +kernel
theorem dX11_serve_50 : decode cX11_serve 50 = .ok (.iconst 2, 1) := by decide +kernel
theorem dX11_serve_51 : decode cX11_serve 51 = .ok (.iaload, 1) := by decide +kernel
theorem dX11_serve_52 : decode cX11_serve 52 = .ok (.aload_n 0, 1) := by decide +kernel
theorem dX11_serve_53 : decode cX11_serve 53 = .ok (.getfield 60, 3) := by decide +kernel
theorem dX11_serve_56 : decode cX11_serve 56 = .ok (.iload_n 2, 1) := by decide +kernel
theorem dX11_serve_57 : decode cX11_serve 57 = .ok (.iaload, 1) := by decide +kernel
theorem dX11_serve_58 : decode cX11_serve 58 = .ok (.imul, 1) := by decide +kernel
theorem dX11_serve_59 : decode cX11_serve 59 = .ok (.aload_n 0, 1) := by decide +kernel
theorem dX11_serve_60 : decode cX11_serve 60 = .ok (.getfield 141, 3) := by decide +kernel
theorem dX11_serve_63 : decode cX11_serve 63 = .ok (.idiv, 1) := by decide +kernel
theorem dX11_serve_64 : decode cX11_serve 64 = .ok (.iastore, 1) := by decide +kernel
theorem dX11_serve_65 : decode cX11_serve 65 = .ok (.iload_n 1, 1) := by decide +kernel
theorem dX11_serve_66 : decode cX11_serve 66 = .ok (.aload_n 0, 1) := by decide +kernel
theorem dX11_serve_67 : decode cX11_serve 67 = .ok (.getfield 63, 3) := by decide +kernel
theorem dX11_serve_70 : decode cX11_serve 70 = .ok (.iload_n 2, 1) := by decide +kernel
theorem dX11_serve_71 : decode cX11_serve 71 = .ok (.iaload, 1) := by decide +kernel
theorem dX11_serve_72 : decode cX11_serve 72 = .ok (.isub, 1) := by decide +kernel
theorem dX11_serve_73 : decode cX11_serve 73 = .ok (.istore_n 1, 1) := by decide +kernel
theorem dX11_serve_74 : decode cX11_serve 74 = .ok (.iinc 2 1, 3) := by decide +kernel
theorem dX11_serve_77 : decode cX11_serve 77 = .ok (.goto (-57), 3) := by decide +kernel
theorem dX11_serve_80 : decode cX11_serve 80 = .ok (.iconst 0, 1) := by decide +kernel
theorem dX11_serve_81 : decode cX11_serve 81 = .ok (.istore_n 2, 1) := by decide +kernel
theorem dX11_serve_82 : decode cX11_serve 82 = .ok (.iload_n 1, 1) := by decide +kernel
theorem dX11_serve_83 : decode cX11_serve 83 = .ok (.ifCond .le 118, 3) := by decide +kernel
theorem dX11_serve_86 : decode cX11_serve 86 = .ok (.bipush (-9), 2) := by decide +kernel
theorem dX11_serve_88 : decode cX11_serve 88 = .ok (.istore_n 3, 1) := by decide +kernel
theorem dX11_serve_89 : decode cX11_serve 89 = .ok (.iconst 0, 1) := by decide +kernel
theorem dX11_serve_90 : decode cX11_serve 90 = .ok (.istore 4, 2) := by decide +kernel
theorem dX11_serve_92 : decode cX11_serve 92 = .ok (.iload 4, 2) := by decide +kernel
theorem dX11_serve_94 : decode cX11_serve 94 = .ok (.aload_n 0, 1) := by decide +kernel
theorem dX11_serve_95 : decode cX11_serve 95 = .ok (.getfield 13, 3) := by decide +kernel
theorem dX11_serve_98 : decode cX11_serve 98 = .ok (.iconst 0, 1) := by decide +kernel
theorem dX11_serve_99 : decode cX11_serve 99 = .ok (.iaload, 1) := by decide +kernel
theorem dX11_serve_100 : decode cX11_serve 100 = .ok (.if_icmp .ge 79, 3) := by decide +kernel
theorem dX11_serve_103 : decode cX11_serve 103 = .ok (.iload_n 2, 1) := by decide +kernel
theorem dX11_serve_104 : decode cX11_serve 104 = .ok (.iload 4, 2) := by decide +kernel
theorem dX11_serve_106 : decode cX11_serve 106 = .ok (.ishr, 1) := by decide +kernel
theorem dX11_serve_107 : decode cX11_serve 107 = .ok (.iconst 1, 1) := by decide +kernel
theorem dX11_serve_108 : decode cX11_serve 108 = .ok (.iand, 1) := by decide +kernel
theorem dX11_serve_109 : decode cX11_serve 109 = .ok (.ifCond .ne 7, 3) := by decide +kernel
theorem dX11_serve_112 : decode cX11_serve 112 = .ok (.iconst 1, 1) := by decide +kernel
theorem dX11_serve_113 : decode cX11_serve 113 = .ok (.goto 4, 3) := by decide +kernel
theorem dX11_serve_116 : decode cX11_serve 116 = .ok (.iconst 0, 1) := by decide +kernel
theorem dX11_serve_117 : decode cX11_serve 117 = .ok (.istore 5, 2) := by decide +kernel
theorem dX11_serve_119 : decode cX11_serve 119 = .ok (.iload 5, 2) := by decide +kernel
theorem dX11_serve_121 : decode cX11_serve 121 = .ok (.ifCond .eq 52, 3) := by decide +kernel
theorem dX11_serve_124 : decode cX11_serve 124 = .ok (.iload_n 3, 1) := by decide +kernel
theorem dX11_serve_125 : decode cX11_serve 125 = .ok (.bipush (-9), 2) := by decide +kernel
theorem dX11_serve_127 : decode cX11_serve 127 = .ok (.if_icmp .eq 43, 3) := by decide +kernel
theorem dX11_serve_130 : decode cX11_serve 130 = .ok (.aload_n 0, 1) := by decide +kernel
theorem dX11_serve_131 : decode cX11_serve 131 = .ok (.getfield 53, 3) := by decide +kernel
theorem dX11_serve_134 : decode cX11_serve 134 = .ok (.iconst 2, 1) := by decide +kernel
theorem dX11_serve_135 : decode cX11_serve 135 = .ok (.iaload, 1) := by decide +kernel
theorem dX11_serve_136 : decode cX11_serve 136 = .ok (.aload_n 0, 1) := by decide +kernel
theorem dX11_serve_137 : decode cX11_serve 137 = .ok (.getfield 60, 3) := by decide +kernel
theorem dX11_serve_140 : decode cX11_serve 140 = .ok (.iload 4, 2) := by decide +kernel
theorem dX11_serve_142 : decode cX11_serve 142 = .ok (.iaload, 1) := by decide +kernel
theorem dX11_serve_143 : decode cX11_serve 143 = .ok (.imul, 1) := by decide +kernel
theorem dX11_serve_144 : decode cX11_serve 144 = .ok (.aload_n 0, 1) := by decide +kernel
theorem dX11_serve_145 : decode cX11_serve 145 = .ok (.getfield 141, 3) := by decide +kernel
theorem dX11_serve_148 : decode cX11_serve 148 = .ok (.irem, 1) := by decide +kernel
theorem dX11_serve_149 : decode cX11_serve 149 = .ok (.aload_n 0, 1) := by decide +kernel
theorem dX11_serve_150 : decode cX11_serve 150 = .ok (.getfield 53, 3) := by decide +kernel
theorem dX11_serve_153 : decode cX11_serve 153 = .ok (.iconst 2, 1) := by decide +kernel
theorem dX11_serve_154 : decode cX11_serve 154 = .ok (.iaload, 1) := by decide +kernel
theorem dX11_serve_155 : decode cX11_serve 155 = .ok (.aload_n 0, 1) := by decide +kernel
theorem dX11_serve_156 : decode cX11_serve 156 = .ok (.getfield 60, 3) := by decide +kernel
theorem dX11_serve_159 : decode cX11_serve 159 = .ok (.iload_n 3, 1) := by decide +kernel
theorem dX11_serve_160 : decode cX11_serve 160 = .ok (.iaload, 1) := by decide +kernel
theorem dX11_serve_161 : decode cX11_serve 161 = .ok (.imul, 1) := by decide +kernel
theorem dX11_serve_162 : decode cX11_serve 162 = .ok (.aload_n 0, 1) := by decide +kernel
theorem dX11_serve_163 : decode cX11_serve 163 = .ok (.getfield 141, 3) := by decide +kernel
theorem dX11_serve_166 : decode cX11_serve 166 = .ok (.irem, 1) := by decide +kernel
theorem dX11_serve_167 : decode cX11_serve 167 = .ok (.if_icmp .le 6, 3) := by decide +kernel
theorem dX11_serve_170 : decode cX11_serve 170 = .ok (.iload 4, 2) := by decide +kernel
theorem dX11_serve_172 : decode cX11_serve 172 = .ok (.istore_n 3, 1) := by decide +kernel
theorem dX11_serve_173 : decode cX11_serve 173 = .ok (.iinc 4 1, 3) := by decide +kernel
theorem dX11_serve_176 : decode cX11_serve 176 = .ok (.goto (-84), 3) := by decide +kernel
theorem dX11_serve_179 : decode cX11_serve 179 = .ok (.aload_n 0, 1) := by decide +kernel
theorem dX11_serve_180 : decode cX11_serve 180 = .ok (.getfield 63, 3) := by decide +kernel
theorem dX11_serve_183 : decode cX11_serve 183 = .ok (.iload_n 3, 1) := by decide +kernel
theorem dX11_serve_184 : decode cX11_serve 184 = .ok (.dup2, 1) := by decide +kernel
theorem dX11_serve_185 : decode cX11_serve 185 = .ok (.iaload, 1) := by decide +kernel
theorem dX11_serve_186 : decode cX11_serve 186 = .ok (.iconst 1, 1) := by decide +kernel
theorem dX11_serve_187 : decode cX11_serve 187 = .ok (.iadd, 1) := by decide +kernel
theorem dX11_serve_188 : decode cX11_serve 188 = .ok (.iastore, 1) := by decide +kernel
theorem dX11_serve_189 : decode cX11_serve 189 = .ok (.iload_n 2, 1) := by decide +kernel
theorem dX11_serve_190 : decode cX11_serve 190 = .ok (.iconst 1, 1) := by decide +kernel
theorem dX11_serve_191 : decode cX11_serve 191 = .ok (.iload_n 3, 1) := by decide +kernel
theorem dX11_serve_192 : decode cX11_serve 192 = .ok (.ishl, 1) := by decide +kernel
theorem dX11_serve_193 : decode cX11_serve 193 = .ok (.ior, 1) := by decide +kernel
theorem dX11_serve_194 : decode cX11_serve 194 = .ok (.istore_n 2, 1) := by decide +kernel
theorem dX11_serve_195 : decode cX11_serve 195 = .ok (.iinc 1 (-1), 3) := by decide +kernel
theorem dX11_serve_198 : decode cX11_serve 198 = .ok (.goto (-116), 3) := by decide +kernel
theorem dX11_serve_201 : decode cX11_serve 201 = .ok (.return_, 1) := by decide +kernel
theorem dX11_asNow_0 : decode cX11_asNow 0 = .ok (.aload_n 0, 1) := by decide +kernel
theorem dX11_asNow_1 : decode cX11_asNow 1 = .ok (.aload_n 0, 1) := by decide +kernel
theorem dX11_asNow_2 : decode cX11_asNow 2 = .ok (.getfield 53, 3) := by decide +kernel
theorem dX11_asNow_5 : decode cX11_asNow 5 = .ok (.iconst 0, 1) := by decide +kernel
theorem dX11_asNow_6 : decode cX11_asNow 6 = .ok (.iaload, 1) := by decide +kernel
theorem dX11_asNow_7 : decode cX11_asNow 7 = .ok (.invokevirtual 147, 3) := by decide +kernel
theorem dX11_asNow_10 : decode cX11_asNow 10 = .ok (.aload_n 0, 1) := by decide +kernel
theorem dX11_asNow_11 : decode cX11_asNow 11 = .ok (.invokevirtual 150, 3) := by decide +kernel
theorem dX11_asNow_14 : decode cX11_asNow 14 = .ok (.return_, 1) := by decide +kernel
theorem dX11_theCase_0 : decode cX11_theCase 0 = .ok (.aload_n 0, 1) := by decide +kernel
theorem dX11_theCase_1 : decode cX11_theCase 1 = .ok (.aload_n 0, 1) := by decide +kernel
theorem dX11_theCase_2 : decode cX11_theCase 2 = .ok (.getfield 53, 3) := by decide +kernel
theorem dX11_theCase_5 : decode cX11_theCase 5 = .ok (.iconst 0, 1) := by decide +kernel
theorem dX11_theCase_6 : decode cX11_theCase 6 = .ok (.iaload, 1) := by decide +kernel
theorem dX11_theCase_7 : decode cX11_theCase 7 = .ok (.invokevirtual 147, 3) := by decide +kernel
theorem dX11_theCase_10 : decode cX11_theCase 10 = .ok (.aload_n 0, 1) := by decide +kernel
theorem dX11_theCase_11 : decode cX11_theCase 11 = .ok (.getfield 141, 3) := by decide +kernel
theorem dX11_theCase_14 : decode cX11_theCase 14 = .ok (.ireturn, 1) := by decide +kernel
theorem dX11_suspect_0 : decode cX11_suspect 0 = .ok (.aload_n 0, 1) := by decide +kernel
theorem dX11_suspect_1 : decode cX11_suspect 1 = .ok (.iload_n 1, 1) := by decide +kernel
theorem dX11_suspect_2 : decode cX11_suspect 2 = .ok (.invokevirtual 153, 3) := by decide +kernel
theorem dX11_suspect_5 : decode cX11_suspect 5 = .ok (.ifCond .ne 5, 3) := by decide +kernel
theorem dX11_suspect_8 : decode cX11_suspect 8 = .ok (.iconst (-1), 1) := by decide +kernel
theorem dX11_suspect_9 : decode cX11_suspect 9 = .ok (.ireturn, 1) := by decide +kernel
theorem dX11_suspect_10 : decode cX11_suspect 10 = .ok (.aload_n 0, 1) := by decide +kernel
theorem dX11_suspect_11 : decode cX11_suspect 11 = .ok (.invokevirtual 156, 3) := by decide +kernel
theorem dX11_suspect_14 : decode cX11_suspect 14 = .ok (.iload_n 2, 1) := by decide +kernel
theorem dX11_suspect_15 : decode cX11_suspect 15 = .ok (.tableswitch 56 0 3 #[29, 36, 43, 50], 29) := by decide +kernel
theorem dX11_suspect_44 : decode cX11_suspect 44 = .ok (.aload_n 0, 1) := by decide +kernel
theorem dX11_suspect_45 : decode cX11_suspect 45 = .ok (.getfield 17, 3) := by decide +kernel
theorem dX11_suspect_48 : decode cX11_suspect 48 = .ok (.iload_n 1, 1) := by decide +kernel
theorem dX11_suspect_49 : decode cX11_suspect 49 = .ok (.iaload, 1) := by decide +kernel
theorem dX11_suspect_50 : decode cX11_suspect 50 = .ok (.ireturn, 1) := by decide +kernel
theorem dX11_suspect_51 : decode cX11_suspect 51 = .ok (.aload_n 0, 1) := by decide +kernel
theorem dX11_suspect_52 : decode cX11_suspect 52 = .ok (.getfield 60, 3) := by decide +kernel
theorem dX11_suspect_55 : decode cX11_suspect 55 = .ok (.iload_n 1, 1) := by decide +kernel
theorem dX11_suspect_56 : decode cX11_suspect 56 = .ok (.iaload, 1) := by decide +kernel
theorem dX11_suspect_57 : decode cX11_suspect 57 = .ok (.ireturn, 1) := by decide +kernel
theorem dX11_suspect_58 : decode cX11_suspect 58 = .ok (.aload_n 0, 1) := by decide +kernel
theorem dX11_suspect_59 : decode cX11_suspect 59 = .ok (.getfield 63, 3) := by decide +kernel
theorem dX11_suspect_62 : decode cX11_suspect 62 = .ok (.iload_n 1, 1) := by decide +kernel
theorem dX11_suspect_63 : decode cX11_suspect 63 = .ok (.iaload, 1) := by decide +kernel
theorem dX11_suspect_64 : decode cX11_suspect 64 = .ok (.ireturn, 1) := by decide +kernel
theorem dX11_suspect_65 : decode cX11_suspect 65 = .ok (.aload_n 0, 1) := by decide +kernel
theorem dX11_suspect_66 : decode cX11_suspect 66 = .ok (.iload_n 1, 1) := by decide +kernel
theorem dX11_suspect_67 : decode cX11_suspect 67 = .ok (.invokevirtual 137, 3) := by decide +kernel
theorem dX11_suspect_70 : decode cX11_suspect 70 = .ok (.ireturn, 1) := by decide +kernel
theorem dX11_suspect_71 : decode cX11_suspect 71 = .ok (.iconst (-1), 1) := by decide +kernel
theorem dX11_suspect_72 : decode cX11_suspect 72 = .ok (.ireturn, 1) := by decide +kernel
theorem dX11_fact_0 : decode cX11_fact 0 = .ok (.aload_n 0, 1) := by decide +kernel
theorem dX11_fact_1 : decode cX11_fact 1 = .ok (.iload_n 1, 1) := by decide +kernel
theorem dX11_fact_2 : decode cX11_fact 2 = .ok (.invokevirtual 159, 3) := by decide +kernel
theorem dX11_fact_5 : decode cX11_fact 5 = .ok (.ifCond .ne 5, 3) := by decide +kernel
theorem dX11_fact_8 : decode cX11_fact 8 = .ok (.iconst (-1), 1) := by decide +kernel
theorem dX11_fact_9 : decode cX11_fact 9 = .ok (.ireturn, 1) := by decide +kernel
theorem dX11_fact_10 : decode cX11_fact 10 = .ok (.iload_n 2, 1) := by decide +kernel
theorem dX11_fact_11 : decode cX11_fact 11 = .ok (.ifCond .ne 12, 3) := by decide +kernel
theorem dX11_fact_14 : decode cX11_fact 14 = .ok (.aload_n 0, 1) := by decide +kernel
theorem dX11_fact_15 : decode cX11_fact 15 = .ok (.getfield 23, 3) := by decide +kernel
theorem dX11_fact_18 : decode cX11_fact 18 = .ok (.iload_n 1, 1) := by decide +kernel
theorem dX11_fact_19 : decode cX11_fact 19 = .ok (.iaload, 1) := by decide +kernel
theorem dX11_fact_20 : decode cX11_fact 20 = .ok (.goto 36, 3) := by decide +kernel
theorem dX11_fact_23 : decode cX11_fact 23 = .ok (.iload_n 2, 1) := by decide +kernel
theorem dX11_fact_24 : decode cX11_fact 24 = .ok (.iconst 1, 1) := by decide +kernel
theorem dX11_fact_25 : decode cX11_fact 25 = .ok (.if_icmp .ne 12, 3) := by decide +kernel
theorem dX11_fact_28 : decode cX11_fact 28 = .ok (.aload_n 0, 1) := by decide +kernel
theorem dX11_fact_29 : decode cX11_fact 29 = .ok (.getfield 26, 3) := by decide +kernel
theorem dX11_fact_32 : decode cX11_fact 32 = .ok (.iload_n 1, 1) := by decide +kernel
theorem dX11_fact_33 : decode cX11_fact 33 = .ok (.iaload, 1) := by decide +kernel
theorem dX11_fact_34 : decode cX11_fact 34 = .ok (.goto 22, 3) := by decide +kernel
theorem dX11_fact_37 : decode cX11_fact 37 = .ok (.iload_n 2, 1) := by decide +kernel
theorem dX11_fact_38 : decode cX11_fact 38 = .ok (.iconst 2, 1) := by decide +kernel
theorem dX11_fact_39 : decode cX11_fact 39 = .ok (.if_icmp .ne 16, 3) := by decide +kernel
theorem dX11_fact_42 : decode cX11_fact 42 = .ok (.aload_n 0, 1) := by decide +kernel
theorem dX11_fact_43 : decode cX11_fact 43 = .ok (.getfield 53, 3) := by decide +kernel
theorem dX11_fact_46 : decode cX11_fact 46 = .ok (.iconst 0, 1) := by decide +kernel
theorem dX11_fact_47 : decode cX11_fact 47 = .ok (.iaload, 1) := by decide +kernel
theorem dX11_fact_48 : decode cX11_fact 48 = .ok (.iload_n 1, 1) := by decide +kernel
theorem dX11_fact_49 : decode cX11_fact 49 = .ok (.ishr, 1) := by decide +kernel
theorem dX11_fact_50 : decode cX11_fact 50 = .ok (.iconst 1, 1) := by decide +kernel
theorem dX11_fact_51 : decode cX11_fact 51 = .ok (.iand, 1) := by decide +kernel
theorem dX11_fact_52 : decode cX11_fact 52 = .ok (.goto 4, 3) := by decide +kernel
theorem dX11_fact_55 : decode cX11_fact 55 = .ok (.iconst (-1), 1) := by decide +kernel
theorem dX11_fact_56 : decode cX11_fact 56 = .ok (.ireturn, 1) := by decide +kernel
theorem dX11_moves_0 : decode cX11_moves 0 = .ok (.aload_n 0, 1) := by decide +kernel
theorem dX11_moves_1 : decode cX11_moves 1 = .ok (.iload_n 1, 1) := by decide +kernel
theorem dX11_moves_2 : decode cX11_moves 2 = .ok (.invokevirtual 159, 3) := by decide +kernel
theorem dX11_moves_5 : decode cX11_moves 5 = .ok (.ifCond .eq 25, 3) := by decide +kernel
theorem dX11_moves_8 : decode cX11_moves 8 = .ok (.aload_n 0, 1) := by decide +kernel
theorem dX11_moves_9 : decode cX11_moves 9 = .ok (.iload_n 2, 1) := by decide +kernel
theorem dX11_moves_10 : decode cX11_moves 10 = .ok (.invokevirtual 153, 3) := by decide +kernel
theorem dX11_moves_13 : decode cX11_moves 13 = .ok (.ifCond .eq 17, 3) := by decide +kernel
theorem dX11_moves_16 : decode cX11_moves 16 = .ok (.aload_n 0, 1) := by decide +kernel
theorem dX11_moves_17 : decode cX11_moves 17 = .ok (.getfield 29, 3) := by decide +kernel
theorem dX11_moves_20 : decode cX11_moves 20 = .ok (.bipush 6, 2) := by decide +kernel
theorem dX11_moves_22 : decode cX11_moves 22 = .ok (.iload_n 1, 1) := by decide +kernel
theorem dX11_moves_23 : decode cX11_moves 23 = .ok (.imul, 1) := by decide +kernel
theorem dX11_moves_24 : decode cX11_moves 24 = .ok (.iload_n 2, 1) := by decide +kernel
theorem dX11_moves_25 : decode cX11_moves 25 = .ok (.iadd, 1) := by decide +kernel
theorem dX11_moves_26 : decode cX11_moves 26 = .ok (.iaload, 1) := by decide +kernel
theorem dX11_moves_27 : decode cX11_moves 27 = .ok (.goto 5, 3) := by decide +kernel
theorem dX11_moves_30 : decode cX11_moves 30 = .ok (.ldc 162, 2) := by decide +kernel
theorem dX11_moves_32 : decode cX11_moves 32 = .ok (.ireturn, 1) := by decide +kernel
theorem dX11_alibi_0 : decode cX11_alibi 0 = .ok (.aload_n 0, 1) := by decide +kernel
theorem dX11_alibi_1 : decode cX11_alibi 1 = .ok (.iload_n 1, 1) := by decide +kernel
theorem dX11_alibi_2 : decode cX11_alibi 2 = .ok (.invokevirtual 163, 3) := by decide +kernel
theorem dX11_alibi_5 : decode cX11_alibi 5 = .ok (.ifCond .ne 5, 3) := by decide +kernel
theorem dX11_alibi_8 : decode cX11_alibi 8 = .ok (.iconst (-1), 1) := by decide +kernel
theorem dX11_alibi_9 : decode cX11_alibi 9 = .ok (.ireturn, 1) := by decide +kernel
theorem dX11_alibi_10 : decode cX11_alibi 10 = .ok (.iload_n 2, 1) := by decide +kernel
theorem dX11_alibi_11 : decode cX11_alibi 11 = .ok (.tableswitch 72 0 4 #[33, 40, 47, 54, 61], 33) := by decide +kernel
theorem dX11_alibi_44 : decode cX11_alibi 44 = .ok (.aload_n 0, 1) := by decide +kernel
theorem dX11_alibi_45 : decode cX11_alibi 45 = .ok (.getfield 35, 3) := by decide +kernel
theorem dX11_alibi_48 : decode cX11_alibi 48 = .ok (.iload_n 1, 1) := by decide +kernel
theorem dX11_alibi_49 : decode cX11_alibi 49 = .ok (.iaload, 1) := by decide +kernel
theorem dX11_alibi_50 : decode cX11_alibi 50 = .ok (.ireturn, 1) := by decide +kernel
theorem dX11_alibi_51 : decode cX11_alibi 51 = .ok (.aload_n 0, 1) := by decide +kernel
theorem dX11_alibi_52 : decode cX11_alibi 52 = .ok (.getfield 38, 3) := by decide +kernel
theorem dX11_alibi_55 : decode cX11_alibi 55 = .ok (.iload_n 1, 1) := by decide +kernel
theorem dX11_alibi_56 : decode cX11_alibi 56 = .ok (.iaload, 1) := by decide +kernel
theorem dX11_alibi_57 : decode cX11_alibi 57 = .ok (.ireturn, 1) := by decide +kernel
theorem dX11_alibi_58 : decode cX11_alibi 58 = .ok (.aload_n 0, 1) := by decide +kernel
theorem dX11_alibi_59 : decode cX11_alibi 59 = .ok (.getfield 41, 3) := by decide +kernel
theorem dX11_alibi_62 : decode cX11_alibi 62 = .ok (.iload_n 1, 1) := by decide +kernel
theorem dX11_alibi_63 : decode cX11_alibi 63 = .ok (.iaload, 1) := by decide +kernel
theorem dX11_alibi_64 : decode cX11_alibi 64 = .ok (.ireturn, 1) := by decide +kernel
theorem dX11_alibi_65 : decode cX11_alibi 65 = .ok (.aload_n 0, 1) := by decide +kernel
theorem dX11_alibi_66 : decode cX11_alibi 66 = .ok (.getfield 44, 3) := by decide +kernel
theorem dX11_alibi_69 : decode cX11_alibi 69 = .ok (.iload_n 1, 1) := by decide +kernel
theorem dX11_alibi_70 : decode cX11_alibi 70 = .ok (.iaload, 1) := by decide +kernel
theorem dX11_alibi_71 : decode cX11_alibi 71 = .ok (.ireturn, 1) := by decide +kernel
theorem dX11_alibi_72 : decode cX11_alibi 72 = .ok (.aload_n 0, 1) := by decide +kernel
theorem dX11_alibi_73 : decode cX11_alibi 73 = .ok (.getfield 53, 3) := by decide +kernel
theorem dX11_alibi_76 : decode cX11_alibi 76 = .ok (.iconst 1, 1) := by decide +kernel
theorem dX11_alibi_77 : decode cX11_alibi 77 = .ok (.iaload, 1) := by decide +kernel
theorem dX11_alibi_78 : decode cX11_alibi 78 = .ok (.iload_n 1, 1) := by decide +kernel
theorem dX11_alibi_79 : decode cX11_alibi 79 = .ok (.ishr, 1) := by decide +kernel
theorem dX11_alibi_80 : decode cX11_alibi 80 = .ok (.iconst 1, 1) := by decide +kernel
theorem dX11_alibi_81 : decode cX11_alibi 81 = .ok (.iand, 1) := by decide +kernel
theorem dX11_alibi_82 : decode cX11_alibi 82 = .ok (.ireturn, 1) := by decide +kernel
theorem dX11_alibi_83 : decode cX11_alibi 83 = .ok (.iconst (-1), 1) := by decide +kernel
theorem dX11_alibi_84 : decode cX11_alibi 84 = .ok (.ireturn, 1) := by decide +kernel
theorem dX11_know_0 : decode cX11_know 0 = .ok (.aload_n 0, 1) := by decide +kernel
theorem dX11_know_1 : decode cX11_know 1 = .ok (.getfield 53, 3) := by decide +kernel
theorem dX11_know_4 : decode cX11_know 4 = .ok (.iconst 3, 1) := by decide +kernel
theorem dX11_know_5 : decode cX11_know 5 = .ok (.iaload, 1) := by decide +kernel
theorem dX11_know_6 : decode cX11_know 6 = .ok (.bipush 10, 2) := by decide +kernel
theorem dX11_know_8 : decode cX11_know 8 = .ok (.if_icmp .ne 44, 3) := by decide +kernel
theorem dX11_know_11 : decode cX11_know 11 = .ok (.iconst 0, 1) := by decide +kernel
theorem dX11_know_12 : decode cX11_know 12 = .ok (.istore_n 1, 1) := by decide +kernel
theorem dX11_know_13 : decode cX11_know 13 = .ok (.iload_n 1, 1) := by decide +kernel
theorem dX11_know_14 : decode cX11_know 14 = .ok (.bipush 27, 2) := by decide +kernel
theorem dX11_know_16 : decode cX11_know 16 = .ok (.if_icmp .ge 26, 3) := by decide +kernel
theorem dX11_know_19 : decode cX11_know 19 = .ok (.aload_n 0, 1) := by decide +kernel
theorem dX11_know_20 : decode cX11_know 20 = .ok (.getfield 53, 3) := by decide +kernel
theorem dX11_know_23 : decode cX11_know 23 = .ok (.iconst 4, 1) := by decide +kernel
theorem dX11_know_24 : decode cX11_know 24 = .ok (.iload_n 1, 1) := by decide +kernel
theorem dX11_know_25 : decode cX11_know 25 = .ok (.iadd, 1) := by decide +kernel
theorem dX11_know_26 : decode cX11_know 26 = .ok (.aload_n 0, 1) := by decide +kernel
theorem dX11_know_27 : decode cX11_know 27 = .ok (.getfield 53, 3) := by decide +kernel
theorem dX11_know_30 : decode cX11_know 30 = .ok (.bipush 7, 2) := by decide +kernel
theorem dX11_know_32 : decode cX11_know 32 = .ok (.iload_n 1, 1) := by decide +kernel
theorem dX11_know_33 : decode cX11_know 33 = .ok (.iadd, 1) := by decide +kernel
theorem dX11_know_34 : decode cX11_know 34 = .ok (.iaload, 1) := by decide +kernel
theorem dX11_know_35 : decode cX11_know 35 = .ok (.iastore, 1) := by decide +kernel
theorem dX11_know_36 : decode cX11_know 36 = .ok (.iinc 1 1, 3) := by decide +kernel
theorem dX11_know_39 : decode cX11_know 39 = .ok (.goto (-26), 3) := by decide +kernel
theorem dX11_know_42 : decode cX11_know 42 = .ok (.aload_n 0, 1) := by decide +kernel
theorem dX11_know_43 : decode cX11_know 43 = .ok (.getfield 53, 3) := by decide +kernel
theorem dX11_know_46 : decode cX11_know 46 = .ok (.iconst 3, 1) := by decide +kernel
theorem dX11_know_47 : decode cX11_know 47 = .ok (.dup2, 1) := by decide +kernel
theorem dX11_know_48 : decode cX11_know 48 = .ok (.iaload, 1) := by decide +kernel
theorem dX11_know_49 : decode cX11_know 49 = .ok (.iconst 1, 1) := by decide +kernel
theorem dX11_know_50 : decode cX11_know 50 = .ok (.isub, 1) := by decide +kernel
theorem dX11_know_51 : decode cX11_know 51 = .ok (.iastore, 1) := by decide +kernel
theorem dX11_know_52 : decode cX11_know 52 = .ok (.iconst 0, 1) := by decide +kernel
theorem dX11_know_53 : decode cX11_know 53 = .ok (.istore_n 1, 1) := by decide +kernel
theorem dX11_know_54 : decode cX11_know 54 = .ok (.iload_n 1, 1) := by decide +kernel
theorem dX11_know_55 : decode cX11_know 55 = .ok (.iconst 3, 1) := by decide +kernel
theorem dX11_know_56 : decode cX11_know 56 = .ok (.if_icmp .ge 32, 3) := by decide +kernel
theorem dX11_know_59 : decode cX11_know 59 = .ok (.aload_n 0, 1) := by decide +kernel
theorem dX11_know_60 : decode cX11_know 60 = .ok (.getfield 53, 3) := by decide +kernel
theorem dX11_know_63 : decode cX11_know 63 = .ok (.iconst 4, 1) := by decide +kernel
theorem dX11_know_64 : decode cX11_know 64 = .ok (.iconst 3, 1) := by decide +kernel
theorem dX11_know_65 : decode cX11_know 65 = .ok (.aload_n 0, 1) := by decide +kernel
theorem dX11_know_66 : decode cX11_know 66 = .ok (.getfield 53, 3) := by decide +kernel
theorem dX11_know_69 : decode cX11_know 69 = .ok (.iconst 3, 1) := by decide +kernel
theorem dX11_know_70 : decode cX11_know 70 = .ok (.iaload, 1) := by decide +kernel
theorem dX11_know_71 : decode cX11_know 71 = .ok (.imul, 1) := by decide +kernel
theorem dX11_know_72 : decode cX11_know 72 = .ok (.iadd, 1) := by decide +kernel
theorem dX11_know_73 : decode cX11_know 73 = .ok (.iload_n 1, 1) := by decide +kernel
theorem dX11_know_74 : decode cX11_know 74 = .ok (.iadd, 1) := by decide +kernel
theorem dX11_know_75 : decode cX11_know 75 = .ok (.aload_n 0, 1) := by decide +kernel
theorem dX11_know_76 : decode cX11_know 76 = .ok (.getfield 53, 3) := by decide +kernel
theorem dX11_know_79 : decode cX11_know 79 = .ok (.iload_n 1, 1) := by decide +kernel
theorem dX11_know_80 : decode cX11_know 80 = .ok (.iaload, 1) := by decide +kernel
theorem dX11_know_81 : decode cX11_know 81 = .ok (.iastore, 1) := by decide +kernel
theorem dX11_know_82 : decode cX11_know 82 = .ok (.iinc 1 1, 3) := by decide +kernel
theorem dX11_know_85 : decode cX11_know 85 = .ok (.goto (-31), 3) := by decide +kernel
theorem dX11_know_88 : decode cX11_know 88 = .ok (.aload_n 0, 1) := by decide +kernel
theorem dX11_know_89 : decode cX11_know 89 = .ok (.getfield 53, 3) := by decide +kernel
theorem dX11_know_92 : decode cX11_know 92 = .ok (.iconst 3, 1) := by decide +kernel
theorem dX11_know_93 : decode cX11_know 93 = .ok (.dup2, 1) := by decide +kernel
theorem dX11_know_94 : decode cX11_know 94 = .ok (.iaload, 1) := by decide +kernel
theorem dX11_know_95 : decode cX11_know 95 = .ok (.iconst 1, 1) := by decide +kernel
theorem dX11_know_96 : decode cX11_know 96 = .ok (.iadd, 1) := by decide +kernel
theorem dX11_know_97 : decode cX11_know 97 = .ok (.iastore, 1) := by decide +kernel
theorem dX11_know_98 : decode cX11_know 98 = .ok (.return_, 1) := by decide +kernel
theorem dX11_find_0 : decode cX11_find 0 = .ok (.aload_n 0, 1) := by decide +kernel
theorem dX11_find_1 : decode cX11_find 1 = .ok (.iload_n 1, 1) := by decide +kernel
theorem dX11_find_2 : decode cX11_find 2 = .ok (.invokevirtual 159, 3) := by decide +kernel
theorem dX11_find_5 : decode cX11_find 5 = .ok (.ifCond .eq 12, 3) := by decide +kernel
theorem dX11_find_8 : decode cX11_find 8 = .ok (.iload_n 2, 1) := by decide +kernel
theorem dX11_find_9 : decode cX11_find 9 = .ok (.iconst 0, 1) := by decide +kernel
theorem dX11_find_10 : decode cX11_find 10 = .ok (.iconst 1, 1) := by decide +kernel
theorem dX11_find_11 : decode cX11_find 11 = .ok (.invokestatic 72, 3) := by decide +kernel
theorem dX11_find_14 : decode cX11_find 14 = .ok (.ifCond .ne 5, 3) := by decide +kernel
theorem dX11_find_17 : decode cX11_find 17 = .ok (.iconst (-1), 1) := by decide +kernel
theorem dX11_find_18 : decode cX11_find 18 = .ok (.ireturn, 1) := by decide +kernel
theorem dX11_find_19 : decode cX11_find 19 = .ok (.aload_n 0, 1) := by decide +kernel
theorem dX11_find_20 : decode cX11_find 20 = .ok (.getfield 53, 3) := by decide +kernel
theorem dX11_find_23 : decode cX11_find 23 = .ok (.iconst 0, 1) := by decide +kernel
theorem dX11_find_24 : decode cX11_find 24 = .ok (.iaload, 1) := by decide +kernel
theorem dX11_find_25 : decode cX11_find 25 = .ok (.iload_n 1, 1) := by decide +kernel
theorem dX11_find_26 : decode cX11_find 26 = .ok (.ishr, 1) := by decide +kernel
theorem dX11_find_27 : decode cX11_find 27 = .ok (.iconst 1, 1) := by decide +kernel
theorem dX11_find_28 : decode cX11_find 28 = .ok (.iand, 1) := by decide +kernel
theorem dX11_find_29 : decode cX11_find 29 = .ok (.iload_n 2, 1) := by decide +kernel
theorem dX11_find_30 : decode cX11_find 30 = .ok (.if_icmp .ne 6, 3) := by decide +kernel
theorem dX11_find_33 : decode cX11_find 33 = .ok (.bipush (-2), 2) := by decide +kernel
theorem dX11_find_35 : decode cX11_find 35 = .ok (.ireturn, 1) := by decide +kernel
theorem dX11_find_36 : decode cX11_find 36 = .ok (.aload_n 0, 1) := by decide +kernel
theorem dX11_find_37 : decode cX11_find 37 = .ok (.invokevirtual 166, 3) := by decide +kernel
theorem dX11_find_40 : decode cX11_find 40 = .ok (.aload_n 0, 1) := by decide +kernel
theorem dX11_find_41 : decode cX11_find 41 = .ok (.getfield 53, 3) := by decide +kernel
theorem dX11_find_44 : decode cX11_find 44 = .ok (.iconst 0, 1) := by decide +kernel
theorem dX11_find_45 : decode cX11_find 45 = .ok (.dup2, 1) := by decide +kernel
theorem dX11_find_46 : decode cX11_find 46 = .ok (.iaload, 1) := by decide +kernel
theorem dX11_find_47 : decode cX11_find 47 = .ok (.iconst 1, 1) := by decide +kernel
theorem dX11_find_48 : decode cX11_find 48 = .ok (.iload_n 1, 1) := by decide +kernel
theorem dX11_find_49 : decode cX11_find 49 = .ok (.ishl, 1) := by decide +kernel
theorem dX11_find_50 : decode cX11_find 50 = .ok (.ixor, 1) := by decide +kernel
theorem dX11_find_51 : decode cX11_find 51 = .ok (.iastore, 1) := by decide +kernel
theorem dX11_find_52 : decode cX11_find 52 = .ok (.aload_n 0, 1) := by decide +kernel
theorem dX11_find_53 : decode cX11_find 53 = .ok (.invokevirtual 169, 3) := by decide +kernel
theorem dX11_find_56 : decode cX11_find 56 = .ok (.ireturn, 1) := by decide +kernel
theorem dX11_hear_0 : decode cX11_hear 0 = .ok (.aload_n 0, 1) := by decide +kernel
theorem dX11_hear_1 : decode cX11_hear 1 = .ok (.iload_n 1, 1) := by decide +kernel
theorem dX11_hear_2 : decode cX11_hear 2 = .ok (.invokevirtual 163, 3) := by decide +kernel
theorem dX11_hear_5 : decode cX11_hear 5 = .ok (.ifCond .eq 12, 3) := by decide +kernel
theorem dX11_hear_8 : decode cX11_hear 8 = .ok (.iload_n 2, 1) := by decide +kernel
theorem dX11_hear_9 : decode cX11_hear 9 = .ok (.iconst 0, 1) := by decide +kernel
theorem dX11_hear_10 : decode cX11_hear 10 = .ok (.iconst 1, 1) := by decide +kernel
theorem dX11_hear_11 : decode cX11_hear 11 = .ok (.invokestatic 72, 3) := by decide +kernel
theorem dX11_hear_14 : decode cX11_hear 14 = .ok (.ifCond .ne 5, 3) := by decide +kernel
theorem dX11_hear_17 : decode cX11_hear 17 = .ok (.iconst (-1), 1) := by decide +kernel
theorem dX11_hear_18 : decode cX11_hear 18 = .ok (.ireturn, 1) := by decide +kernel
theorem dX11_hear_19 : decode cX11_hear 19 = .ok (.aload_n 0, 1) := by decide +kernel
theorem dX11_hear_20 : decode cX11_hear 20 = .ok (.getfield 53, 3) := by decide +kernel
theorem dX11_hear_23 : decode cX11_hear 23 = .ok (.iconst 1, 1) := by decide +kernel
theorem dX11_hear_24 : decode cX11_hear 24 = .ok (.iaload, 1) := by decide +kernel
theorem dX11_hear_25 : decode cX11_hear 25 = .ok (.iload_n 1, 1) := by decide +kernel
theorem dX11_hear_26 : decode cX11_hear 26 = .ok (.ishr, 1) := by decide +kernel
theorem dX11_hear_27 : decode cX11_hear 27 = .ok (.iconst 1, 1) := by decide +kernel
theorem dX11_hear_28 : decode cX11_hear 28 = .ok (.iand, 1) := by decide +kernel
theorem dX11_hear_29 : decode cX11_hear 29 = .ok (.iload_n 2, 1) := by decide +kernel
theorem dX11_hear_30 : decode cX11_hear 30 = .ok (.if_icmp .ne 6, 3) := by decide +kernel
theorem dX11_hear_33 : decode cX11_hear 33 = .ok (.bipush (-2), 2) := by decide +kernel
theorem dX11_hear_35 : decode cX11_hear 35 = .ok (.ireturn, 1) := by decide +kernel
theorem dX11_hear_36 : decode cX11_hear 36 = .ok (.aload_n 0, 1) := by decide +kernel
theorem dX11_hear_37 : decode cX11_hear 37 = .ok (.invokevirtual 166, 3) := by decide +kernel
theorem dX11_hear_40 : decode cX11_hear 40 = .ok (.aload_n 0, 1) := by decide +kernel
theorem dX11_hear_41 : decode cX11_hear 41 = .ok (.getfield 53, 3) := by decide +kernel
theorem dX11_hear_44 : decode cX11_hear 44 = .ok (.iconst 1, 1) := by decide +kernel
theorem dX11_hear_45 : decode cX11_hear 45 = .ok (.dup2, 1) := by decide +kernel
theorem dX11_hear_46 : decode cX11_hear 46 = .ok (.iaload, 1) := by decide +kernel
theorem dX11_hear_47 : decode cX11_hear 47 = .ok (.iconst 1, 1) := by decide +kernel
theorem dX11_hear_48 : decode cX11_hear 48 = .ok (.iload_n 1, 1) := by decide +kernel
theorem dX11_hear_49 : decode cX11_hear 49 = .ok (.ishl, 1) := by decide +kernel
theorem dX11_hear_50 : decode cX11_hear 50 = .ok (.ixor, 1) := by decide +kernel
theorem dX11_hear_51 : decode cX11_hear 51 = .ok (.iastore, 1) := by decide +kernel
theorem dX11_hear_52 : decode cX11_hear 52 = .ok (.aload_n 0, 1) := by decide +kernel
theorem dX11_hear_53 : decode cX11_hear 53 = .ok (.invokevirtual 169, 3) := by decide +kernel
theorem dX11_hear_56 : decode cX11_hear 56 = .ok (.ireturn, 1) := by decide +kernel
theorem dX11_days_0 : decode cX11_days 0 = .ok (.iload_n 1, 1) := by decide +kernel
theorem dX11_days_1 : decode cX11_days 1 = .ok (.iconst 0, 1) := by decide +kernel
theorem dX11_days_2 : decode cX11_days 2 = .ok (.bipush 60, 2) := by decide +kernel
theorem dX11_days_4 : decode cX11_days 4 = .ok (.invokestatic 72, 3) := by decide +kernel
theorem dX11_days_7 : decode cX11_days 7 = .ok (.ifCond .ne 5, 3) := by decide +kernel
theorem dX11_days_10 : decode cX11_days 10 = .ok (.iconst (-1), 1) := by decide +kernel
theorem dX11_days_11 : decode cX11_days 11 = .ok (.ireturn, 1) := by decide +kernel
