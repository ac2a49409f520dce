theorem dX11_days_12 : decode cX11_days 12 = .ok (.aload_n 0, 1) := by decide +kernel
theorem dX11_days_13 : decode cX11_days 13 = .ok (.getfield 53, 3) := by decide +kernel
theorem dX11_days_16 : decode cX11_days 16 = .ok (.iconst 2, 1) := by decide +kernel
theorem dX11_days_17 : decode cX11_days 17 = .ok (.iaload, 1) := by decide +kernel
theorem dX11_days_18 : decode cX11_days 18 = .ok (.iload_n 1, 1) := by decide +kernel
theorem dX11_days_19 : decode cX11_days 19 = .ok (.if_icmp .ne 6, 3) := by decide +kernel
theorem dX11_days_22 : decode cX11_days 22 = .ok (.bipush (-2), 2) := by decide +kernel
theorem dX11_days_24 : decode cX11_days 24 = .ok (.ireturn, 1) := by decide +kernel
theorem dX11_days_25 : decode cX11_days 25 = .ok (.aload_n 0, 1) := by decide +kernel
theorem dX11_days_26 : decode cX11_days 26 = .ok (.invokevirtual 166, 3) := by decide +kernel
theorem dX11_days_29 : decode cX11_days 29 = .ok (.aload_n 0, 1) := by decide +kernel
theorem dX11_days_30 : decode cX11_days 30 = .ok (.getfield 53, 3) := by decide +kernel
theorem dX11_days_33 : decode cX11_days 33 = .ok (.iconst 2, 1) := by decide +kernel
theorem dX11_days_34 : decode cX11_days 34 = .ok (.iaload, 1) := by decide +kernel
theorem dX11_days_35 : decode cX11_days 35 = .ok (.istore_n 2, 1) := by decide +kernel
theorem dX11_days_36 : decode cX11_days 36 = .ok (.aload_n 0, 1) := by decide +kernel
theorem dX11_days_37 : decode cX11_days 37 = .ok (.getfield 53, 3) := by decide +kernel
theorem dX11_days_40 : decode cX11_days 40 = .ok (.iconst 2, 1) := by decide +kernel
theorem dX11_days_41 : decode cX11_days 41 = .ok (.iload_n 1, 1) := by decide +kernel
theorem dX11_days_42 : decode cX11_days 42 = .ok (.iastore, 1) := by decide +kernel
theorem dX11_days_43 : decode cX11_days 43 = .ok (.iload_n 2, 1) := by decide +kernel
theorem dX11_days_44 : decode cX11_days 44 = .ok (.ireturn, 1) := by decide +kernel
theorem dX11_undo_0 : decode cX11_undo 0 = .ok (.aload_n 0, 1) := by decide +kernel
theorem dX11_undo_1 : decode cX11_undo 1 = .ok (.getfield 53, 3) := by decide +kernel
theorem dX11_undo_4 : decode cX11_undo 4 = .ok (.iconst 3, 1) := by decide +kernel
theorem dX11_undo_5 : decode cX11_undo 5 = .ok (.iaload, 1) := by decide +kernel
theorem dX11_undo_6 : decode cX11_undo 6 = .ok (.ifCond .ne 6, 3) := by decide +kernel
theorem dX11_undo_9 : decode cX11_undo 9 = .ok (.bipush (-2), 2) := by decide +kernel
theorem dX11_undo_11 : decode cX11_undo 11 = .ok (.ireturn, 1) := by decide +kernel
theorem dX11_undo_12 : decode cX11_undo 12 = .ok (.aload_n 0, 1) := by decide +kernel
theorem dX11_undo_13 : decode cX11_undo 13 = .ok (.getfield 53, 3) := by decide +kernel
theorem dX11_undo_16 : decode cX11_undo 16 = .ok (.iconst 3, 1) := by decide +kernel
theorem dX11_undo_17 : decode cX11_undo 17 = .ok (.dup2, 1) := by decide +kernel
theorem dX11_undo_18 : decode cX11_undo 18 = .ok (.iaload, 1) := by decide +kernel
theorem dX11_undo_19 : decode cX11_undo 19 = .ok (.iconst 1, 1) := by decide +kernel
theorem dX11_undo_20 : decode cX11_undo 20 = .ok (.isub, 1) := by decide +kernel
theorem dX11_undo_21 : decode cX11_undo 21 = .ok (.iastore, 1) := by decide +kernel
theorem dX11_undo_22 : decode cX11_undo 22 = .ok (.iconst 0, 1) := by decide +kernel
theorem dX11_undo_23 : decode cX11_undo 23 = .ok (.istore_n 1, 1) := by decide +kernel
theorem dX11_undo_24 : decode cX11_undo 24 = .ok (.iload_n 1, 1) := by decide +kernel
theorem dX11_undo_25 : decode cX11_undo 25 = .ok (.iconst 3, 1) := by decide +kernel
theorem dX11_undo_26 : decode cX11_undo 26 = .ok (.if_icmp .ge 32, 3) := by decide +kernel
theorem dX11_undo_29 : decode cX11_undo 29 = .ok (.aload_n 0, 1) := by decide +kernel
theorem dX11_undo_30 : decode cX11_undo 30 = .ok (.getfield 53, 3) := by decide +kernel
theorem dX11_undo_33 : decode cX11_undo 33 = .ok (.iload_n 1, 1) := by decide +kernel
theorem dX11_undo_34 : decode cX11_undo 34 = .ok (.aload_n 0, 1) := by decide +kernel
theorem dX11_undo_35 : decode cX11_undo 35 = .ok (.getfield 53, 3) := by decide +kernel
theorem dX11_undo_38 : decode cX11_undo 38 = .ok (.iconst 4, 1) := by decide +kernel
theorem dX11_undo_39 : decode cX11_undo 39 = .ok (.iconst 3, 1) := by decide +kernel
theorem dX11_undo_40 : decode cX11_undo 40 = .ok (.aload_n 0, 1) := by decide +kernel
theorem dX11_undo_41 : decode cX11_undo 41 = .ok (.getfield 53, 3) := by decide +kernel
theorem dX11_undo_44 : decode cX11_undo 44 = .ok (.iconst 3, 1) := by decide +kernel
theorem dX11_undo_45 : decode cX11_undo 45 = .ok (.iaload, 1) := by decide +kernel
theorem dX11_undo_46 : decode cX11_undo 46 = .ok (.imul, 1) := by decide +kernel
theorem dX11_undo_47 : decode cX11_undo 47 = .ok (.iadd, 1) := by decide +kernel
theorem dX11_undo_48 : decode cX11_undo 48 = .ok (.iload_n 1, 1) := by decide +kernel
theorem dX11_undo_49 : decode cX11_undo 49 = .ok (.iadd, 1) := by decide +kernel
theorem dX11_undo_50 : decode cX11_undo 50 = .ok (.iaload, 1) := by decide +kernel
theorem dX11_undo_51 : decode cX11_undo 51 = .ok (.iastore, 1) := by decide +kernel
theorem dX11_undo_52 : decode cX11_undo 52 = .ok (.iinc 1 1, 3) := by decide +kernel
theorem dX11_undo_55 : decode cX11_undo 55 = .ok (.goto (-31), 3) := by decide +kernel
theorem dX11_undo_58 : decode cX11_undo 58 = .ok (.aload_n 0, 1) := by decide +kernel
theorem dX11_undo_59 : decode cX11_undo 59 = .ok (.getfield 53, 3) := by decide +kernel
theorem dX11_undo_62 : decode cX11_undo 62 = .ok (.iconst 3, 1) := by decide +kernel
theorem dX11_undo_63 : decode cX11_undo 63 = .ok (.iaload, 1) := by decide +kernel
theorem dX11_undo_64 : decode cX11_undo 64 = .ok (.ireturn, 1) := by decide +kernel
theorem dX11_share_0 : decode cX11_share 0 = .ok (.aload_n 0, 1) := by decide +kernel
theorem dX11_share_1 : decode cX11_share 1 = .ok (.iload_n 1, 1) := by decide +kernel
theorem dX11_share_2 : decode cX11_share 2 = .ok (.invokevirtual 153, 3) := by decide +kernel
theorem dX11_share_5 : decode cX11_share 5 = .ok (.ifCond .eq 12, 3) := by decide +kernel
theorem dX11_share_8 : decode cX11_share 8 = .ok (.iload_n 2, 1) := by decide +kernel
theorem dX11_share_9 : decode cX11_share 9 = .ok (.iconst 0, 1) := by decide +kernel
theorem dX11_share_10 : decode cX11_share 10 = .ok (.iconst 1, 1) := by decide +kernel
theorem dX11_share_11 : decode cX11_share 11 = .ok (.invokestatic 72, 3) := by decide +kernel
theorem dX11_share_14 : decode cX11_share 14 = .ok (.ifCond .ne 5, 3) := by decide +kernel
theorem dX11_share_17 : decode cX11_share 17 = .ok (.iconst (-1), 1) := by decide +kernel
theorem dX11_share_18 : decode cX11_share 18 = .ok (.ireturn, 1) := by decide +kernel
theorem dX11_share_19 : decode cX11_share 19 = .ok (.aload_n 0, 1) := by decide +kernel
theorem dX11_share_20 : decode cX11_share 20 = .ok (.aload_n 0, 1) := by decide +kernel
theorem dX11_share_21 : decode cX11_share 21 = .ok (.getfield 53, 3) := by decide +kernel
theorem dX11_share_24 : decode cX11_share 24 = .ok (.iconst 0, 1) := by decide +kernel
theorem dX11_share_25 : decode cX11_share 25 = .ok (.iaload, 1) := by decide +kernel
theorem dX11_share_26 : decode cX11_share 26 = .ok (.invokevirtual 147, 3) := by decide +kernel
theorem dX11_share_29 : decode cX11_share 29 = .ok (.aload_n 0, 1) := by decide +kernel
theorem dX11_share_30 : decode cX11_share 30 = .ok (.getfield 141, 3) := by decide +kernel
theorem dX11_share_33 : decode cX11_share 33 = .ok (.ifCond .ne 6, 3) := by decide +kernel
theorem dX11_share_36 : decode cX11_share 36 = .ok (.bipush (-2), 2) := by decide +kernel
theorem dX11_share_38 : decode cX11_share 38 = .ok (.ireturn, 1) := by decide +kernel
theorem dX11_share_39 : decode cX11_share 39 = .ok (.aload_n 0, 1) := by decide +kernel
theorem dX11_share_40 : decode cX11_share 40 = .ok (.getfield 60, 3) := by decide +kernel
theorem dX11_share_43 : decode cX11_share 43 = .ok (.iload_n 1, 1) := by decide +kernel
theorem dX11_share_44 : decode cX11_share 44 = .ok (.iaload, 1) := by decide +kernel
theorem dX11_share_45 : decode cX11_share 45 = .ok (.istore_n 3, 1) := by decide +kernel
theorem dX11_share_46 : decode cX11_share 46 = .ok (.aload_n 0, 1) := by decide +kernel
theorem dX11_share_47 : decode cX11_share 47 = .ok (.getfield 141, 3) := by decide +kernel
theorem dX11_share_50 : decode cX11_share 50 = .ok (.istore 4, 2) := by decide +kernel
theorem dX11_share_52 : decode cX11_share 52 = .ok (.iload 4, 2) := by decide +kernel
theorem dX11_share_54 : decode cX11_share 54 = .ok (.ifCond .eq 19, 3) := by decide +kernel
theorem dX11_share_57 : decode cX11_share 57 = .ok (.iload_n 3, 1) := by decide +kernel
theorem dX11_share_58 : decode cX11_share 58 = .ok (.iload 4, 2) := by decide +kernel
theorem dX11_share_60 : decode cX11_share 60 = .ok (.irem, 1) := by decide +kernel
theorem dX11_share_61 : decode cX11_share 61 = .ok (.istore 5, 2) := by decide +kernel
theorem dX11_share_63 : decode cX11_share 63 = .ok (.iload 4, 2) := by decide +kernel
theorem dX11_share_65 : decode cX11_share 65 = .ok (.istore_n 3, 1) := by decide +kernel
theorem dX11_share_66 : decode cX11_share 66 = .ok (.iload 5, 2) := by decide +kernel
theorem dX11_share_68 : decode cX11_share 68 = .ok (.istore 4, 2) := by decide +kernel
theorem dX11_share_70 : decode cX11_share 70 = .ok (.goto (-18), 3) := by decide +kernel
theorem dX11_share_73 : decode cX11_share 73 = .ok (.iload_n 2, 1) := by decide +kernel
theorem dX11_share_74 : decode cX11_share 74 = .ok (.ifCond .ne 14, 3) := by decide +kernel
theorem dX11_share_77 : decode cX11_share 77 = .ok (.aload_n 0, 1) := by decide +kernel
theorem dX11_share_78 : decode cX11_share 78 = .ok (.getfield 60, 3) := by decide +kernel
theorem dX11_share_81 : decode cX11_share 81 = .ok (.iload_n 1, 1) := by decide +kernel
theorem dX11_share_82 : decode cX11_share 82 = .ok (.iaload, 1) := by decide +kernel
theorem dX11_share_83 : decode cX11_share 83 = .ok (.iload_n 3, 1) := by decide +kernel
theorem dX11_share_84 : decode cX11_share 84 = .ok (.idiv, 1) := by decide +kernel
theorem dX11_share_85 : decode cX11_share 85 = .ok (.goto 9, 3) := by decide +kernel
theorem dX11_share_88 : decode cX11_share 88 = .ok (.aload_n 0, 1) := by decide +kernel
theorem dX11_share_89 : decode cX11_share 89 = .ok (.getfield 141, 3) := by decide +kernel
theorem dX11_share_92 : decode cX11_share 92 = .ok (.iload_n 3, 1) := by decide +kernel
theorem dX11_share_93 : decode cX11_share 93 = .ok (.idiv, 1) := by decide +kernel
theorem dX11_share_94 : decode cX11_share 94 = .ok (.ireturn, 1) := by decide +kernel
theorem dX11_allServe_0 : decode cX11_allServe 0 = .ok (.aload_n 0, 1) := by decide +kernel
theorem dX11_allServe_1 : decode cX11_allServe 1 = .ok (.invokevirtual 156, 3) := by decide +kernel
theorem dX11_allServe_4 : decode cX11_allServe 4 = .ok (.iconst 0, 1) := by decide +kernel
theorem dX11_allServe_5 : decode cX11_allServe 5 = .ok (.istore_n 1, 1) := by decide +kernel
theorem dX11_allServe_6 : decode cX11_allServe 6 = .ok (.iconst 0, 1) := by decide +kernel
theorem dX11_allServe_7 : decode cX11_allServe 7 = .ok (.istore_n 2, 1) := by decide +kernel
theorem dX11_allServe_8 : decode cX11_allServe 8 = .ok (.iload_n 2, 1) := by decide +kernel
theorem dX11_allServe_9 : decode cX11_allServe 9 = .ok (.aload_n 0, 1) := by decide +kernel
theorem dX11_allServe_10 : decode cX11_allServe 10 = .ok (.getfield 13, 3) := by decide +kernel
theorem dX11_allServe_13 : decode cX11_allServe 13 = .ok (.iconst 0, 1) := by decide +kernel
theorem dX11_allServe_14 : decode cX11_allServe 14 = .ok (.iaload, 1) := by decide +kernel
theorem dX11_allServe_15 : decode cX11_allServe 15 = .ok (.if_icmp .ge 18, 3) := by decide +kernel
theorem dX11_allServe_18 : decode cX11_allServe 18 = .ok (.iload_n 1, 1) := by decide +kernel
theorem dX11_allServe_19 : decode cX11_allServe 19 = .ok (.aload_n 0, 1) := by decide +kernel
theorem dX11_allServe_20 : decode cX11_allServe 20 = .ok (.getfield 63, 3) := by decide +kernel
theorem dX11_allServe_23 : decode cX11_allServe 23 = .ok (.iload_n 2, 1) := by decide +kernel
theorem dX11_allServe_24 : decode cX11_allServe 24 = .ok (.iaload, 1) := by decide +kernel
theorem dX11_allServe_25 : decode cX11_allServe 25 = .ok (.iadd, 1) := by decide +kernel
theorem dX11_allServe_26 : decode cX11_allServe 26 = .ok (.istore_n 1, 1) := by decide +kernel
theorem dX11_allServe_27 : decode cX11_allServe 27 = .ok (.iinc 2 1, 3) := by decide +kernel
theorem dX11_allServe_30 : decode cX11_allServe 30 = .ok (.goto (-22), 3) := by decide +kernel
theorem dX11_allServe_33 : decode cX11_allServe 33 = .ok (.iload_n 1, 1) := by decide +kernel
theorem dX11_allServe_34 : decode cX11_allServe 34 = .ok (.ireturn, 1) := by decide +kernel
theorem dX11_now_0 : decode cX11_now 0 = .ok (.iload_n 1, 1) := by decide +kernel
theorem dX11_now_1 : decode cX11_now 1 = .ok (.tableswitch 66 0 4 #[35, 40, 47, 54, 61], 35) := by decide +kernel
theorem dX11_now_36 : decode cX11_now 36 = .ok (.aload_n 0, 1) := by decide +kernel
theorem dX11_now_37 : decode cX11_now 37 = .ok (.invokevirtual 169, 3) := by decide +kernel
theorem dX11_now_40 : decode cX11_now 40 = .ok (.ireturn, 1) := by decide +kernel
theorem dX11_now_41 : decode cX11_now 41 = .ok (.aload_n 0, 1) := by decide +kernel
theorem dX11_now_42 : decode cX11_now 42 = .ok (.getfield 53, 3) := by decide +kernel
theorem dX11_now_45 : decode cX11_now 45 = .ok (.iconst 0, 1) := by decide +kernel
theorem dX11_now_46 : decode cX11_now 46 = .ok (.iaload, 1) := by decide +kernel
theorem dX11_now_47 : decode cX11_now 47 = .ok (.ireturn, 1) := by decide +kernel
theorem dX11_now_48 : decode cX11_now 48 = .ok (.aload_n 0, 1) := by decide +kernel
theorem dX11_now_49 : decode cX11_now 49 = .ok (.getfield 53, 3) := by decide +kernel
theorem dX11_now_52 : decode cX11_now 52 = .ok (.iconst 1, 1) := by decide +kernel
theorem dX11_now_53 : decode cX11_now 53 = .ok (.iaload, 1) := by decide +kernel
theorem dX11_now_54 : decode cX11_now 54 = .ok (.ireturn, 1) := by decide +kernel
theorem dX11_now_55 : decode cX11_now 55 = .ok (.aload_n 0, 1) := by decide +kernel
theorem dX11_now_56 : decode cX11_now 56 = .ok (.getfield 53, 3) := by decide +kernel
theorem dX11_now_59 : decode cX11_now 59 = .ok (.iconst 2, 1) := by decide +kernel
theorem dX11_now_60 : decode cX11_now 60 = .ok (.iaload, 1) := by decide +kernel
theorem dX11_now_61 : decode cX11_now 61 = .ok (.ireturn, 1) := by decide +kernel
theorem dX11_now_62 : decode cX11_now 62 = .ok (.aload_n 0, 1) := by decide +kernel
theorem dX11_now_63 : decode cX11_now 63 = .ok (.invokevirtual 172, 3) := by decide +kernel
theorem dX11_now_66 : decode cX11_now 66 = .ok (.ireturn, 1) := by decide +kernel
theorem dX11_now_67 : decode cX11_now 67 = .ok (.iconst (-1), 1) := by decide +kernel
theorem dX11_now_68 : decode cX11_now 68 = .ok (.ireturn, 1) := by decide +kernel
theorem dX11_isShare_0 : decode cX11_isShare 0 = .ok (.aload_n 0, 1) := by decide +kernel
theorem dX11_isShare_1 : decode cX11_isShare 1 = .ok (.iload_n 1, 1) := by decide +kernel
theorem dX11_isShare_2 : decode cX11_isShare 2 = .ok (.invokevirtual 153, 3) := by decide +kernel
theorem dX11_isShare_5 : decode cX11_isShare 5 = .ok (.ifCond .eq 26, 3) := by decide +kernel
theorem dX11_isShare_8 : decode cX11_isShare 8 = .ok (.iload_n 3, 1) := by decide +kernel
theorem dX11_isShare_9 : decode cX11_isShare 9 = .ok (.iconst 1, 1) := by decide +kernel
theorem dX11_isShare_10 : decode cX11_isShare 10 = .ok (.bipush 20, 2) := by decide +kernel
theorem dX11_isShare_12 : decode cX11_isShare 12 = .ok (.invokestatic 72, 3) := by decide +kernel
theorem dX11_isShare_15 : decode cX11_isShare 15 = .ok (.ifCond .eq 16, 3) := by decide +kernel
theorem dX11_isShare_18 : decode cX11_isShare 18 = .ok (.iload_n 2, 1) := by decide +kernel
theorem dX11_isShare_19 : decode cX11_isShare 19 = .ok (.iconst 0, 1) := by decide +kernel
theorem dX11_isShare_20 : decode cX11_isShare 20 = .ok (.iload_n 3, 1) := by decide +kernel
theorem dX11_isShare_21 : decode cX11_isShare 21 = .ok (.invokestatic 72, 3) := by decide +kernel
theorem dX11_isShare_24 : decode cX11_isShare 24 = .ok (.ifCond .eq 7, 3) := by decide +kernel
theorem dX11_isShare_27 : decode cX11_isShare 27 = .ok (.iconst 1, 1) := by decide +kernel
theorem dX11_isShare_28 : decode cX11_isShare 28 = .ok (.goto 4, 3) := by decide +kernel
theorem dX11_isShare_31 : decode cX11_isShare 31 = .ok (.iconst 0, 1) := by decide +kernel
theorem dX11_isShare_32 : decode cX11_isShare 32 = .ok (.ireturn, 1) := by decide +kernel
theorem dX11_costOf_0 : decode cX11_costOf 0 = .ok (.iconst 0, 1) := by decide +kernel
theorem dX11_costOf_1 : decode cX11_costOf 1 = .ok (.istore_n 2, 1) := by decide +kernel
theorem dX11_costOf_2 : decode cX11_costOf 2 = .ok (.iconst 0, 1) := by decide +kernel
theorem dX11_costOf_3 : decode cX11_costOf 3 = .ok (.istore_n 3, 1) := by decide +kernel
theorem dX11_costOf_4 : decode cX11_costOf 4 = .ok (.iload_n 3, 1) := by decide +kernel
theorem dX11_costOf_5 : decode cX11_costOf 5 = .ok (.aload_n 0, 1) := by decide +kernel
theorem dX11_costOf_6 : decode cX11_costOf 6 = .ok (.getfield 20, 3) := by decide +kernel
theorem dX11_costOf_9 : decode cX11_costOf 9 = .ok (.iconst 0, 1) := by decide +kernel
theorem dX11_costOf_10 : decode cX11_costOf 10 = .ok (.iaload, 1) := by decide +kernel
theorem dX11_costOf_11 : decode cX11_costOf 11 = .ok (.if_icmp .ge 24, 3) := by decide +kernel
theorem dX11_costOf_14 : decode cX11_costOf 14 = .ok (.iload_n 2, 1) := by decide +kernel
theorem dX11_costOf_15 : decode cX11_costOf 15 = .ok (.iload_n 1, 1) := by decide +kernel
theorem dX11_costOf_16 : decode cX11_costOf 16 = .ok (.iload_n 3, 1) := by decide +kernel
theorem dX11_costOf_17 : decode cX11_costOf 17 = .ok (.ishr, 1) := by decide +kernel
theorem dX11_costOf_18 : decode cX11_costOf 18 = .ok (.iconst 1, 1) := by decide +kernel
theorem dX11_costOf_19 : decode cX11_costOf 19 = .ok (.iand, 1) := by decide +kernel
theorem dX11_costOf_20 : decode cX11_costOf 20 = .ok (.aload_n 0, 1) := by decide +kernel
theorem dX11_costOf_21 : decode cX11_costOf 21 = .ok (.getfield 23, 3) := by decide +kernel
theorem dX11_costOf_24 : decode cX11_costOf 24 = .ok (.iload_n 3, 1) := by decide +kernel
theorem dX11_costOf_25 : decode cX11_costOf 25 = .ok (.iaload, 1) := by decide +kernel
theorem dX11_costOf_26 : decode cX11_costOf 26 = .ok (.imul, 1) := by decide +kernel
theorem dX11_costOf_27 : decode cX11_costOf 27 = .ok (.iadd, 1) := by decide +kernel
theorem dX11_costOf_28 : decode cX11_costOf 28 = .ok (.istore_n 2, 1) := by decide +kernel
theorem dX11_costOf_29 : decode cX11_costOf 29 = .ok (.iinc 3 1, 3) := by decide +kernel
theorem dX11_costOf_32 : decode cX11_costOf 32 = .ok (.goto (-28), 3) := by decide +kernel
theorem dX11_costOf_35 : decode cX11_costOf 35 = .ok (.iload_n 2, 1) := by decide +kernel
theorem dX11_costOf_36 : decode cX11_costOf 36 = .ok (.ireturn, 1) := by decide +kernel
theorem dX11_isSo_0 : decode cX11_isSo 0 = .ok (.iload 4, 2) := by decide +kernel
theorem dX11_isSo_2 : decode cX11_isSo 2 = .ok (.ifCond .eq 35, 3) := by decide +kernel
theorem dX11_isSo_5 : decode cX11_isSo 5 = .ok (.aload_n 0, 1) := by decide +kernel
theorem dX11_isSo_6 : decode cX11_isSo 6 = .ok (.getfield 141, 3) := by decide +kernel
theorem dX11_isSo_9 : decode cX11_isSo 9 = .ok (.ifCond .le 24, 3) := by decide +kernel
theorem dX11_isSo_12 : decode cX11_isSo 12 = .ok (.aload_n 0, 1) := by decide +kernel
theorem dX11_isSo_13 : decode cX11_isSo 13 = .ok (.getfield 60, 3) := by decide +kernel
theorem dX11_isSo_16 : decode cX11_isSo 16 = .ok (.iload_n 1, 1) := by decide +kernel
theorem dX11_isSo_17 : decode cX11_isSo 17 = .ok (.iaload, 1) := by decide +kernel
theorem dX11_isSo_18 : decode cX11_isSo 18 = .ok (.iload_n 3, 1) := by decide +kernel
theorem dX11_isSo_19 : decode cX11_isSo 19 = .ok (.imul, 1) := by decide +kernel
theorem dX11_isSo_20 : decode cX11_isSo 20 = .ok (.iload_n 2, 1) := by decide +kernel
theorem dX11_isSo_21 : decode cX11_isSo 21 = .ok (.aload_n 0, 1) := by decide +kernel
theorem dX11_isSo_22 : decode cX11_isSo 22 = .ok (.getfield 141, 3) := by decide +kernel
theorem dX11_isSo_25 : decode cX11_isSo 25 = .ok (.imul, 1) := by decide +kernel
theorem dX11_isSo_26 : decode cX11_isSo 26 = .ok (.if_icmp .lt 7, 3) := by decide +kernel
theorem dX11_isSo_29 : decode cX11_isSo 29 = .ok (.iconst 1, 1) := by decide +kernel
theorem dX11_isSo_30 : decode cX11_isSo 30 = .ok (.goto 36, 3) := by decide +kernel
theorem dX11_isSo_33 : decode cX11_isSo 33 = .ok (.iconst 0, 1) := by decide +kernel
theorem dX11_isSo_34 : decode cX11_isSo 34 = .ok (.goto 32, 3) := by decide +kernel
theorem dX11_isSo_37 : decode cX11_isSo 37 = .ok (.aload_n 0, 1) := by decide +kernel
theorem dX11_isSo_38 : decode cX11_isSo 38 = .ok (.getfield 141, 3) := by decide +kernel
theorem dX11_isSo_41 : decode cX11_isSo 41 = .ok (.ifCond .eq 20, 3) := by decide +kernel
theorem dX11_isSo_44 : decode cX11_isSo 44 = .ok (.aload_n 0, 1) := by decide +kernel
theorem dX11_isSo_45 : decode cX11_isSo 45 = .ok (.getfield 60, 3) := by decide +kernel
theorem dX11_isSo_48 : decode cX11_isSo 48 = .ok (.iload_n 1, 1) := by decide +kernel
theorem dX11_isSo_49 : decode cX11_isSo 49 = .ok (.iaload, 1) := by decide +kernel
theorem dX11_isSo_50 : decode cX11_isSo 50 = .ok (.iload_n 3, 1) := by decide +kernel
theorem dX11_isSo_51 : decode cX11_isSo 51 = .ok (.imul, 1) := by decide +kernel
theorem dX11_isSo_52 : decode cX11_isSo 52 = .ok (.iload_n 2, 1) := by decide +kernel
theorem dX11_isSo_53 : decode cX11_isSo 53 = .ok (.aload_n 0, 1) := by decide +kernel
theorem dX11_isSo_54 : decode cX11_isSo 54 = .ok (.getfield 141, 3) := by decide +kernel
theorem dX11_isSo_57 : decode cX11_isSo 57 = .ok (.imul, 1) := by decide +kernel
theorem dX11_isSo_58 : decode cX11_isSo 58 = .ok (.if_icmp .gt 7, 3) := by decide +kernel
theorem dX11_isSo_61 : decode cX11_isSo 61 = .ok (.iconst 1, 1) := by decide +kernel
theorem dX11_isSo_62 : decode cX11_isSo 62 = .ok (.goto 4, 3) := by decide +kernel
theorem dX11_isSo_65 : decode cX11_isSo 65 = .ok (.iconst 0, 1) := by decide +kernel
theorem dX11_isSo_66 : decode cX11_isSo 66 = .ok (.ireturn, 1) := by decide +kernel
theorem dX11_cheapest_0 : decode cX11_cheapest 0 = .ok (.bipush (-9), 2) := by decide +kernel
theorem dX11_cheapest_2 : decode cX11_cheapest 2 = .ok (.istore 5, 2) := by decide +kernel
theorem dX11_cheapest_4 : decode cX11_cheapest 4 = .ok (.iconst 0, 1) := by decide +kernel
theorem dX11_cheapest_5 : decode cX11_cheapest 5 = .ok (.istore 6, 2) := by decide +kernel
theorem dX11_cheapest_7 : decode cX11_cheapest 7 = .ok (.iload 6, 2) := by decide +kernel
theorem dX11_cheapest_9 : decode cX11_cheapest 9 = .ok (.iconst 1, 1) := by decide +kernel
theorem dX11_cheapest_10 : decode cX11_cheapest 10 = .ok (.aload_n 0, 1) := by decide +kernel
theorem dX11_cheapest_11 : decode cX11_cheapest 11 = .ok (.getfield 20, 3) := by decide +kernel
theorem dX11_cheapest_14 : decode cX11_cheapest 14 = .ok (.iconst 0, 1) := by decide +kernel
theorem dX11_cheapest_15 : decode cX11_cheapest 15 = .ok (.iaload, 1) := by decide +kernel
theorem dX11_cheapest_16 : decode cX11_cheapest 16 = .ok (.ishl, 1) := by decide +kernel
theorem dX11_cheapest_17 : decode cX11_cheapest 17 = .ok (.if_icmp .ge 77, 3) := by decide +kernel
theorem dX11_cheapest_20 : decode cX11_cheapest 20 = .ok (.iload 6, 2) := by decide +kernel
theorem dX11_cheapest_22 : decode cX11_cheapest 22 = .ok (.aload_n 0, 1) := by decide +kernel
theorem dX11_cheapest_23 : decode cX11_cheapest 23 = .ok (.getfield 53, 3) := by decide +kernel
theorem dX11_cheapest_26 : decode cX11_cheapest 26 = .ok (.iconst 0, 1) := by decide +kernel
theorem dX11_cheapest_27 : decode cX11_cheapest 27 = .ok (.iaload, 1) := by decide +kernel
theorem dX11_cheapest_28 : decode cX11_cheapest 28 = .ok (.iand, 1) := by decide +kernel
theorem dX11_cheapest_29 : decode cX11_cheapest 29 = .ok (.ifCond .ne 59, 3) := by decide +kernel
theorem dX11_cheapest_32 : decode cX11_cheapest 32 = .ok (.iload 5, 2) := by decide +kernel
theorem dX11_cheapest_34 : decode cX11_cheapest 34 = .ok (.bipush (-9), 2) := by decide +kernel
theorem dX11_cheapest_36 : decode cX11_cheapest 36 = .ok (.if_icmp .eq 18, 3) := by decide +kernel
theorem dX11_cheapest_39 : decode cX11_cheapest 39 = .ok (.aload_n 0, 1) := by decide +kernel
theorem dX11_cheapest_40 : decode cX11_cheapest 40 = .ok (.iload 6, 2) := by decide +kernel
theorem dX11_cheapest_42 : decode cX11_cheapest 42 = .ok (.invokevirtual 175, 3) := by decide +kernel
theorem dX11_cheapest_45 : decode cX11_cheapest 45 = .ok (.aload_n 0, 1) := by decide +kernel
theorem dX11_cheapest_46 : decode cX11_cheapest 46 = .ok (.iload 5, 2) := by decide +kernel
theorem dX11_cheapest_48 : decode cX11_cheapest 48 = .ok (.invokevirtual 175, 3) := by decide +kernel
theorem dX11_cheapest_51 : decode cX11_cheapest 51 = .ok (.if_icmp .ge 37, 3) := by decide +kernel
theorem dX11_cheapest_54 : decode cX11_cheapest 54 = .ok (.aload_n 0, 1) := by decide +kernel
theorem dX11_cheapest_55 : decode cX11_cheapest 55 = .ok (.iload 6, 2) := by decide +kernel
theorem dX11_cheapest_57 : decode cX11_cheapest 57 = .ok (.aload_n 0, 1) := by decide +kernel
theorem dX11_cheapest_58 : decode cX11_cheapest 58 = .ok (.getfield 53, 3) := by decide +kernel
theorem dX11_cheapest_61 : decode cX11_cheapest 61 = .ok (.iconst 0, 1) := by decide +kernel
theorem dX11_cheapest_62 : decode cX11_cheapest 62 = .ok (.iaload, 1) := by decide +kernel
theorem dX11_cheapest_63 : decode cX11_cheapest 63 = .ok (.ior, 1) := by decide +kernel
theorem dX11_cheapest_64 : decode cX11_cheapest 64 = .ok (.invokevirtual 147, 3) := by decide +kernel
theorem dX11_cheapest_67 : decode cX11_cheapest 67 = .ok (.aload_n 0, 1) := by decide +kernel
theorem dX11_cheapest_68 : decode cX11_cheapest 68 = .ok (.iload_n 1, 1) := by decide +kernel
theorem dX11_cheapest_69 : decode cX11_cheapest 69 = .ok (.iload_n 2, 1) := by decide +kernel
theorem dX11_cheapest_70 : decode cX11_cheapest 70 = .ok (.iload_n 3, 1) := by decide +kernel
theorem dX11_cheapest_71 : decode cX11_cheapest 71 = .ok (.iload 4, 2) := by decide +kernel
theorem dX11_cheapest_73 : decode cX11_cheapest 73 = .ok (.invokevirtual 178, 3) := by decide +kernel
theorem dX11_cheapest_76 : decode cX11_cheapest 76 = .ok (.ifCond .eq 8, 3) := by decide +kernel
theorem dX11_cheapest_79 : decode cX11_cheapest 79 = .ok (.iload 6, 2) := by decide +kernel
theorem dX11_cheapest_81 : decode cX11_cheapest 81 = .ok (.goto 5, 3) := by decide +kernel
theorem dX11_cheapest_84 : decode cX11_cheapest 84 = .ok (.iload 5, 2) := by decide +kernel
theorem dX11_cheapest_86 : decode cX11_cheapest 86 = .ok (.istore 5, 2) := by decide +kernel
theorem dX11_cheapest_88 : decode cX11_cheapest 88 = .ok (.iinc 6 1, 3) := by decide +kernel
theorem dX11_cheapest_91 : decode cX11_cheapest 91 = .ok (.goto (-84), 3) := by decide +kernel
theorem dX11_cheapest_94 : decode cX11_cheapest 94 = .ok (.iload 5, 2) := by decide +kernel
theorem dX11_cheapest_96 : decode cX11_cheapest 96 = .ok (.ireturn, 1) := by decide +kernel
theorem dX11_proof_0 : decode cX11_proof 0 = .ok (.aload_n 0, 1) := by decide +kernel
theorem dX11_proof_1 : decode cX11_proof 1 = .ok (.iload_n 1, 1) := by decide +kernel
theorem dX11_proof_2 : decode cX11_proof 2 = .ok (.iload_n 2, 1) := by decide +kernel
theorem dX11_proof_3 : decode cX11_proof 3 = .ok (.iload_n 3, 1) := by decide +kernel
theorem dX11_proof_4 : decode cX11_proof 4 = .ok (.invokevirtual 182, 3) := by decide +kernel
theorem dX11_proof_7 : decode cX11_proof 7 = .ok (.ifCond .eq 13, 3) := by decide +kernel
theorem dX11_proof_10 : decode cX11_proof 10 = .ok (.iload 4, 2) := by decide +kernel
theorem dX11_proof_12 : decode cX11_proof 12 = .ok (.iconst 0, 1) := by decide +kernel
theorem dX11_proof_13 : decode cX11_proof 13 = .ok (.iconst 1, 1) := by decide +kernel
theorem dX11_proof_14 : decode cX11_proof 14 = .ok (.invokestatic 72, 3) := by decide +kernel
theorem dX11_proof_17 : decode cX11_proof 17 = .ok (.ifCond .ne 5, 3) := by decide +kernel
theorem dX11_proof_20 : decode cX11_proof 20 = .ok (.iconst (-1), 1) := by decide +kernel
theorem dX11_proof_21 : decode cX11_proof 21 = .ok (.ireturn, 1) := by decide +kernel
theorem dX11_proof_22 : decode cX11_proof 22 = .ok (.aload_n 0, 1) := by decide +kernel
theorem dX11_proof_23 : decode cX11_proof 23 = .ok (.iload_n 1, 1) := by decide +kernel
theorem dX11_proof_24 : decode cX11_proof 24 = .ok (.iload_n 2, 1) := by decide +kernel
theorem dX11_proof_25 : decode cX11_proof 25 = .ok (.iload_n 3, 1) := by decide +kernel
theorem dX11_proof_26 : decode cX11_proof 26 = .ok (.iconst 1, 1) := by decide +kernel
theorem dX11_proof_27 : decode cX11_proof 27 = .ok (.invokevirtual 185, 3) := by decide +kernel
theorem dX11_proof_30 : decode cX11_proof 30 = .ok (.istore 5, 2) := by decide +kernel
theorem dX11_proof_32 : decode cX11_proof 32 = .ok (.iload 5, 2) := by decide +kernel
theorem dX11_proof_34 : decode cX11_proof 34 = .ok (.bipush (-9), 2) := by decide +kernel
theorem dX11_proof_36 : decode cX11_proof 36 = .ok (.if_icmp .eq 9, 3) := by decide +kernel
theorem dX11_proof_39 : decode cX11_proof 39 = .ok (.iload 4, 2) := by decide +kernel
theorem dX11_proof_41 : decode cX11_proof 41 = .ok (.iconst 1, 1) := by decide +kernel
theorem dX11_proof_42 : decode cX11_proof 42 = .ok (.if_icmp .ne 8, 3) := by decide +kernel
theorem dX11_proof_45 : decode cX11_proof 45 = .ok (.iload 5, 2) := by decide +kernel
theorem dX11_proof_47 : decode cX11_proof 47 = .ok (.goto 9, 3) := by decide +kernel
theorem dX11_proof_50 : decode cX11_proof 50 = .ok (.aload_n 0, 1) := by decide +kernel
theorem dX11_proof_51 : decode cX11_proof 51 = .ok (.iload 5, 2) := by decide +kernel
theorem dX11_proof_53 : decode cX11_proof 53 = .ok (.invokevirtual 175, 3) := by decide +kernel
theorem dX11_proof_56 : decode cX11_proof 56 = .ok (.ireturn, 1) := by decide +kernel
theorem dX11_cleared_0 : decode cX11_cleared 0 = .ok (.aload_n 0, 1) := by decide +kernel
theorem dX11_cleared_1 : decode cX11_cleared 1 = .ok (.iload_n 1, 1) := by decide +kernel
theorem dX11_cleared_2 : decode cX11_cleared 2 = .ok (.iload_n 2, 1) := by decide +kernel
theorem dX11_cleared_3 : decode cX11_cleared 3 = .ok (.iload_n 3, 1) := by decide +kernel
theorem dX11_cleared_4 : decode cX11_cleared 4 = .ok (.invokevirtual 182, 3) := by decide +kernel
theorem dX11_cleared_7 : decode cX11_cleared 7 = .ok (.ifCond .eq 13, 3) := by decide +kernel
theorem dX11_cleared_10 : decode cX11_cleared 10 = .ok (.iload 4, 2) := by decide +kernel
theorem dX11_cleared_12 : decode cX11_cleared 12 = .ok (.iconst 0, 1) := by decide +kernel
theorem dX11_cleared_13 : decode cX11_cleared 13 = .ok (.iconst 1, 1) := by decide +kernel
theorem dX11_cleared_14 : decode cX11_cleared 14 = .ok (.invokestatic 72, 3) := by decide +kernel
theorem dX11_cleared_17 : decode cX11_cleared 17 = .ok (.ifCond .ne 5, 3) := by decide +kernel
theorem dX11_cleared_20 : decode cX11_cleared 20 = .ok (.iconst (-1), 1) := by decide +kernel
theorem dX11_cleared_21 : decode cX11_cleared 21 = .ok (.ireturn, 1) := by decide +kernel
theorem dX11_cleared_22 : decode cX11_cleared 22 = .ok (.aload_n 0, 1) := by decide +kernel
theorem dX11_cleared_23 : decode cX11_cleared 23 = .ok (.iload_n 1, 1) := by decide +kernel
theorem dX11_cleared_24 : decode cX11_cleared 24 = .ok (.iload_n 2, 1) := by decide +kernel
theorem dX11_cleared_25 : decode cX11_cleared 25 = .ok (.iload_n 3, 1) := by decide +kernel
theorem dX11_cleared_26 : decode cX11_cleared 26 = .ok (.iconst 0, 1) := by decide +kernel
theorem dX11_cleared_27 : decode cX11_cleared 27 = .ok (.invokevirtual 185, 3) := by decide +kernel
theorem dX11_cleared_30 : decode cX11_cleared 30 = .ok (.istore 5, 2) := by decide +kernel
theorem dX11_cleared_32 : decode cX11_cleared 32 = .ok (.iload 5, 2) := by decide +kernel
theorem dX11_cleared_34 : decode cX11_cleared 34 = .ok (.bipush (-9), 2) := by decide +kernel
theorem dX11_cleared_36 : decode cX11_cleared 36 = .ok (.if_icmp .eq 9, 3) := by decide +kernel
theorem dX11_cleared_39 : decode cX11_cleared 39 = .ok (.iload 4, 2) := by decide +kernel
theorem dX11_cleared_41 : decode cX11_cleared 41 = .ok (.iconst 1, 1) := by decide +kernel
theorem dX11_cleared_42 : decode cX11_cleared 42 = .ok (.if_icmp .ne 8, 3) := by decide +kernel
theorem dX11_cleared_45 : decode cX11_cleared 45 = .ok (.iload 5, 2) := by decide +kernel
theorem dX11_cleared_47 : decode cX11_cleared 47 = .ok (.goto 9, 3) := by decide +kernel
theorem dX11_cleared_50 : decode cX11_cleared 50 = .ok (.aload_n 0, 1) := by decide +kernel
theorem dX11_cleared_51 : decode cX11_cleared 51 = .ok (.iload 5, 2) := by decide +kernel
theorem dX11_cleared_53 : decode cX11_cleared 53 = .ok (.invokevirtual 175, 3) := by decide +kernel
theorem dX11_cleared_56 : decode cX11_cleared 56 = .ok (.ireturn, 1) := by decide +kernel
theorem dX11_forged_0 : decode cX11_forged 0 = .ok (.aload_n 0, 1) := by decide +kernel
theorem dX11_forged_1 : decode cX11_forged 1 = .ok (.iload_n 1, 1) := by decide +kernel
theorem dX11_forged_2 : decode cX11_forged 2 = .ok (.iload_n 2, 1) := by decide +kernel
theorem dX11_forged_3 : decode cX11_forged 3 = .ok (.iload_n 3, 1) := by decide +kernel
theorem dX11_forged_4 : decode cX11_forged 4 = .ok (.invokevirtual 182, 3) := by decide +kernel
theorem dX11_forged_7 : decode cX11_forged 7 = .ok (.ifCond .ne 5, 3) := by decide +kernel
theorem dX11_forged_10 : decode cX11_forged 10 = .ok (.iconst (-1), 1) := by decide +kernel
theorem dX11_forged_11 : decode cX11_forged 11 = .ok (.ireturn, 1) := by decide +kernel
theorem dX11_forged_12 : decode cX11_forged 12 = .ok (.aload_n 0, 1) := by decide +kernel
theorem dX11_forged_13 : decode cX11_forged 13 = .ok (.getfield 50, 3) := by decide +kernel
theorem dX11_forged_16 : decode cX11_forged 16 = .ok (.iconst 0, 1) := by decide +kernel
theorem dX11_forged_17 : decode cX11_forged 17 = .ok (.iaload, 1) := by decide +kernel
theorem dX11_forged_18 : decode cX11_forged 18 = .ok (.aload_n 0, 1) := by decide +kernel
theorem dX11_forged_19 : decode cX11_forged 19 = .ok (.getfield 47, 3) := by decide +kernel
theorem dX11_forged_22 : decode cX11_forged 22 = .ok (.iconst 0, 1) := by decide +kernel
theorem dX11_forged_23 : decode cX11_forged 23 = .ok (.iaload, 1) := by decide +kernel
theorem dX11_forged_24 : decode cX11_forged 24 = .ok (.isub, 1) := by decide +kernel
theorem dX11_forged_25 : decode cX11_forged 25 = .ok (.iconst 1, 1) := by decide +kernel
theorem dX11_forged_26 : decode cX11_forged 26 = .ok (.iadd, 1) := by decide +kernel
theorem dX11_forged_27 : decode cX11_forged 27 = .ok (.aload_n 0, 1) := by decide +kernel
theorem dX11_forged_28 : decode cX11_forged 28 = .ok (.iload_n 1, 1) := by decide +kernel
theorem dX11_forged_29 : decode cX11_forged 29 = .ok (.invokevirtual 137, 3) := by decide +kernel
theorem dX11_forged_32 : decode cX11_forged 32 = .ok (.isub, 1) := by decide +kernel
theorem dX11_forged_33 : decode cX11_forged 33 = .ok (.istore 4, 2) := by decide +kernel
theorem dX11_forged_35 : decode cX11_forged 35 = .ok (.aload_n 0, 1) := by decide +kernel
theorem dX11_forged_36 : decode cX11_forged 36 = .ok (.aload_n 0, 1) := by decide +kernel
theorem dX11_forged_37 : decode cX11_forged 37 = .ok (.getfield 53, 3) := by decide +kernel
theorem dX11_forged_40 : decode cX11_forged 40 = .ok (.iconst 0, 1) := by decide +kernel
theorem dX11_forged_41 : decode cX11_forged 41 = .ok (.iaload, 1) := by decide +kernel
theorem dX11_forged_42 : decode cX11_forged 42 = .ok (.invokevirtual 147, 3) := by decide +kernel
theorem dX11_forged_45 : decode cX11_forged 45 = .ok (.aload_n 0, 1) := by decide +kernel
theorem dX11_forged_46 : decode cX11_forged 46 = .ok (.getfield 60, 3) := by decide +kernel
theorem dX11_forged_49 : decode cX11_forged 49 = .ok (.iload_n 1, 1) := by decide +kernel
theorem dX11_forged_50 : decode cX11_forged 50 = .ok (.iaload, 1) := by decide +kernel
theorem dX11_forged_51 : decode cX11_forged 51 = .ok (.istore 5, 2) := by decide +kernel
theorem dX11_forged_53 : decode cX11_forged 53 = .ok (.aload_n 0, 1) := by decide +kernel
theorem dX11_forged_54 : decode cX11_forged 54 = .ok (.getfield 141, 3) := by decide +kernel
theorem dX11_forged_57 : decode cX11_forged 57 = .ok (.istore 6, 2) := by decide +kernel
theorem dX11_forged_59 : decode cX11_forged 59 = .ok (.iconst 0, 1) := by decide +kernel
theorem dX11_forged_60 : decode cX11_forged 60 = .ok (.istore 7, 2) := by decide +kernel
theorem dX11_forged_62 : decode cX11_forged 62 = .ok (.iload 7, 2) := by decide +kernel
theorem dX11_forged_64 : decode cX11_forged 64 = .ok (.iload 4, 2) := by decide +kernel
theorem dX11_forged_66 : decode cX11_forged 66 = .ok (.if_icmp .gt 61, 3) := by decide +kernel
theorem dX11_forged_69 : decode cX11_forged 69 = .ok (.aload_n 0, 1) := by decide +kernel
theorem dX11_forged_70 : decode cX11_forged 70 = .ok (.getfield 60, 3) := by decide +kernel
theorem dX11_forged_73 : decode cX11_forged 73 = .ok (.iload_n 1, 1) := by decide +kernel
theorem dX11_forged_74 : decode cX11_forged 74 = .ok (.iload 5, 2) := by decide +kernel
theorem dX11_forged_76 : decode cX11_forged 76 = .ok (.iload 7, 2) := by decide +kernel
theorem dX11_forged_78 : decode cX11_forged 78 = .ok (.if_icmp .le 11, 3) := by decide +kernel
theorem dX11_forged_81 : decode cX11_forged 81 = .ok (.iload 5, 2) := by decide +kernel
theorem dX11_forged_83 : decode cX11_forged 83 = .ok (.iload 7, 2) := by decide +kernel
theorem dX11_forged_85 : decode cX11_forged 85 = .ok (.isub, 1) := by decide +kernel
theorem dX11_forged_86 : decode cX11_forged 86 = .ok (.goto 4, 3) := by decide +kernel
theorem dX11_forged_89 : decode cX11_forged 89 = .ok (.iconst 0, 1) := by decide +kernel
theorem dX11_forged_90 : decode cX11_forged 90 = .ok (.iastore, 1) := by decide +kernel
theorem dX11_forged_91 : decode cX11_forged 91 = .ok (.aload_n 0, 1) := by decide +kernel
theorem dX11_forged_92 : decode cX11_forged 92 = .ok (.iload 6, 2) := by decide +kernel
theorem dX11_forged_94 : decode cX11_forged 94 = .ok (.iload 5, 2) := by decide +kernel
theorem dX11_forged_96 : decode cX11_forged 96 = .ok (.isub, 1) := by decide +kernel
theorem dX11_forged_97 : decode cX11_forged 97 = .ok (.aload_n 0, 1) := by decide +kernel
theorem dX11_forged_98 : decode cX11_forged 98 = .ok (.getfield 60, 3) := by decide +kernel
theorem dX11_forged_101 : decode cX11_forged 101 = .ok (.iload_n 1, 1) := by decide +kernel
theorem dX11_forged_102 : decode cX11_forged 102 = .ok (.iaload, 1) := by decide +kernel
theorem dX11_forged_103 : decode cX11_forged 103 = .ok (.iadd, 1) := by decide +kernel
theorem dX11_forged_104 : decode cX11_forged 104 = .ok (.putfield 141, 3) := by decide +kernel
theorem dX11_forged_107 : decode cX11_forged 107 = .ok (.aload_n 0, 1) := by decide +kernel
theorem dX11_forged_108 : decode cX11_forged 108 = .ok (.iload_n 1, 1) := by decide +kernel
theorem dX11_forged_109 : decode cX11_forged 109 = .ok (.iload_n 2, 1) := by decide +kernel
theorem dX11_forged_110 : decode cX11_forged 110 = .ok (.iload_n 3, 1) := by decide +kernel
theorem dX11_forged_111 : decode cX11_forged 111 = .ok (.iconst 0, 1) := by decide +kernel
theorem dX11_forged_112 : decode cX11_forged 112 = .ok (.invokevirtual 178, 3) := by decide +kernel
theorem dX11_forged_115 : decode cX11_forged 115 = .ok (.ifCond .eq 6, 3) := by decide +kernel
theorem dX11_forged_118 : decode cX11_forged 118 = .ok (.iload 7, 2) := by decide +kernel
theorem dX11_forged_120 : decode cX11_forged 120 = .ok (.ireturn, 1) := by decide +kernel
theorem dX11_forged_121 : decode cX11_forged 121 = .ok (.iinc 7 1, 3) := by decide +kernel
theorem dX11_forged_124 : decode cX11_forged 124 = .ok (.goto (-62), 3) := by decide +kernel
theorem dX11_forged_127 : decode cX11_forged 127 = .ok (.bipush (-9), 2) := by decide +kernel
theorem dX11_forged_129 : decode cX11_forged 129 = .ok (.ireturn, 1) := by decide +kernel
theorem dX11_clashes_0 : decode cX11_clashes 0 = .ok (.aload_n 0, 1) := by decide +kernel
theorem dX11_clashes_1 : decode cX11_clashes 1 = .ok (.getfield 35, 3) := by decide +kernel
theorem dX11_clashes_4 : decode cX11_clashes 4 = .ok (.iload_n 1, 1) := by decide +kernel
theorem dX11_clashes_5 : decode cX11_clashes 5 = .ok (.iaload, 1) := by decide +kernel
theorem dX11_clashes_6 : decode cX11_clashes 6 = .ok (.aload_n 0, 1) := by decide +kernel
theorem dX11_clashes_7 : decode cX11_clashes 7 = .ok (.getfield 35, 3) := by decide +kernel
theorem dX11_clashes_10 : decode cX11_clashes 10 = .ok (.iload_n 2, 1) := by decide +kernel
theorem dX11_clashes_11 : decode cX11_clashes 11 = .ok (.iaload, 1) := by decide +kernel
theorem dX11_clashes_12 : decode cX11_clashes 12 = .ok (.if_icmp .ne 52, 3) := by decide +kernel
theorem dX11_clashes_15 : decode cX11_clashes 15 = .ok (.aload_n 0, 1) := by decide +kernel
theorem dX11_clashes_16 : decode cX11_clashes 16 = .ok (.getfield 38, 3) := by decide +kernel
theorem dX11_clashes_19 : decode cX11_clashes 19 = .ok (.iload_n 1, 1) := by decide +kernel
theorem dX11_clashes_20 : decode cX11_clashes 20 = .ok (.iaload, 1) := by decide +kernel
theorem dX11_clashes_21 : decode cX11_clashes 21 = .ok (.aload_n 0, 1) := by decide +kernel
theorem dX11_clashes_22 : decode cX11_clashes 22 = .ok (.getfield 38, 3) := by decide +kernel
theorem dX11_clashes_25 : decode cX11_clashes 25 = .ok (.iload_n 2, 1) := by decide +kernel
theorem dX11_clashes_26 : decode cX11_clashes 26 = .ok (.iaload, 1) := by decide +kernel
theorem dX11_clashes_27 : decode cX11_clashes 27 = .ok (.if_icmp .eq 37, 3) := by decide +kernel
theorem dX11_clashes_30 : decode cX11_clashes 30 = .ok (.aload_n 0, 1) := by decide +kernel
theorem dX11_clashes_31 : decode cX11_clashes 31 = .ok (.getfield 41, 3) := by decide +kernel
theorem dX11_clashes_34 : decode cX11_clashes 34 = .ok (.iload_n 1, 1) := by decide +kernel
theorem dX11_clashes_35 : decode cX11_clashes 35 = .ok (.iaload, 1) := by decide +kernel
theorem dX11_clashes_36 : decode cX11_clashes 36 = .ok (.aload_n 0, 1) := by decide +kernel
theorem dX11_clashes_37 : decode cX11_clashes 37 = .ok (.getfield 44, 3) := by decide +kernel
theorem dX11_clashes_40 : decode cX11_clashes 40 = .ok (.iload_n 2, 1) := by decide +kernel
theorem dX11_clashes_41 : decode cX11_clashes 41 = .ok (.iaload, 1) := by decide +kernel
theorem dX11_clashes_42 : decode cX11_clashes 42 = .ok (.if_icmp .gt 22, 3) := by decide +kernel
theorem dX11_clashes_45 : decode cX11_clashes 45 = .ok (.aload_n 0, 1) := by decide +kernel
theorem dX11_clashes_46 : decode cX11_clashes 46 = .ok (.getfield 41, 3) := by decide +kernel
theorem dX11_clashes_49 : decode cX11_clashes 49 = .ok (.iload_n 2, 1) := by decide +kernel
theorem dX11_clashes_50 : decode cX11_clashes 50 = .ok (.iaload, 1) := by decide +kernel
theorem dX11_clashes_51 : decode cX11_clashes 51 = .ok (.aload_n 0, 1) := by decide +kernel
theorem dX11_clashes_52 : decode cX11_clashes 52 = .ok (.getfield 44, 3) := by decide +kernel
theorem dX11_clashes_55 : decode cX11_clashes 55 = .ok (.iload_n 1, 1) := by decide +kernel
theorem dX11_clashes_56 : decode cX11_clashes 56 = .ok (.iaload, 1) := by decide +kernel
theorem dX11_clashes_57 : decode cX11_clashes 57 = .ok (.if_icmp .gt 7, 3) := by decide +kernel
theorem dX11_clashes_60 : decode cX11_clashes 60 = .ok (.iconst 1, 1) := by decide +kernel
theorem dX11_clashes_61 : decode cX11_clashes 61 = .ok (.goto 4, 3) := by decide +kernel
theorem dX11_clashes_64 : decode cX11_clashes 64 = .ok (.iconst 0, 1) := by decide +kernel
theorem dX11_clashes_65 : decode cX11_clashes 65 = .ok (.ireturn, 1) := by decide +kernel
theorem dX11_hasClash_0 : decode cX11_hasClash 0 = .ok (.iconst 0, 1) := by decide +kernel
theorem dX11_hasClash_1 : decode cX11_hasClash 1 = .ok (.istore_n 2, 1) := by decide +kernel
theorem dX11_hasClash_2 : decode cX11_hasClash 2 = .ok (.iconst 0, 1) := by decide +kernel
theorem dX11_hasClash_3 : decode cX11_hasClash 3 = .ok (.istore_n 3, 1) := by decide +kernel
theorem dX11_hasClash_4 : decode cX11_hasClash 4 = .ok (.iload_n 3, 1) := by decide +kernel
theorem dX11_hasClash_5 : decode cX11_hasClash 5 = .ok (.aload_n 0, 1) := by decide +kernel
theorem dX11_hasClash_6 : decode cX11_hasClash 6 = .ok (.getfield 32, 3) := by decide +kernel
theorem dX11_hasClash_9 : decode cX11_hasClash 9 = .ok (.iconst 0, 1) := by decide +kernel
theorem dX11_hasClash_10 : decode cX11_hasClash 10 = .ok (.iaload, 1) := by decide +kernel
theorem dX11_hasClash_11 : decode cX11_hasClash 11 = .ok (.if_icmp .ge 61, 3) := by decide +kernel
theorem dX11_hasClash_14 : decode cX11_hasClash 14 = .ok (.iconst 0, 1) := by decide +kernel
theorem dX11_hasClash_15 : decode cX11_hasClash 15 = .ok (.istore 4, 2) := by decide +kernel
theorem dX11_hasClash_17 : decode cX11_hasClash 17 = .ok (.iload 4, 2) := by decide +kernel
theorem dX11_hasClash_19 : decode cX11_hasClash 19 = .ok (.iload_n 3, 1) := by decide +kernel
theorem dX11_hasClash_20 : decode cX11_hasClash 20 = .ok (.if_icmp .ge 46, 3) := by decide +kernel
theorem dX11_hasClash_23 : decode cX11_hasClash 23 = .ok (.iload_n 2, 1) := by decide +kernel
theorem dX11_hasClash_24 : decode cX11_hasClash 24 = .ok (.ifCond .ne 30, 3) := by decide +kernel
theorem dX11_hasClash_27 : decode cX11_hasClash 27 = .ok (.iload_n 1, 1) := by decide +kernel
theorem dX11_hasClash_28 : decode cX11_hasClash 28 = .ok (.iload_n 3, 1) := by decide +kernel
theorem dX11_hasClash_29 : decode cX11_hasClash 29 = .ok (.ishr, 1) := by decide +kernel
theorem dX11_hasClash_30 : decode cX11_hasClash 30 = .ok (.iconst 1, 1) := by decide +kernel
theorem dX11_hasClash_31 : decode cX11_hasClash 31 = .ok (.iand, 1) := by decide +kernel
theorem dX11_hasClash_32 : decode cX11_hasClash 32 = .ok (.ifCond .ne 26, 3) := by decide +kernel
theorem dX11_hasClash_35 : decode cX11_hasClash 35 = .ok (.iload_n 1, 1) := by decide +kernel
theorem dX11_hasClash_36 : decode cX11_hasClash 36 = .ok (.iload 4, 2) := by decide +kernel
theorem dX11_hasClash_38 : decode cX11_hasClash 38 = .ok (.ishr, 1) := by decide +kernel
theorem dX11_hasClash_39 : decode cX11_hasClash 39 = .ok (.iconst 1, 1) := by decide +kernel
theorem dX11_hasClash_40 : decode cX11_hasClash 40 = .ok (.iand, 1) := by decide +kernel
theorem dX11_hasClash_41 : decode cX11_hasClash 41 = .ok (.ifCond .ne 17, 3) := by decide +kernel
theorem dX11_hasClash_44 : decode cX11_hasClash 44 = .ok (.aload_n 0, 1) := by decide +kernel
theorem dX11_hasClash_45 : decode cX11_hasClash 45 = .ok (.iload_n 3, 1) := by decide +kernel
theorem dX11_hasClash_46 : decode cX11_hasClash 46 = .ok (.iload 4, 2) := by decide +kernel
theorem dX11_hasClash_48 : decode cX11_hasClash 48 = .ok (.invokevirtual 189, 3) := by decide +kernel
theorem dX11_hasClash_51 : decode cX11_hasClash 51 = .ok (.ifCond .eq 7, 3) := by decide +kernel
theorem dX11_hasClash_54 : decode cX11_hasClash 54 = .ok (.iconst 1, 1) := by decide +kernel
theorem dX11_hasClash_55 : decode cX11_hasClash 55 = .ok (.goto 4, 3) := by decide +kernel
theorem dX11_hasClash_58 : decode cX11_hasClash 58 = .ok (.iconst 0, 1) := by decide +kernel
theorem dX11_hasClash_59 : decode cX11_hasClash 59 = .ok (.istore_n 2, 1) := by decide +kernel
theorem dX11_hasClash_60 : decode cX11_hasClash 60 = .ok (.iinc 4 1, 3) := by decide +kernel
theorem dX11_hasClash_63 : decode cX11_hasClash 63 = .ok (.goto (-46), 3) := by decide +kernel
theorem dX11_hasClash_66 : decode cX11_hasClash 66 = .ok (.iinc 3 1, 3) := by decide +kernel
theorem dX11_hasClash_69 : decode cX11_hasClash 69 = .ok (.goto (-65), 3) := by decide +kernel
theorem dX11_hasClash_72 : decode cX11_hasClash 72 = .ok (.iload_n 2, 1) := by decide +kernel
theorem dX11_hasClash_73 : decode cX11_hasClash 73 = .ok (.ireturn, 1) := by decide +kernel
theorem dX11_manyOf_0 : decode cX11_manyOf 0 = .ok (.iconst 0, 1) := by decide +kernel
theorem dX11_manyOf_1 : decode cX11_manyOf 1 = .ok (.istore_n 1, 1) := by decide +kernel
theorem dX11_manyOf_2 : decode cX11_manyOf 2 = .ok (.iconst 0, 1) := by decide +kernel
theorem dX11_manyOf_3 : decode cX11_manyOf 3 = .ok (.istore_n 2, 1) := by decide +kernel
theorem dX11_manyOf_4 : decode cX11_manyOf 4 = .ok (.iload_n 2, 1) := by decide +kernel
theorem dX11_manyOf_5 : decode cX11_manyOf 5 = .ok (.bipush 8, 2) := by decide +kernel
theorem dX11_manyOf_7 : decode cX11_manyOf 7 = .ok (.if_icmp .ge 17, 3) := by decide +kernel
theorem dX11_manyOf_10 : decode cX11_manyOf 10 = .ok (.iload_n 1, 1) := by decide +kernel
theorem dX11_manyOf_11 : decode cX11_manyOf 11 = .ok (.iload_n 0, 1) := by decide +kernel
theorem dX11_manyOf_12 : decode cX11_manyOf 12 = .ok (.iload_n 2, 1) := by decide +kernel
theorem dX11_manyOf_13 : decode cX11_manyOf 13 = .ok (.ishr, 1) := by decide +kernel
theorem dX11_manyOf_14 : decode cX11_manyOf 14 = .ok (.iconst 1, 1) := by decide +kernel
theorem dX11_manyOf_15 : decode cX11_manyOf 15 = .ok (.iand, 1) := by decide +kernel
theorem dX11_manyOf_16 : decode cX11_manyOf 16 = .ok (.iadd, 1) := by decide +kernel
theorem dX11_manyOf_17 : decode cX11_manyOf 17 = .ok (.istore_n 1, 1) := by decide +kernel
theorem dX11_manyOf_18 : decode cX11_manyOf 18 = .ok (.iinc 2 1, 3) := by decide +kernel
theorem dX11_manyOf_21 : decode cX11_manyOf 21 = .ok (.goto (-17), 3) := by decide +kernel
theorem dX11_manyOf_24 : decode cX11_manyOf 24 = .ok (.iload_n 1, 1) := by decide +kernel
theorem dX11_manyOf_25 : decode cX11_manyOf 25 = .ok (.ireturn, 1) := by decide +kernel
theorem dX11_clash_0 : decode cX11_clash 0 = .ok (.iload_n 1, 1) := by decide +kernel
theorem dX11_clash_1 : decode cX11_clash 1 = .ok (.iconst 0, 1) := by decide +kernel
theorem dX11_clash_2 : decode cX11_clash 2 = .ok (.iconst 1, 1) := by decide +kernel
theorem dX11_clash_3 : decode cX11_clash 3 = .ok (.invokestatic 72, 3) := by decide +kernel
theorem dX11_clash_6 : decode cX11_clash 6 = .ok (.ifCond .ne 5, 3) := by decide +kernel
theorem dX11_clash_9 : decode cX11_clash 9 = .ok (.iconst (-1), 1) := by decide +kernel
theorem dX11_clash_10 : decode cX11_clash 10 = .ok (.ireturn, 1) := by decide +kernel
theorem dX11_clash_11 : decode cX11_clash 11 = .ok (.iload_n 1, 1) := by decide +kernel
theorem dX11_clash_12 : decode cX11_clash 12 = .ok (.ifCond .ne 58, 3) := by decide +kernel
theorem dX11_clash_15 : decode cX11_clash 15 = .ok (.iconst 0, 1) := by decide +kernel
theorem dX11_clash_16 : decode cX11_clash 16 = .ok (.istore_n 2, 1) := by decide +kernel
theorem dX11_clash_17 : decode cX11_clash 17 = .ok (.iconst 0, 1) := by decide +kernel
theorem dX11_clash_18 : decode cX11_clash 18 = .ok (.istore_n 3, 1) := by decide +kernel
theorem dX11_clash_19 : decode cX11_clash 19 = .ok (.iload_n 3, 1) := by decide +kernel
theorem dX11_clash_20 : decode cX11_clash 20 = .ok (.aload_n 0, 1) := by decide +kernel
theorem dX11_clash_21 : decode cX11_clash 21 = .ok (.getfield 32, 3) := by decide +kernel
theorem dX11_clash_24 : decode cX11_clash 24 = .ok (.iconst 0, 1) := by decide +kernel
theorem dX11_clash_25 : decode cX11_clash 25 = .ok (.iaload, 1) := by decide +kernel
theorem dX11_clash_26 : decode cX11_clash 26 = .ok (.if_icmp .ge 42, 3) := by decide +kernel
theorem dX11_clash_29 : decode cX11_clash 29 = .ok (.iconst 0, 1) := by decide +kernel
theorem dX11_clash_30 : decode cX11_clash 30 = .ok (.istore 4, 2) := by decide +kernel
theorem dX11_clash_32 : decode cX11_clash 32 = .ok (.iload 4, 2) := by decide +kernel
theorem dX11_clash_34 : decode cX11_clash 34 = .ok (.iload_n 3, 1) := by decide +kernel
theorem dX11_clash_35 : decode cX11_clash 35 = .ok (.if_icmp .ge 27, 3) := by decide +kernel
theorem dX11_clash_38 : decode cX11_clash 38 = .ok (.iload_n 2, 1) := by decide +kernel
theorem dX11_clash_39 : decode cX11_clash 39 = .ok (.aload_n 0, 1) := by decide +kernel
theorem dX11_clash_40 : decode cX11_clash 40 = .ok (.iload_n 3, 1) := by decide +kernel
theorem dX11_clash_41 : decode cX11_clash 41 = .ok (.iload 4, 2) := by decide +kernel
theorem dX11_clash_43 : decode cX11_clash 43 = .ok (.invokevirtual 189, 3) := by decide +kernel
theorem dX11_clash_46 : decode cX11_clash 46 = .ok (.ifCond .eq 7, 3) := by decide +kernel
theorem dX11_clash_49 : decode cX11_clash 49 = .ok (.iconst 1, 1) := by decide +kernel
theorem dX11_clash_50 : decode cX11_clash 50 = .ok (.goto 4, 3) := by decide +kernel
theorem dX11_clash_53 : decode cX11_clash 53 = .ok (.iconst 0, 1) := by decide +kernel
theorem dX11_clash_54 : decode cX11_clash 54 = .ok (.iadd, 1) := by decide +kernel
theorem dX11_clash_55 : decode cX11_clash 55 = .ok (.istore_n 2, 1) := by decide +kernel
theorem dX11_clash_56 : decode cX11_clash 56 = .ok (.iinc 4 1, 3) := by decide +kernel
theorem dX11_clash_59 : decode cX11_clash 59 = .ok (.goto (-27), 3) := by decide +kernel
theorem dX11_clash_62 : decode cX11_clash 62 = .ok (.iinc 3 1, 3) := by decide +kernel
theorem dX11_clash_65 : decode cX11_clash 65 = .ok (.goto (-46), 3) := by decide +kernel
theorem dX11_clash_68 : decode cX11_clash 68 = .ok (.iload_n 2, 1) := by decide +kernel
theorem dX11_clash_69 : decode cX11_clash 69 = .ok (.ireturn, 1) := by decide +kernel
theorem dX11_clash_70 : decode cX11_clash 70 = .ok (.bipush (-9), 2) := by decide +kernel
theorem dX11_clash_72 : decode cX11_clash 72 = .ok (.istore_n 2, 1) := by decide +kernel
theorem dX11_clash_73 : decode cX11_clash 73 = .ok (.iconst 0, 1) := by decide +kernel
theorem dX11_clash_74 : decode cX11_clash 74 = .ok (.istore_n 3, 1) := by decide +kernel
theorem dX11_clash_75 : decode cX11_clash 75 = .ok (.iload_n 3, 1) := by decide +kernel
theorem dX11_clash_76 : decode cX11_clash 76 = .ok (.iconst 1, 1) := by decide +kernel
theorem dX11_clash_77 : decode cX11_clash 77 = .ok (.aload_n 0, 1) := by decide +kernel
theorem dX11_clash_78 : decode cX11_clash 78 = .ok (.getfield 32, 3) := by decide +kernel
theorem dX11_clash_81 : decode cX11_clash 81 = .ok (.iconst 0, 1) := by decide +kernel
theorem dX11_clash_82 : decode cX11_clash 82 = .ok (.iaload, 1) := by decide +kernel
theorem dX11_clash_83 : decode cX11_clash 83 = .ok (.ishl, 1) := by decide +kernel
theorem dX11_clash_84 : decode cX11_clash 84 = .ok (.if_icmp .ge 36, 3) := by decide +kernel
theorem dX11_clash_87 : decode cX11_clash 87 = .ok (.iload_n 2, 1) := by decide +kernel
theorem dX11_clash_88 : decode cX11_clash 88 = .ok (.bipush (-9), 2) := by decide +kernel
theorem dX11_clash_90 : decode cX11_clash 90 = .ok (.if_icmp .eq 14, 3) := by decide +kernel
theorem dX11_clash_93 : decode cX11_clash 93 = .ok (.iload_n 3, 1) := by decide +kernel
theorem dX11_clash_94 : decode cX11_clash 94 = .ok (.invokestatic 193, 3) := by decide +kernel
theorem dX11_clash_97 : decode cX11_clash 97 = .ok (.iload_n 2, 1) := by decide +kernel
theorem dX11_clash_98 : decode cX11_clash 98 = .ok (.invokestatic 193, 3) := by decide +kernel
theorem dX11_clash_101 : decode cX11_clash 101 = .ok (.if_icmp .ge 13, 3) := by decide +kernel
theorem dX11_clash_104 : decode cX11_clash 104 = .ok (.aload_n 0, 1) := by decide +kernel
theorem dX11_clash_105 : decode cX11_clash 105 = .ok (.iload_n 3, 1) := by decide +kernel
theorem dX11_clash_106 : decode cX11_clash 106 = .ok (.invokevirtual 196, 3) := by decide +kernel
theorem dX11_clash_109 : decode cX11_clash 109 = .ok (.ifCond .ne 5, 3) := by decide +kernel
theorem dX11_clash_112 : decode cX11_clash 112 = .ok (.iload_n 3, 1) := by decide +kernel
theorem dX11_clash_113 : decode cX11_clash 113 = .ok (.istore_n 2, 1) := by decide +kernel
theorem dX11_clash_114 : decode cX11_clash 114 = .ok (.iinc 3 1, 3) := by decide +kernel
theorem dX11_clash_117 : decode cX11_clash 117 = .ok (.goto (-42), 3) := by decide +kernel
theorem dX11_clash_120 : decode cX11_clash 120 = .ok (.iload_n 2, 1) := by decide +kernel
theorem dX11_clash_121 : decode cX11_clash 121 = .ok (.ireturn, 1) := by decide +kernel
theorem dX11_bandHeld_0 : decode cX11_bandHeld 0 = .ok (.iload_n 2, 1) := by decide +kernel
theorem dX11_bandHeld_1 : decode cX11_bandHeld 1 = .ok (.iload_n 1, 1) := by decide +kernel
theorem dX11_bandHeld_2 : decode cX11_bandHeld 2 = .ok (.ishr, 1) := by decide +kernel
theorem dX11_bandHeld_3 : decode cX11_bandHeld 3 = .ok (.iconst 1, 1) := by decide +kernel
theorem dX11_bandHeld_4 : decode cX11_bandHeld 4 = .ok (.iand, 1) := by decide +kernel
theorem dX11_bandHeld_5 : decode cX11_bandHeld 5 = .ok (.iconst 1, 1) := by decide +kernel
theorem dX11_bandHeld_6 : decode cX11_bandHeld 6 = .ok (.if_icmp .ne 7, 3) := by decide +kernel
theorem dX11_bandHeld_9 : decode cX11_bandHeld 9 = .ok (.iconst 1, 1) := by decide +kernel
theorem dX11_bandHeld_10 : decode cX11_bandHeld 10 = .ok (.goto 4, 3) := by decide +kernel
theorem dX11_bandHeld_13 : decode cX11_bandHeld 13 = .ok (.iconst 0, 1) := by decide +kernel
theorem dX11_bandHeld_14 : decode cX11_bandHeld 14 = .ok (.istore_n 3, 1) := by decide +kernel
theorem dX11_bandHeld_15 : decode cX11_bandHeld 15 = .ok (.iload_n 2, 1) := by decide +kernel
theorem dX11_bandHeld_16 : decode cX11_bandHeld 16 = .ok (.invokestatic 193, 3) := by decide +kernel
theorem dX11_bandHeld_19 : decode cX11_bandHeld 19 = .ok (.iload_n 3, 1) := by decide +kernel
theorem dX11_bandHeld_20 : decode cX11_bandHeld 20 = .ok (.ifCond .eq 7, 3) := by decide +kernel
theorem dX11_bandHeld_23 : decode cX11_bandHeld 23 = .ok (.iconst 1, 1) := by decide +kernel
theorem dX11_bandHeld_24 : decode cX11_bandHeld 24 = .ok (.goto 4, 3) := by decide +kernel
theorem dX11_bandHeld_27 : decode cX11_bandHeld 27 = .ok (.iconst 0, 1) := by decide +kernel
theorem dX11_bandHeld_28 : decode cX11_bandHeld 28 = .ok (.isub, 1) := by decide +kernel
theorem dX11_bandHeld_29 : decode cX11_bandHeld 29 = .ok (.istore 4, 2) := by decide +kernel
theorem dX11_bandHeld_31 : decode cX11_bandHeld 31 = .ok (.iload_n 3, 1) := by decide +kernel
theorem dX11_bandHeld_32 : decode cX11_bandHeld 32 = .ok (.ifCond .eq 14, 3) := by decide +kernel
theorem dX11_bandHeld_35 : decode cX11_bandHeld 35 = .ok (.aload_n 0, 1) := by decide +kernel
theorem dX11_bandHeld_36 : decode cX11_bandHeld 36 = .ok (.getfield 60, 3) := by decide +kernel
theorem dX11_bandHeld_39 : decode cX11_bandHeld 39 = .ok (.iload_n 1, 1) := by decide +kernel
theorem dX11_bandHeld_40 : decode cX11_bandHeld 40 = .ok (.iaload, 1) := by decide +kernel
theorem dX11_bandHeld_41 : decode cX11_bandHeld 41 = .ok (.iconst 2, 1) := by decide +kernel
theorem dX11_bandHeld_42 : decode cX11_bandHeld 42 = .ok (.idiv, 1) := by decide +kernel
theorem dX11_bandHeld_43 : decode cX11_bandHeld 43 = .ok (.goto 9, 3) := by decide +kernel
theorem dX11_bandHeld_46 : decode cX11_bandHeld 46 = .ok (.aload_n 0, 1) := by decide +kernel
theorem dX11_bandHeld_47 : decode cX11_bandHeld 47 = .ok (.getfield 60, 3) := by decide +kernel
theorem dX11_bandHeld_50 : decode cX11_bandHeld 50 = .ok (.iload_n 1, 1) := by decide +kernel
theorem dX11_bandHeld_51 : decode cX11_bandHeld 51 = .ok (.iaload, 1) := by decide +kernel
theorem dX11_bandHeld_52 : decode cX11_bandHeld 52 = .ok (.iconst 3, 1) := by decide +kernel
theorem dX11_bandHeld_53 : decode cX11_bandHeld 53 = .ok (.iload 4, 2) := by decide +kernel
theorem dX11_bandHeld_55 : decode cX11_bandHeld 55 = .ok (.imul, 1) := by decide +kernel
theorem dX11_bandHeld_56 : decode cX11_bandHeld 56 = .ok (.iadd, 1) := by decide +kernel
theorem dX11_bandHeld_57 : decode cX11_bandHeld 57 = .ok (.ireturn, 1) := by decide +kernel
theorem dX11_bandDays_0 : decode cX11_bandDays 0 = .ok (.iconst 0, 1) := by decide +kernel
theorem dX11_bandDays_1 : decode cX11_bandDays 1 = .ok (.istore_n 3, 1) := by decide +kernel
theorem dX11_bandDays_2 : decode cX11_bandDays 2 = .ok (.iconst 0, 1) := by decide +kernel
theorem dX11_bandDays_3 : decode cX11_bandDays 3 = .ok (.istore 4, 2) := by decide +kernel
theorem dX11_bandDays_5 : decode cX11_bandDays 5 = .ok (.iload 4, 2) := by decide +kernel
theorem dX11_bandDays_7 : decode cX11_bandDays 7 = .ok (.aload_n 0, 1) := by decide +kernel
theorem dX11_bandDays_8 : decode cX11_bandDays 8 = .ok (.getfield 13, 3) := by decide +kernel
theorem dX11_bandDays_11 : decode cX11_bandDays 11 = .ok (.iconst 0, 1) := by decide +kernel
theorem dX11_bandDays_12 : decode cX11_bandDays 12 = .ok (.iaload, 1) := by decide +kernel
theorem dX11_bandDays_13 : decode cX11_bandDays 13 = .ok (.if_icmp .ge 19, 3) := by decide +kernel
theorem dX11_bandDays_16 : decode cX11_bandDays 16 = .ok (.iload_n 3, 1) := by decide +kernel
theorem dX11_bandDays_17 : decode cX11_bandDays 17 = .ok (.aload_n 0, 1) := by decide +kernel
theorem dX11_bandDays_18 : decode cX11_bandDays 18 = .ok (.iload 4, 2) := by decide +kernel
theorem dX11_bandDays_20 : decode cX11_bandDays 20 = .ok (.iload_n 2, 1) := by decide +kernel
theorem dX11_bandDays_21 : decode cX11_bandDays 21 = .ok (.invokevirtual 199, 3) := by decide +kernel
theorem dX11_bandDays_24 : decode cX11_bandDays 24 = .ok (.iadd, 1) := by decide +kernel
theorem dX11_bandDays_25 : decode cX11_bandDays 25 = .ok (.istore_n 3, 1) := by decide +kernel
theorem dX11_bandDays_26 : decode cX11_bandDays 26 = .ok (.iinc 4 1, 3) := by decide +kernel
theorem dX11_bandDays_29 : decode cX11_bandDays 29 = .ok (.goto (-24), 3) := by decide +kernel
theorem dX11_bandDays_32 : decode cX11_bandDays 32 = .ok (.iload_n 3, 1) := by decide +kernel
theorem dX11_bandDays_33 : decode cX11_bandDays 33 = .ok (.ifCond .ne 7, 3) := by decide +kernel
theorem dX11_bandDays_36 : decode cX11_bandDays 36 = .ok (.iconst 0, 1) := by decide +kernel
theorem dX11_bandDays_37 : decode cX11_bandDays 37 = .ok (.goto 18, 3) := by decide +kernel
theorem dX11_bandDays_40 : decode cX11_bandDays 40 = .ok (.aload_n 0, 1) := by decide +kernel
theorem dX11_bandDays_41 : decode cX11_bandDays 41 = .ok (.getfield 53, 3) := by decide +kernel
theorem dX11_bandDays_44 : decode cX11_bandDays 44 = .ok (.iconst 2, 1) := by decide +kernel
theorem dX11_bandDays_45 : decode cX11_bandDays 45 = .ok (.iaload, 1) := by decide +kernel
theorem dX11_bandDays_46 : decode cX11_bandDays 46 = .ok (.aload_n 0, 1) := by decide +kernel
theorem dX11_bandDays_47 : decode cX11_bandDays 47 = .ok (.iload_n 1, 1) := by decide +kernel
theorem dX11_bandDays_48 : decode cX11_bandDays 48 = .ok (.iload_n 2, 1) := by decide +kernel
theorem dX11_bandDays_49 : decode cX11_bandDays 49 = .ok (.invokevirtual 199, 3) := by decide +kernel
theorem dX11_bandDays_52 : decode cX11_bandDays 52 = .ok (.imul, 1) := by decide +kernel
theorem dX11_bandDays_53 : decode cX11_bandDays 53 = .ok (.iload_n 3, 1) := by decide +kernel
theorem dX11_bandDays_54 : decode cX11_bandDays 54 = .ok (.idiv, 1) := by decide +kernel
theorem dX11_bandDays_55 : decode cX11_bandDays 55 = .ok (.ireturn, 1) := by decide +kernel
theorem dX11_firstWhoGains_0 : decode cX11_firstWhoGains 0 = .ok (.iconst 0, 1) := by decide +kernel
theorem dX11_firstWhoGains_1 : decode cX11_firstWhoGains 1 = .ok (.istore_n 2, 1) := by decide +kernel
theorem dX11_firstWhoGains_2 : decode cX11_firstWhoGains 2 = .ok (.iload_n 2, 1) := by decide +kernel
theorem dX11_firstWhoGains_3 : decode cX11_firstWhoGains 3 = .ok (.aload_n 0, 1) := by decide +kernel
theorem dX11_firstWhoGains_4 : decode cX11_firstWhoGains 4 = .ok (.getfield 13, 3) := by decide +kernel
theorem dX11_firstWhoGains_7 : decode cX11_firstWhoGains 7 = .ok (.iconst 0, 1) := by decide +kernel
theorem dX11_firstWhoGains_8 : decode cX11_firstWhoGains 8 = .ok (.iaload, 1) := by decide +kernel
theorem dX11_firstWhoGains_9 : decode cX11_firstWhoGains 9 = .ok (.if_icmp .ge 30, 3) := by decide +kernel
theorem dX11_firstWhoGains_12 : decode cX11_firstWhoGains 12 = .ok (.aload_n 0, 1) := by decide +kernel
theorem dX11_firstWhoGains_13 : decode cX11_firstWhoGains 13 = .ok (.iload_n 2, 1) := by decide +kernel
theorem dX11_firstWhoGains_14 : decode cX11_firstWhoGains 14 = .ok (.iload_n 1, 1) := by decide +kernel
theorem dX11_firstWhoGains_15 : decode cX11_firstWhoGains 15 = .ok (.iconst 1, 1) := by decide +kernel
theorem dX11_firstWhoGains_16 : decode cX11_firstWhoGains 16 = .ok (.iload_n 2, 1) := by decide +kernel
theorem dX11_firstWhoGains_17 : decode cX11_firstWhoGains 17 = .ok (.ishl, 1) := by decide +kernel
theorem dX11_firstWhoGains_18 : decode cX11_firstWhoGains 18 = .ok (.ixor, 1) := by decide +kernel
theorem dX11_firstWhoGains_19 : decode cX11_firstWhoGains 19 = .ok (.invokevirtual 202, 3) := by decide +kernel
theorem dX11_firstWhoGains_22 : decode cX11_firstWhoGains 22 = .ok (.aload_n 0, 1) := by decide +kernel
theorem dX11_firstWhoGains_23 : decode cX11_firstWhoGains 23 = .ok (.iload_n 2, 1) := by decide +kernel
theorem dX11_firstWhoGains_24 : decode cX11_firstWhoGains 24 = .ok (.iload_n 1, 1) := by decide +kernel
theorem dX11_firstWhoGains_25 : decode cX11_firstWhoGains 25 = .ok (.invokevirtual 202, 3) := by decide +kernel
theorem dX11_firstWhoGains_28 : decode cX11_firstWhoGains 28 = .ok (.if_icmp .ge 5, 3) := by decide +kernel
theorem dX11_firstWhoGains_31 : decode cX11_firstWhoGains 31 = .ok (.iload_n 2, 1) := by decide +kernel
theorem dX11_firstWhoGains_32 : decode cX11_firstWhoGains 32 = .ok (.ireturn, 1) := by decide +kernel
theorem dX11_firstWhoGains_33 : decode cX11_firstWhoGains 33 = .ok (.iinc 2 1, 3) := by decide +kernel
theorem dX11_firstWhoGains_36 : decode cX11_firstWhoGains 36 = .ok (.goto (-34), 3) := by decide +kernel
theorem dX11_firstWhoGains_39 : decode cX11_firstWhoGains 39 = .ok (.bipush (-9), 2) := by decide +kernel
theorem dX11_firstWhoGains_41 : decode cX11_firstWhoGains 41 = .ok (.ireturn, 1) := by decide +kernel
theorem dX11_rests_0 : decode cX11_rests 0 = .ok (.iload_n 1, 1) := by decide +kernel
theorem dX11_rests_1 : decode cX11_rests 1 = .ok (.iconst 0, 1) := by decide +kernel
theorem dX11_rests_2 : decode cX11_rests 2 = .ok (.iconst 1, 1) := by decide +kernel
theorem dX11_rests_3 : decode cX11_rests 3 = .ok (.invokestatic 72, 3) := by decide +kernel
theorem dX11_rests_6 : decode cX11_rests 6 = .ok (.ifCond .ne 5, 3) := by decide +kernel
theorem dX11_rests_9 : decode cX11_rests 9 = .ok (.iconst (-1), 1) := by decide +kernel
theorem dX11_rests_10 : decode cX11_rests 10 = .ok (.ireturn, 1) := by decide +kernel
theorem dX11_rests_11 : decode cX11_rests 11 = .ok (.aload_n 0, 1) := by decide +kernel
theorem dX11_rests_12 : decode cX11_rests 12 = .ok (.aload_n 0, 1) := by decide +kernel
theorem dX11_rests_13 : decode cX11_rests 13 = .ok (.getfield 53, 3) := by decide +kernel
theorem dX11_rests_16 : decode cX11_rests 16 = .ok (.iconst 0, 1) := by decide +kernel
theorem dX11_rests_17 : decode cX11_rests 17 = .ok (.iaload, 1) := by decide +kernel
theorem dX11_rests_18 : decode cX11_rests 18 = .ok (.invokevirtual 147, 3) := by decide +kernel
theorem dX11_rests_21 : decode cX11_rests 21 = .ok (.iconst 0, 1) := by decide +kernel
theorem dX11_rests_22 : decode cX11_rests 22 = .ok (.istore_n 2, 1) := by decide +kernel
theorem dX11_rests_23 : decode cX11_rests 23 = .ok (.bipush (-9), 2) := by decide +kernel
theorem dX11_rests_25 : decode cX11_rests 25 = .ok (.istore_n 3, 1) := by decide +kernel
theorem dX11_rests_26 : decode cX11_rests 26 = .ok (.iconst 1, 1) := by decide +kernel
theorem dX11_rests_27 : decode cX11_rests 27 = .ok (.aload_n 0, 1) := by decide +kernel
theorem dX11_rests_28 : decode cX11_rests 28 = .ok (.getfield 13, 3) := by decide +kernel
theorem dX11_rests_31 : decode cX11_rests 31 = .ok (.iconst 0, 1) := by decide +kernel
theorem dX11_rests_32 : decode cX11_rests 32 = .ok (.iaload, 1) := by decide +kernel
theorem dX11_rests_33 : decode cX11_rests 33 = .ok (.ishl, 1) := by decide +kernel
theorem dX11_rests_34 : decode cX11_rests 34 = .ok (.iconst 1, 1) := by decide +kernel
theorem dX11_rests_35 : decode cX11_rests 35 = .ok (.isub, 1) := by decide +kernel
theorem dX11_rests_36 : decode cX11_rests 36 = .ok (.istore 4, 2) := by decide +kernel
theorem dX11_rests_38 : decode cX11_rests 38 = .ok (.iload 4, 2) := by decide +kernel
theorem dX11_rests_40 : decode cX11_rests 40 = .ok (.ifCond .lt 52, 3) := by decide +kernel
theorem dX11_rests_43 : decode cX11_rests 43 = .ok (.aload_n 0, 1) := by decide +kernel
theorem dX11_rests_44 : decode cX11_rests 44 = .ok (.iload 4, 2) := by decide +kernel
theorem dX11_rests_46 : decode cX11_rests 46 = .ok (.invokevirtual 205, 3) := by decide +kernel
theorem dX11_rests_49 : decode cX11_rests 49 = .ok (.bipush (-9), 2) := by decide +kernel
theorem dX11_rests_51 : decode cX11_rests 51 = .ok (.if_icmp .ne 7, 3) := by decide +kernel
theorem dX11_rests_54 : decode cX11_rests 54 = .ok (.iconst 1, 1) := by decide +kernel
theorem dX11_rests_55 : decode cX11_rests 55 = .ok (.goto 4, 3) := by decide +kernel
theorem dX11_rests_58 : decode cX11_rests 58 = .ok (.iconst 0, 1) := by decide +kernel
theorem dX11_rests_59 : decode cX11_rests 59 = .ok (.istore 5, 2) := by decide +kernel
theorem dX11_rests_61 : decode cX11_rests 61 = .ok (.iload_n 2, 1) := by decide +kernel
theorem dX11_rests_62 : decode cX11_rests 62 = .ok (.iload 5, 2) := by decide +kernel
theorem dX11_rests_64 : decode cX11_rests 64 = .ok (.ifCond .eq 7, 3) := by decide +kernel
theorem dX11_rests_67 : decode cX11_rests 67 = .ok (.iconst 1, 1) := by decide +kernel
theorem dX11_rests_68 : decode cX11_rests 68 = .ok (.goto 4, 3) := by decide +kernel
theorem dX11_rests_71 : decode cX11_rests 71 = .ok (.iconst 0, 1) := by decide +kernel
theorem dX11_rests_72 : decode cX11_rests 72 = .ok (.iadd, 1) := by decide +kernel
theorem dX11_rests_73 : decode cX11_rests 73 = .ok (.istore_n 2, 1) := by decide +kernel
theorem dX11_rests_74 : decode cX11_rests 74 = .ok (.iload 5, 2) := by decide +kernel
theorem dX11_rests_76 : decode cX11_rests 76 = .ok (.ifCond .eq 8, 3) := by decide +kernel
theorem dX11_rests_79 : decode cX11_rests 79 = .ok (.iload 4, 2) := by decide +kernel
theorem dX11_rests_81 : decode cX11_rests 81 = .ok (.goto 4, 3) := by decide +kernel
theorem dX11_rests_84 : decode cX11_rests 84 = .ok (.iload_n 3, 1) := by decide +kernel
theorem dX11_rests_85 : decode cX11_rests 85 = .ok (.istore_n 3, 1) := by decide +kernel
theorem dX11_rests_86 : decode cX11_rests 86 = .ok (.iinc 4 (-1), 3) := by decide +kernel
theorem dX11_rests_89 : decode cX11_rests 89 = .ok (.goto (-51), 3) := by decide +kernel
theorem dX11_rests_92 : decode cX11_rests 92 = .ok (.iload_n 1, 1) := by decide +kernel
theorem dX11_rests_93 : decode cX11_rests 93 = .ok (.ifCond .ne 7, 3) := by decide +kernel
theorem dX11_rests_96 : decode cX11_rests 96 = .ok (.iload_n 2, 1) := by decide +kernel
theorem dX11_rests_97 : decode cX11_rests 97 = .ok (.goto 4, 3) := by decide +kernel
theorem dX11_rests_100 : decode cX11_rests 100 = .ok (.iload_n 3, 1) := by decide +kernel
theorem dX11_rests_101 : decode cX11_rests 101 = .ok (.ireturn, 1) := by decide +kernel
theorem dX11_gains_0 : decode cX11_gains 0 = .ok (.iload_n 1, 1) := by decide +kernel
theorem dX11_gains_1 : decode cX11_gains 1 = .ok (.iconst 0, 1) := by decide +kernel
theorem dX11_gains_2 : decode cX11_gains 2 = .ok (.iconst 1, 1) := by decide +kernel
theorem dX11_gains_3 : decode cX11_gains 3 = .ok (.aload_n 0, 1) := by decide +kernel
theorem dX11_gains_4 : decode cX11_gains 4 = .ok (.getfield 13, 3) := by decide +kernel
theorem dX11_gains_7 : decode cX11_gains 7 = .ok (.iconst 0, 1) := by decide +kernel
theorem dX11_gains_8 : decode cX11_gains 8 = .ok (.iaload, 1) := by decide +kernel
theorem dX11_gains_9 : decode cX11_gains 9 = .ok (.ishl, 1) := by decide +kernel
theorem dX11_gains_10 : decode cX11_gains 10 = .ok (.iconst 1, 1) := by decide +kernel
theorem dX11_gains_11 : decode cX11_gains 11 = .ok (.isub, 1) := by decide +kernel
theorem dX11_gains_12 : decode cX11_gains 12 = .ok (.invokestatic 72, 3) := by decide +kernel
theorem dX11_gains_15 : decode cX11_gains 15 = .ok (.ifCond .ne 5, 3) := by decide +kernel
theorem dX11_gains_18 : decode cX11_gains 18 = .ok (.iconst (-1), 1) := by decide +kernel
theorem dX11_gains_19 : decode cX11_gains 19 = .ok (.ireturn, 1) := by decide +kernel
theorem dX11_gains_20 : decode cX11_gains 20 = .ok (.aload_n 0, 1) := by decide +kernel
theorem dX11_gains_21 : decode cX11_gains 21 = .ok (.aload_n 0, 1) := by decide +kernel
theorem dX11_gains_22 : decode cX11_gains 22 = .ok (.getfield 53, 3) := by decide +kernel
theorem dX11_gains_25 : decode cX11_gains 25 = .ok (.iconst 0, 1) := by decide +kernel
theorem dX11_gains_26 : decode cX11_gains 26 = .ok (.iaload, 1) := by decide +kernel
theorem dX11_gains_27 : decode cX11_gains 27 = .ok (.invokevirtual 147, 3) := by decide +kernel
theorem dX11_gains_30 : decode cX11_gains 30 = .ok (.aload_n 0, 1) := by decide +kernel
theorem dX11_gains_31 : decode cX11_gains 31 = .ok (.iload_n 1, 1) := by decide +kernel
theorem dX11_gains_32 : decode cX11_gains 32 = .ok (.invokevirtual 205, 3) := by decide +kernel
theorem dX11_gains_35 : decode cX11_gains 35 = .ok (.ireturn, 1) := by decide +kernel
theorem dX11_fitsIn_0 : decode cX11_fitsIn 0 = .ok (.iconst 1, 1) := by decide +kernel
theorem dX11_fitsIn_1 : decode cX11_fitsIn 1 = .ok (.istore_n 2, 1) := by decide +kernel
theorem dX11_fitsIn_2 : decode cX11_fitsIn 2 = .ok (.iconst 0, 1) := by decide +kernel
theorem dX11_fitsIn_3 : decode cX11_fitsIn 3 = .ok (.istore_n 3, 1) := by decide +kernel
theorem dX11_fitsIn_4 : decode cX11_fitsIn 4 = .ok (.iload_n 3, 1) := by decide +kernel
theorem dX11_fitsIn_5 : decode cX11_fitsIn 5 = .ok (.aload_n 0, 1) := by decide +kernel
theorem dX11_fitsIn_6 : decode cX11_fitsIn 6 = .ok (.getfield 13, 3) := by decide +kernel
theorem dX11_fitsIn_9 : decode cX11_fitsIn 9 = .ok (.iconst 0, 1) := by decide +kernel
theorem dX11_fitsIn_10 : decode cX11_fitsIn 10 = .ok (.iaload, 1) := by decide +kernel
theorem dX11_fitsIn_11 : decode cX11_fitsIn 11 = .ok (.if_icmp .ge 29, 3) := by decide +kernel
theorem dX11_fitsIn_14 : decode cX11_fitsIn 14 = .ok (.iload_n 2, 1) := by decide +kernel
theorem dX11_fitsIn_15 : decode cX11_fitsIn 15 = .ok (.ifCond .eq 17, 3) := by decide +kernel
theorem dX11_fitsIn_18 : decode cX11_fitsIn 18 = .ok (.aload_n 0, 1) := by decide +kernel
theorem dX11_fitsIn_19 : decode cX11_fitsIn 19 = .ok (.getfield 63, 3) := by decide +kernel
theorem dX11_fitsIn_22 : decode cX11_fitsIn 22 = .ok (.iload_n 3, 1) := by decide +kernel
theorem dX11_fitsIn_23 : decode cX11_fitsIn 23 = .ok (.iaload, 1) := by decide +kernel
theorem dX11_fitsIn_24 : decode cX11_fitsIn 24 = .ok (.iload_n 1, 1) := by decide +kernel
theorem dX11_fitsIn_25 : decode cX11_fitsIn 25 = .ok (.if_icmp .gt 7, 3) := by decide +kernel
theorem dX11_fitsIn_28 : decode cX11_fitsIn 28 = .ok (.iconst 1, 1) := by decide +kernel
theorem dX11_fitsIn_29 : decode cX11_fitsIn 29 = .ok (.goto 4, 3) := by decide +kernel
theorem dX11_fitsIn_32 : decode cX11_fitsIn 32 = .ok (.iconst 0, 1) := by decide +kernel
theorem dX11_fitsIn_33 : decode cX11_fitsIn 33 = .ok (.istore_n 2, 1) := by decide +kernel
theorem dX11_fitsIn_34 : decode cX11_fitsIn 34 = .ok (.iinc 3 1, 3) := by decide +kernel
theorem dX11_fitsIn_37 : decode cX11_fitsIn 37 = .ok (.goto (-33), 3) := by decide +kernel
theorem dX11_fitsIn_40 : decode cX11_fitsIn 40 = .ok (.iload_n 2, 1) := by decide +kernel
theorem dX11_fitsIn_41 : decode cX11_fitsIn 41 = .ok (.ireturn, 1) := by decide +kernel
theorem dX11_cellsFor_0 : decode cX11_cellsFor 0 = .ok (.iload_n 1, 1) := by decide +kernel
theorem dX11_cellsFor_1 : decode cX11_cellsFor 1 = .ok (.iconst 1, 1) := by decide +kernel
theorem dX11_cellsFor_2 : decode cX11_cellsFor 2 = .ok (.bipush 60, 2) := by decide +kernel
theorem dX11_cellsFor_4 : decode cX11_cellsFor 4 = .ok (.invokestatic 72, 3) := by decide +kernel
theorem dX11_cellsFor_7 : decode cX11_cellsFor 7 = .ok (.ifCond .ne 5, 3) := by decide +kernel
theorem dX11_cellsFor_10 : decode cX11_cellsFor 10 = .ok (.iconst (-1), 1) := by decide +kernel
theorem dX11_cellsFor_11 : decode cX11_cellsFor 11 = .ok (.ireturn, 1) := by decide +kernel
theorem dX11_cellsFor_12 : decode cX11_cellsFor 12 = .ok (.aload_n 0, 1) := by decide +kernel
theorem dX11_cellsFor_13 : decode cX11_cellsFor 13 = .ok (.invokevirtual 172, 3) := by decide +kernel
theorem dX11_cellsFor_16 : decode cX11_cellsFor 16 = .ok (.istore_n 2, 1) := by decide +kernel
theorem dX11_cellsFor_17 : decode cX11_cellsFor 17 = .ok (.aload_n 0, 1) := by decide +kernel
theorem dX11_cellsFor_18 : decode cX11_cellsFor 18 = .ok (.iload_n 1, 1) := by decide +kernel
theorem dX11_cellsFor_19 : decode cX11_cellsFor 19 = .ok (.invokevirtual 208, 3) := by decide +kernel
theorem dX11_cellsFor_22 : decode cX11_cellsFor 22 = .ok (.ifCond .eq 13, 3) := by decide +kernel
theorem dX11_cellsFor_25 : decode cX11_cellsFor 25 = .ok (.iload_n 2, 1) := by decide +kernel
theorem dX11_cellsFor_26 : decode cX11_cellsFor 26 = .ok (.iload_n 1, 1) := by decide +kernel
theorem dX11_cellsFor_27 : decode cX11_cellsFor 27 = .ok (.iadd, 1) := by decide +kernel
theorem dX11_cellsFor_28 : decode cX11_cellsFor 28 = .ok (.iconst 1, 1) := by decide +kernel
theorem dX11_cellsFor_29 : decode cX11_cellsFor 29 = .ok (.isub, 1) := by decide +kernel
theorem dX11_cellsFor_30 : decode cX11_cellsFor 30 = .ok (.iload_n 1, 1) := by decide +kernel
theorem dX11_cellsFor_31 : decode cX11_cellsFor 31 = .ok (.idiv, 1) := by decide +kernel
theorem dX11_cellsFor_32 : decode cX11_cellsFor 32 = .ok (.goto 5, 3) := by decide +kernel
theorem dX11_cellsFor_35 : decode cX11_cellsFor 35 = .ok (.bipush (-9), 2) := by decide +kernel
theorem dX11_cellsFor_37 : decode cX11_cellsFor 37 = .ok (.ireturn, 1) := by decide +kernel
theorem dX11_sits_0 : decode cX11_sits 0 = .ok (.iload_n 1, 1) := by decide +kernel
theorem dX11_sits_1 : decode cX11_sits 1 = .ok (.iconst 1, 1) := by decide +kernel
theorem dX11_sits_2 : decode cX11_sits 2 = .ok (.bipush 60, 2) := by decide +kernel
theorem dX11_sits_4 : decode cX11_sits 4 = .ok (.invokestatic 72, 3) := by decide +kernel
theorem dX11_sits_7 : decode cX11_sits 7 = .ok (.ifCond .eq 22, 3) := by decide +kernel
theorem dX11_sits_10 : decode cX11_sits 10 = .ok (.aload_n 0, 1) := by decide +kernel
theorem dX11_sits_11 : decode cX11_sits 11 = .ok (.iload_n 2, 1) := by decide +kernel
theorem dX11_sits_12 : decode cX11_sits 12 = .ok (.invokevirtual 153, 3) := by decide +kernel
theorem dX11_sits_15 : decode cX11_sits 15 = .ok (.ifCond .eq 14, 3) := by decide +kernel
theorem dX11_sits_18 : decode cX11_sits 18 = .ok (.iload_n 3, 1) := by decide +kernel
theorem dX11_sits_19 : decode cX11_sits 19 = .ok (.iconst 0, 1) := by decide +kernel
theorem dX11_sits_20 : decode cX11_sits 20 = .ok (.iload_n 1, 1) := by decide +kernel
theorem dX11_sits_21 : decode cX11_sits 21 = .ok (.iconst 1, 1) := by decide +kernel
theorem dX11_sits_22 : decode cX11_sits 22 = .ok (.isub, 1) := by decide +kernel
theorem dX11_sits_23 : decode cX11_sits 23 = .ok (.invokestatic 72, 3) := by decide +kernel
theorem dX11_sits_26 : decode cX11_sits 26 = .ok (.ifCond .ne 5, 3) := by decide +kernel
theorem dX11_sits_29 : decode cX11_sits 29 = .ok (.iconst (-1), 1) := by decide +kernel
theorem dX11_sits_30 : decode cX11_sits 30 = .ok (.ireturn, 1) := by decide +kernel
theorem dX11_sits_31 : decode cX11_sits 31 = .ok (.aload_n 0, 1) := by decide +kernel
theorem dX11_sits_32 : decode cX11_sits 32 = .ok (.invokevirtual 156, 3) := by decide +kernel
theorem dX11_sits_35 : decode cX11_sits 35 = .ok (.aload_n 0, 1) := by decide +kernel
theorem dX11_sits_36 : decode cX11_sits 36 = .ok (.iload_n 1, 1) := by decide +kernel
theorem dX11_sits_37 : decode cX11_sits 37 = .ok (.invokevirtual 208, 3) := by decide +kernel
theorem dX11_sits_40 : decode cX11_sits 40 = .ok (.ifCond .ne 6, 3) := by decide +kernel
theorem dX11_sits_43 : decode cX11_sits 43 = .ok (.bipush (-9), 2) := by decide +kernel
theorem dX11_sits_45 : decode cX11_sits 45 = .ok (.ireturn, 1) := by decide +kernel
theorem dX11_sits_46 : decode cX11_sits 46 = .ok (.iconst 0, 1) := by decide +kernel
theorem dX11_sits_47 : decode cX11_sits 47 = .ok (.istore 4, 2) := by decide +kernel
theorem dX11_sits_49 : decode cX11_sits 49 = .ok (.iconst 0, 1) := by decide +kernel
theorem dX11_sits_50 : decode cX11_sits 50 = .ok (.istore 5, 2) := by decide +kernel
theorem dX11_sits_52 : decode cX11_sits 52 = .ok (.iload 5, 2) := by decide +kernel
theorem dX11_sits_54 : decode cX11_sits 54 = .ok (.iload_n 2, 1) := by decide +kernel
theorem dX11_sits_55 : decode cX11_sits 55 = .ok (.if_icmp .ge 21, 3) := by decide +kernel
theorem dX11_sits_58 : decode cX11_sits 58 = .ok (.iload 4, 2) := by decide +kernel
theorem dX11_sits_60 : decode cX11_sits 60 = .ok (.aload_n 0, 1) := by decide +kernel
theorem dX11_sits_61 : decode cX11_sits 61 = .ok (.getfield 63, 3) := by decide +kernel
theorem dX11_sits_64 : decode cX11_sits 64 = .ok (.iload 5, 2) := by decide +kernel
theorem dX11_sits_66 : decode cX11_sits 66 = .ok (.iaload, 1) := by decide +kernel
theorem dX11_sits_67 : decode cX11_sits 67 = .ok (.iadd, 1) := by decide +kernel
theorem dX11_sits_68 : decode cX11_sits 68 = .ok (.istore 4, 2) := by decide +kernel
theorem dX11_sits_70 : decode cX11_sits 70 = .ok (.iinc 5 1, 3) := by decide +kernel
theorem dX11_sits_73 : decode cX11_sits 73 = .ok (.goto (-21), 3) := by decide +kernel
theorem dX11_sits_76 : decode cX11_sits 76 = .ok (.iload 4, 2) := by decide +kernel
theorem dX11_sits_78 : decode cX11_sits 78 = .ok (.istore 5, 2) := by decide +kernel
theorem dX11_sits_80 : decode cX11_sits 80 = .ok (.iload 5, 2) := by decide +kernel
theorem dX11_sits_82 : decode cX11_sits 82 = .ok (.iload 4, 2) := by decide +kernel
theorem dX11_sits_84 : decode cX11_sits 84 = .ok (.aload_n 0, 1) := by decide +kernel
theorem dX11_sits_85 : decode cX11_sits 85 = .ok (.getfield 63, 3) := by decide +kernel
theorem dX11_sits_88 : decode cX11_sits 88 = .ok (.iload_n 2, 1) := by decide +kernel
theorem dX11_sits_89 : decode cX11_sits 89 = .ok (.iaload, 1) := by decide +kernel
theorem dX11_sits_90 : decode cX11_sits 90 = .ok (.iadd, 1) := by decide +kernel
theorem dX11_sits_91 : decode cX11_sits 91 = .ok (.if_icmp .ge 22, 3) := by decide +kernel
theorem dX11_sits_94 : decode cX11_sits 94 = .ok (.iload 5, 2) := by decide +kernel
theorem dX11_sits_96 : decode cX11_sits 96 = .ok (.iload_n 1, 1) := by decide +kernel
theorem dX11_sits_97 : decode cX11_sits 97 = .ok (.irem, 1) := by decide +kernel
theorem dX11_sits_98 : decode cX11_sits 98 = .ok (.iload_n 3, 1) := by decide +kernel
theorem dX11_sits_99 : decode cX11_sits 99 = .ok (.if_icmp .ne 8, 3) := by decide +kernel
theorem dX11_sits_102 : decode cX11_sits 102 = .ok (.iload 5, 2) := by decide +kernel
theorem dX11_sits_104 : decode cX11_sits 104 = .ok (.iload_n 1, 1) := by decide +kernel
theorem dX11_sits_105 : decode cX11_sits 105 = .ok (.idiv, 1) := by decide +kernel
theorem dX11_sits_106 : decode cX11_sits 106 = .ok (.ireturn, 1) := by decide +kernel
theorem dX11_sits_107 : decode cX11_sits 107 = .ok (.iinc 5 1, 3) := by decide +kernel
theorem dX11_sits_110 : decode cX11_sits 110 = .ok (.goto (-30), 3) := by decide +kernel
theorem dX11_sits_113 : decode cX11_sits 113 = .ok (.bipush (-9), 2) := by decide +kernel
theorem dX11_sits_115 : decode cX11_sits 115 = .ok (.ireturn, 1) := by decide +kernel
theorem dX11_byOther_0 : decode cX11_byOther 0 = .ok (.aload_n 0, 1) := by decide +kernel
theorem dX11_byOther_1 : decode cX11_byOther 1 = .ok (.getfield 53, 3) := by decide +kernel
theorem dX11_byOther_4 : decode cX11_byOther 4 = .ok (.iconst 2, 1) := by decide +kernel
theorem dX11_byOther_5 : decode cX11_byOther 5 = .ok (.iaload, 1) := by decide +kernel
theorem dX11_byOther_6 : decode cX11_byOther 6 = .ok (.aload_n 0, 1) := by decide +kernel
theorem dX11_byOther_7 : decode cX11_byOther 7 = .ok (.getfield 60, 3) := by decide +kernel
theorem dX11_byOther_10 : decode cX11_byOther 10 = .ok (.iload_n 1, 1) := by decide +kernel
theorem dX11_byOther_11 : decode cX11_byOther 11 = .ok (.iaload, 1) := by decide +kernel
theorem dX11_byOther_12 : decode cX11_byOther 12 = .ok (.imul, 1) := by decide +kernel
theorem dX11_byOther_13 : decode cX11_byOther 13 = .ok (.bipush 20, 2) := by decide +kernel
theorem dX11_byOther_15 : decode cX11_byOther 15 = .ok (.idiv, 1) := by decide +kernel
theorem dX11_byOther_16 : decode cX11_byOther 16 = .ok (.istore_n 2, 1) := by decide +kernel
theorem dX11_byOther_17 : decode cX11_byOther 17 = .ok (.iload_n 2, 1) := by decide +kernel
theorem dX11_byOther_18 : decode cX11_byOther 18 = .ok (.aload_n 0, 1) := by decide +kernel
theorem dX11_byOther_19 : decode cX11_byOther 19 = .ok (.getfield 53, 3) := by decide +kernel
theorem dX11_byOther_22 : decode cX11_byOther 22 = .ok (.iconst 2, 1) := by decide +kernel
theorem dX11_byOther_23 : decode cX11_byOther 23 = .ok (.iaload, 1) := by decide +kernel
theorem dX11_byOther_24 : decode cX11_byOther 24 = .ok (.if_icmp .le 12, 3) := by decide +kernel
theorem dX11_byOther_27 : decode cX11_byOther 27 = .ok (.aload_n 0, 1) := by decide +kernel
theorem dX11_byOther_28 : decode cX11_byOther 28 = .ok (.getfield 53, 3) := by decide +kernel
theorem dX11_byOther_31 : decode cX11_byOther 31 = .ok (.iconst 2, 1) := by decide +kernel
theorem dX11_byOther_32 : decode cX11_byOther 32 = .ok (.iaload, 1) := by decide +kernel
theorem dX11_byOther_33 : decode cX11_byOther 33 = .ok (.goto 4, 3) := by decide +kernel
theorem dX11_byOther_36 : decode cX11_byOther 36 = .ok (.iload_n 2, 1) := by decide +kernel
theorem dX11_byOther_37 : decode cX11_byOther 37 = .ok (.ireturn, 1) := by decide +kernel
theorem dX11_wronged_0 : decode cX11_wronged 0 = .ok (.iload_n 1, 1) := by decide +kernel
theorem dX11_wronged_1 : decode cX11_wronged 1 = .ok (.iconst (-1), 1) := by decide +kernel
theorem dX11_wronged_2 : decode cX11_wronged 2 = .ok (.if_icmp .eq 14, 3) := by decide +kernel
theorem dX11_wronged_5 : decode cX11_wronged 5 = .ok (.aload_n 0, 1) := by decide +kernel
theorem dX11_wronged_6 : decode cX11_wronged 6 = .ok (.iload_n 1, 1) := by decide +kernel
theorem dX11_wronged_7 : decode cX11_wronged 7 = .ok (.invokevirtual 153, 3) := by decide +kernel
theorem dX11_wronged_10 : decode cX11_wronged 10 = .ok (.ifCond .ne 6, 3) := by decide +kernel
theorem dX11_wronged_13 : decode cX11_wronged 13 = .ok (.ldc 162, 2) := by decide +kernel
theorem dX11_wronged_15 : decode cX11_wronged 15 = .ok (.ireturn, 1) := by decide +kernel
theorem dX11_wronged_16 : decode cX11_wronged 16 = .ok (.aload_n 0, 1) := by decide +kernel
theorem dX11_wronged_17 : decode cX11_wronged 17 = .ok (.invokevirtual 156, 3) := by decide +kernel
theorem dX11_wronged_20 : decode cX11_wronged 20 = .ok (.iconst 0, 1) := by decide +kernel
theorem dX11_wronged_21 : decode cX11_wronged 21 = .ok (.istore_n 2, 1) := by decide +kernel
theorem dX11_wronged_22 : decode cX11_wronged 22 = .ok (.iconst 0, 1) := by decide +kernel
theorem dX11_wronged_23 : decode cX11_wronged 23 = .ok (.istore_n 3, 1) := by decide +kernel
theorem dX11_wronged_24 : decode cX11_wronged 24 = .ok (.iload_n 3, 1) := by decide +kernel
theorem dX11_wronged_25 : decode cX11_wronged 25 = .ok (.aload_n 0, 1) := by decide +kernel
theorem dX11_wronged_26 : decode cX11_wronged 26 = .ok (.getfield 13, 3) := by decide +kernel
theorem dX11_wronged_29 : decode cX11_wronged 29 = .ok (.iconst 0, 1) := by decide +kernel
theorem dX11_wronged_30 : decode cX11_wronged 30 = .ok (.iaload, 1) := by decide +kernel
theorem dX11_wronged_31 : decode cX11_wronged 31 = .ok (.if_icmp .ge 39, 3) := by decide +kernel
theorem dX11_wronged_34 : decode cX11_wronged 34 = .ok (.aload_n 0, 1) := by decide +kernel
theorem dX11_wronged_35 : decode cX11_wronged 35 = .ok (.getfield 63, 3) := by decide +kernel
theorem dX11_wronged_38 : decode cX11_wronged 38 = .ok (.iload_n 3, 1) := by decide +kernel
theorem dX11_wronged_39 : decode cX11_wronged 39 = .ok (.iaload, 1) := by decide +kernel
theorem dX11_wronged_40 : decode cX11_wronged 40 = .ok (.aload_n 0, 1) := by decide +kernel
theorem dX11_wronged_41 : decode cX11_wronged 41 = .ok (.iload_n 3, 1) := by decide +kernel
theorem dX11_wronged_42 : decode cX11_wronged 42 = .ok (.invokevirtual 211, 3) := by decide +kernel
theorem dX11_wronged_45 : decode cX11_wronged 45 = .ok (.isub, 1) := by decide +kernel
theorem dX11_wronged_46 : decode cX11_wronged 46 = .ok (.istore 4, 2) := by decide +kernel
theorem dX11_wronged_48 : decode cX11_wronged 48 = .ok (.iload_n 2, 1) := by decide +kernel
theorem dX11_wronged_49 : decode cX11_wronged 49 = .ok (.iload 4, 2) := by decide +kernel
theorem dX11_wronged_51 : decode cX11_wronged 51 = .ok (.ifCond .ge 9, 3) := by decide +kernel
theorem dX11_wronged_54 : decode cX11_wronged 54 = .ok (.iload 4, 2) := by decide +kernel
theorem dX11_wronged_56 : decode cX11_wronged 56 = .ok (.ineg, 1) := by decide +kernel
theorem dX11_wronged_57 : decode cX11_wronged 57 = .ok (.goto 5, 3) := by decide +kernel
theorem dX11_wronged_60 : decode cX11_wronged 60 = .ok (.iload 4, 2) := by decide +kernel
theorem dX11_wronged_62 : decode cX11_wronged 62 = .ok (.iadd, 1) := by decide +kernel
theorem dX11_wronged_63 : decode cX11_wronged 63 = .ok (.istore_n 2, 1) := by decide +kernel
theorem dX11_wronged_64 : decode cX11_wronged 64 = .ok (.iinc 3 1, 3) := by decide +kernel
theorem dX11_wronged_67 : decode cX11_wronged 67 = .ok (.goto (-43), 3) := by decide +kernel
theorem dX11_wronged_70 : decode cX11_wronged 70 = .ok (.iload_n 1, 1) := by decide +kernel
theorem dX11_wronged_71 : decode cX11_wronged 71 = .ok (.iconst (-1), 1) := by decide +kernel
theorem dX11_wronged_72 : decode cX11_wronged 72 = .ok (.if_icmp .ne 7, 3) := by decide +kernel
theorem dX11_wronged_75 : decode cX11_wronged 75 = .ok (.iload_n 2, 1) := by decide +kernel
theorem dX11_wronged_76 : decode cX11_wronged 76 = .ok (.goto 15, 3) := by decide +kernel
theorem dX11_wronged_79 : decode cX11_wronged 79 = .ok (.aload_n 0, 1) := by decide +kernel
theorem dX11_wronged_80 : decode cX11_wronged 80 = .ok (.getfield 63, 3) := by decide +kernel
theorem dX11_wronged_83 : decode cX11_wronged 83 = .ok (.iload_n 1, 1) := by decide +kernel
theorem dX11_wronged_84 : decode cX11_wronged 84 = .ok (.iaload, 1) := by decide +kernel
theorem dX11_wronged_85 : decode cX11_wronged 85 = .ok (.aload_n 0, 1) := by decide +kernel
theorem dX11_wronged_86 : decode cX11_wronged 86 = .ok (.iload_n 1, 1) := by decide +kernel
theorem dX11_wronged_87 : decode cX11_wronged 87 = .ok (.invokevirtual 211, 3) := by decide +kernel
theorem dX11_wronged_90 : decode cX11_wronged 90 = .ok (.isub, 1) := by decide +kernel
theorem dX11_wronged_91 : decode cX11_wronged 91 = .ok (.ireturn, 1) := by decide +kernel
theorem dX11_book_0 : decode cX11_book 0 = .ok (.aload_n 0, 1) := by decide +kernel
theorem dX11_book_1 : decode cX11_book 1 = .ok (.iload_n 1, 1) := by decide +kernel
theorem dX11_book_2 : decode cX11_book 2 = .ok (.invokevirtual 153, 3) := by decide +kernel
theorem dX11_book_5 : decode cX11_book 5 = .ok (.ifCond .eq 13, 3) := by decide +kernel
theorem dX11_book_8 : decode cX11_book 8 = .ok (.iload_n 2, 1) := by decide +kernel
theorem dX11_book_9 : decode cX11_book 9 = .ok (.iconst 0, 1) := by decide +kernel
theorem dX11_book_10 : decode cX11_book 10 = .ok (.bipush 60, 2) := by decide +kernel
theorem dX11_book_12 : decode cX11_book 12 = .ok (.invokestatic 72, 3) := by decide +kernel
theorem dX11_book_15 : decode cX11_book 15 = .ok (.ifCond .ne 5, 3) := by decide +kernel
theorem dX11_book_18 : decode cX11_book 18 = .ok (.iconst (-1), 1) := by decide +kernel
theorem dX11_book_19 : decode cX11_book 19 = .ok (.ireturn, 1) := by decide +kernel
theorem dX11_book_20 : decode cX11_book 20 = .ok (.aload_n 0, 1) := by decide +kernel
theorem dX11_book_21 : decode cX11_book 21 = .ok (.getfield 134, 3) := by decide +kernel
theorem dX11_book_24 : decode cX11_book 24 = .ok (.bipush 6, 2) := by decide +kernel
theorem dX11_book_26 : decode cX11_book 26 = .ok (.if_icmp .ne 6, 3) := by decide +kernel
theorem dX11_book_29 : decode cX11_book 29 = .ok (.bipush (-3), 2) := by decide +kernel
theorem dX11_book_31 : decode cX11_book 31 = .ok (.ireturn, 1) := by decide +kernel
theorem dX11_book_32 : decode cX11_book 32 = .ok (.aload_n 0, 1) := by decide +kernel
theorem dX11_book_33 : decode cX11_book 33 = .ok (.getfield 66, 3) := by decide +kernel
theorem dX11_book_36 : decode cX11_book 36 = .ok (.aload_n 0, 1) := by decide +kernel
theorem dX11_book_37 : decode cX11_book 37 = .ok (.getfield 134, 3) := by decide +kernel
theorem dX11_book_40 : decode cX11_book 40 = .ok (.iload_n 1, 1) := by decide +kernel
theorem dX11_book_41 : decode cX11_book 41 = .ok (.iastore, 1) := by decide +kernel
theorem dX11_book_42 : decode cX11_book 42 = .ok (.aload_n 0, 1) := by decide +kernel
theorem dX11_book_43 : decode cX11_book 43 = .ok (.getfield 69, 3) := by decide +kernel
theorem dX11_book_46 : decode cX11_book 46 = .ok (.aload_n 0, 1) := by decide +kernel
theorem dX11_book_47 : decode cX11_book 47 = .ok (.getfield 134, 3) := by decide +kernel
theorem dX11_book_50 : decode cX11_book 50 = .ok (.iload_n 2, 1) := by decide +kernel
theorem dX11_book_51 : decode cX11_book 51 = .ok (.iastore, 1) := by decide +kernel
theorem dX11_book_52 : decode cX11_book 52 = .ok (.aload_n 0, 1) := by decide +kernel
theorem dX11_book_53 : decode cX11_book 53 = .ok (.dup, 1) := by decide +kernel
theorem dX11_book_54 : decode cX11_book 54 = .ok (.getfield 134, 3) := by decide +kernel
theorem dX11_book_57 : decode cX11_book 57 = .ok (.iconst 1, 1) := by decide +kernel
theorem dX11_book_58 : decode cX11_book 58 = .ok (.iadd, 1) := by decide +kernel
theorem dX11_book_59 : decode cX11_book 59 = .ok (.putfield 134, 3) := by decide +kernel
theorem dX11_book_62 : decode cX11_book 62 = .ok (.aload_n 0, 1) := by decide +kernel
theorem dX11_book_63 : decode cX11_book 63 = .ok (.getfield 134, 3) := by decide +kernel
theorem dX11_book_66 : decode cX11_book 66 = .ok (.ireturn, 1) := by decide +kernel
theorem dX11_burn_0 : decode cX11_burn 0 = .ok (.aload_n 0, 1) := by decide +kernel
theorem dX11_burn_1 : decode cX11_burn 1 = .ok (.getfield 134, 3) := by decide +kernel
theorem dX11_burn_4 : decode cX11_burn 4 = .ok (.istore_n 1, 1) := by decide +kernel
theorem dX11_burn_5 : decode cX11_burn 5 = .ok (.aload_n 0, 1) := by decide +kernel
theorem dX11_burn_6 : decode cX11_burn 6 = .ok (.iconst 0, 1) := by decide +kernel
theorem dX11_burn_7 : decode cX11_burn 7 = .ok (.putfield 134, 3) := by decide +kernel
theorem dX11_burn_10 : decode cX11_burn 10 = .ok (.iload_n 1, 1) := by decide +kernel
theorem dX11_burn_11 : decode cX11_burn 11 = .ok (.ireturn, 1) := by decide +kernel
theorem dX11_books_0 : decode cX11_books 0 = .ok (.iload_n 1, 1) := by decide +kernel
theorem dX11_books_1 : decode cX11_books 1 = .ok (.iconst 0, 1) := by decide +kernel
theorem dX11_books_2 : decode cX11_books 2 = .ok (.iconst 2, 1) := by decide +kernel
theorem dX11_books_3 : decode cX11_books 3 = .ok (.invokestatic 72, 3) := by decide +kernel
theorem dX11_books_6 : decode cX11_books 6 = .ok (.ifCond .ne 5, 3) := by decide +kernel
theorem dX11_books_9 : decode cX11_books 9 = .ok (.iconst (-1), 1) := by decide +kernel
theorem dX11_books_10 : decode cX11_books 10 = .ok (.ireturn, 1) := by decide +kernel
theorem dX11_books_11 : decode cX11_books 11 = .ok (.iconst 0, 1) := by decide +kernel
theorem dX11_books_12 : decode cX11_books 12 = .ok (.istore_n 2, 1) := by decide +kernel
theorem dX11_books_13 : decode cX11_books 13 = .ok (.bipush (-9), 2) := by decide +kernel
theorem dX11_books_15 : decode cX11_books 15 = .ok (.istore_n 3, 1) := by decide +kernel
theorem dX11_books_16 : decode cX11_books 16 = .ok (.sipush 255, 3) := by decide +kernel
theorem dX11_books_19 : decode cX11_books 19 = .ok (.istore 4, 2) := by decide +kernel
theorem dX11_books_21 : decode cX11_books 21 = .ok (.iconst 1, 1) := by decide +kernel
theorem dX11_books_22 : decode cX11_books 22 = .ok (.aload_n 0, 1) := by decide +kernel
theorem dX11_books_23 : decode cX11_books 23 = .ok (.getfield 20, 3) := by decide +kernel
theorem dX11_books_26 : decode cX11_books 26 = .ok (.iconst 0, 1) := by decide +kernel
theorem dX11_books_27 : decode cX11_books 27 = .ok (.iaload, 1) := by decide +kernel
theorem dX11_books_28 : decode cX11_books 28 = .ok (.ishl, 1) := by decide +kernel
theorem dX11_books_29 : decode cX11_books 29 = .ok (.iconst 1, 1) := by decide +kernel
theorem dX11_books_30 : decode cX11_books 30 = .ok (.isub, 1) := by decide +kernel
theorem dX11_books_31 : decode cX11_books 31 = .ok (.istore 5, 2) := by decide +kernel
theorem dX11_books_33 : decode cX11_books 33 = .ok (.iload 5, 2) := by decide +kernel
theorem dX11_books_35 : decode cX11_books 35 = .ok (.ifCond .lt 117, 3) := by decide +kernel
theorem dX11_books_38 : decode cX11_books 38 = .ok (.aload_n 0, 1) := by decide +kernel
theorem dX11_books_39 : decode cX11_books 39 = .ok (.iload 5, 2) := by decide +kernel
theorem dX11_books_41 : decode cX11_books 41 = .ok (.invokevirtual 147, 3) := by decide +kernel
theorem dX11_books_44 : decode cX11_books 44 = .ok (.aload_n 0, 1) := by decide +kernel
theorem dX11_books_45 : decode cX11_books 45 = .ok (.invokevirtual 150, 3) := by decide +kernel
theorem dX11_books_48 : decode cX11_books 48 = .ok (.iconst 1, 1) := by decide +kernel
theorem dX11_books_49 : decode cX11_books 49 = .ok (.istore 6, 2) := by decide +kernel
theorem dX11_books_51 : decode cX11_books 51 = .ok (.iconst 0, 1) := by decide +kernel
theorem dX11_books_52 : decode cX11_books 52 = .ok (.istore 7, 2) := by decide +kernel
theorem dX11_books_54 : decode cX11_books 54 = .ok (.iload 7, 2) := by decide +kernel
theorem dX11_books_56 : decode cX11_books 56 = .ok (.aload_n 0, 1) := by decide +kernel
theorem dX11_books_57 : decode cX11_books 57 = .ok (.getfield 134, 3) := by decide +kernel
theorem dX11_books_60 : decode cX11_books 60 = .ok (.if_icmp .ge 43, 3) := by decide +kernel
theorem dX11_books_63 : decode cX11_books 63 = .ok (.iload 6, 2) := by decide +kernel
theorem dX11_books_65 : decode cX11_books 65 = .ok (.ifCond .eq 29, 3) := by decide +kernel
theorem dX11_books_68 : decode cX11_books 68 = .ok (.aload_n 0, 1) := by decide +kernel
theorem dX11_books_69 : decode cX11_books 69 = .ok (.getfield 63, 3) := by decide +kernel
theorem dX11_books_72 : decode cX11_books 72 = .ok (.aload_n 0, 1) := by decide +kernel
theorem dX11_books_73 : decode cX11_books 73 = .ok (.getfield 66, 3) := by decide +kernel
theorem dX11_books_76 : decode cX11_books 76 = .ok (.iload 7, 2) := by decide +kernel
theorem dX11_books_78 : decode cX11_books 78 = .ok (.iaload, 1) := by decide +kernel
theorem dX11_books_79 : decode cX11_books 79 = .ok (.iaload, 1) := by decide +kernel
theorem dX11_books_80 : decode cX11_books 80 = .ok (.aload_n 0, 1) := by decide +kernel
theorem dX11_books_81 : decode cX11_books 81 = .ok (.getfield 69, 3) := by decide +kernel
theorem dX11_books_84 : decode cX11_books 84 = .ok (.iload 7, 2) := by decide +kernel
theorem dX11_books_86 : decode cX11_books 86 = .ok (.iaload, 1) := by decide +kernel
theorem dX11_books_87 : decode cX11_books 87 = .ok (.if_icmp .ne 7, 3) := by decide +kernel
theorem dX11_books_90 : decode cX11_books 90 = .ok (.iconst 1, 1) := by decide +kernel
theorem dX11_books_91 : decode cX11_books 91 = .ok (.goto 4, 3) := by decide +kernel
theorem dX11_books_94 : decode cX11_books 94 = .ok (.iconst 0, 1) := by decide +kernel
theorem dX11_books_95 : decode cX11_books 95 = .ok (.istore 6, 2) := by decide +kernel
theorem dX11_books_97 : decode cX11_books 97 = .ok (.iinc 7 1, 3) := by decide +kernel
theorem dX11_books_100 : decode cX11_books 100 = .ok (.goto (-46), 3) := by decide +kernel
theorem dX11_books_103 : decode cX11_books 103 = .ok (.iload_n 2, 1) := by decide +kernel
theorem dX11_books_104 : decode cX11_books 104 = .ok (.iload 6, 2) := by decide +kernel
theorem dX11_books_106 : decode cX11_books 106 = .ok (.ifCond .eq 7, 3) := by decide +kernel
theorem dX11_books_109 : decode cX11_books 109 = .ok (.iconst 1, 1) := by decide +kernel
theorem dX11_books_110 : decode cX11_books 110 = .ok (.goto 4, 3) := by decide +kernel
theorem dX11_books_113 : decode cX11_books 113 = .ok (.iconst 0, 1) := by decide +kernel
theorem dX11_books_114 : decode cX11_books 114 = .ok (.iadd, 1) := by decide +kernel
theorem dX11_books_115 : decode cX11_books 115 = .ok (.istore_n 2, 1) := by decide +kernel
theorem dX11_books_116 : decode cX11_books 116 = .ok (.iload 6, 2) := by decide +kernel
theorem dX11_books_118 : decode cX11_books 118 = .ok (.ifCond .eq 8, 3) := by decide +kernel
theorem dX11_books_121 : decode cX11_books 121 = .ok (.iload 5, 2) := by decide +kernel
theorem dX11_books_123 : decode cX11_books 123 = .ok (.goto 4, 3) := by decide +kernel
theorem dX11_books_126 : decode cX11_books 126 = .ok (.iload_n 3, 1) := by decide +kernel
theorem dX11_books_127 : decode cX11_books 127 = .ok (.istore_n 3, 1) := by decide +kernel
theorem dX11_books_128 : decode cX11_books 128 = .ok (.iload 4, 2) := by decide +kernel
theorem dX11_books_130 : decode cX11_books 130 = .ok (.iload 6, 2) := by decide +kernel
theorem dX11_books_132 : decode cX11_books 132 = .ok (.ifCond .eq 8, 3) := by decide +kernel
theorem dX11_books_135 : decode cX11_books 135 = .ok (.iload 5, 2) := by decide +kernel
theorem dX11_books_137 : decode cX11_books 137 = .ok (.goto 6, 3) := by decide +kernel
theorem dX11_books_140 : decode cX11_books 140 = .ok (.sipush 255, 3) := by decide +kernel
theorem dX11_books_143 : decode cX11_books 143 = .ok (.iand, 1) := by decide +kernel
theorem dX11_books_144 : decode cX11_books 144 = .ok (.istore 4, 2) := by decide +kernel
theorem dX11_books_146 : decode cX11_books 146 = .ok (.iinc 5 (-1), 3) := by decide +kernel
theorem dX11_books_149 : decode cX11_books 149 = .ok (.goto (-116), 3) := by decide +kernel
theorem dX11_books_152 : decode cX11_books 152 = .ok (.iload_n 1, 1) := by decide +kernel
theorem dX11_books_153 : decode cX11_books 153 = .ok (.ifCond .ne 7, 3) := by decide +kernel
theorem dX11_books_156 : decode cX11_books 156 = .ok (.iload_n 2, 1) := by decide +kernel
theorem dX11_books_157 : decode cX11_books 157 = .ok (.goto 23, 3) := by decide +kernel
theorem dX11_books_160 : decode cX11_books 160 = .ok (.iload_n 2, 1) := by decide +kernel
theorem dX11_books_161 : decode cX11_books 161 = .ok (.ifCond .ne 8, 3) := by decide +kernel
theorem dX11_books_164 : decode cX11_books 164 = .ok (.bipush (-9), 2) := by decide +kernel
theorem dX11_books_166 : decode cX11_books 166 = .ok (.goto 14, 3) := by decide +kernel
theorem dX11_books_169 : decode cX11_books 169 = .ok (.iload_n 1, 1) := by decide +kernel
theorem dX11_books_170 : decode cX11_books 170 = .ok (.iconst 1, 1) := by decide +kernel
theorem dX11_books_171 : decode cX11_books 171 = .ok (.if_icmp .ne 7, 3) := by decide +kernel
theorem dX11_books_174 : decode cX11_books 174 = .ok (.iload_n 3, 1) := by decide +kernel
theorem dX11_books_175 : decode cX11_books 175 = .ok (.goto 5, 3) := by decide +kernel
theorem dX11_books_178 : decode cX11_books 178 = .ok (.iload 4, 2) := by decide +kernel
theorem dX11_books_180 : decode cX11_books 180 = .ok (.ireturn, 1) := by decide +kernel
theorem dX11_innocent_0 : decode cX11_innocent 0 = .ok (.aload_n 0, 1) := by decide +kernel
theorem dX11_innocent_1 : decode cX11_innocent 1 = .ok (.iload_n 1, 1) := by decide +kernel
theorem dX11_innocent_2 : decode cX11_innocent 2 = .ok (.invokevirtual 153, 3) := by decide +kernel
theorem dX11_innocent_5 : decode cX11_innocent 5 = .ok (.ifCond .ne 5, 3) := by decide +kernel
theorem dX11_innocent_8 : decode cX11_innocent 8 = .ok (.iconst (-1), 1) := by decide +kernel
theorem dX11_innocent_9 : decode cX11_innocent 9 = .ok (.ireturn, 1) := by decide +kernel
theorem dX11_innocent_10 : decode cX11_innocent 10 = .ok (.iconst 0, 1) := by decide +kernel
theorem dX11_innocent_11 : decode cX11_innocent 11 = .ok (.istore_n 2, 1) := by decide +kernel
theorem dX11_innocent_12 : decode cX11_innocent 12 = .ok (.iconst 0, 1) := by decide +kernel
theorem dX11_innocent_13 : decode cX11_innocent 13 = .ok (.istore_n 3, 1) := by decide +kernel
theorem dX11_innocent_14 : decode cX11_innocent 14 = .ok (.iload_n 3, 1) := by decide +kernel
theorem dX11_innocent_15 : decode cX11_innocent 15 = .ok (.iconst 1, 1) := by decide +kernel
theorem dX11_innocent_16 : decode cX11_innocent 16 = .ok (.aload_n 0, 1) := by decide +kernel
theorem dX11_innocent_17 : decode cX11_innocent 17 = .ok (.getfield 20, 3) := by decide +kernel
theorem dX11_innocent_20 : decode cX11_innocent 20 = .ok (.iconst 0, 1) := by decide +kernel
theorem dX11_innocent_21 : decode cX11_innocent 21 = .ok (.iaload, 1) := by decide +kernel
theorem dX11_innocent_22 : decode cX11_innocent 22 = .ok (.ishl, 1) := by decide +kernel
theorem dX11_innocent_23 : decode cX11_innocent 23 = .ok (.if_icmp .ge 26, 3) := by decide +kernel
theorem dX11_innocent_26 : decode cX11_innocent 26 = .ok (.iload_n 2, 1) := by decide +kernel
theorem dX11_innocent_27 : decode cX11_innocent 27 = .ok (.aload_n 0, 1) := by decide +kernel
theorem dX11_innocent_28 : decode cX11_innocent 28 = .ok (.iload_n 1, 1) := by decide +kernel
theorem dX11_innocent_29 : decode cX11_innocent 29 = .ok (.iload_n 3, 1) := by decide +kernel
theorem dX11_innocent_30 : decode cX11_innocent 30 = .ok (.invokevirtual 144, 3) := by decide +kernel
theorem dX11_innocent_33 : decode cX11_innocent 33 = .ok (.ifCond .ne 7, 3) := by decide +kernel
theorem dX11_innocent_36 : decode cX11_innocent 36 = .ok (.iconst 1, 1) := by decide +kernel
theorem dX11_innocent_37 : decode cX11_innocent 37 = .ok (.goto 4, 3) := by decide +kernel
theorem dX11_innocent_40 : decode cX11_innocent 40 = .ok (.iconst 0, 1) := by decide +kernel
theorem dX11_innocent_41 : decode cX11_innocent 41 = .ok (.iadd, 1) := by decide +kernel
theorem dX11_innocent_42 : decode cX11_innocent 42 = .ok (.istore_n 2, 1) := by decide +kernel
theorem dX11_innocent_43 : decode cX11_innocent 43 = .ok (.iinc 3 1, 3) := by decide +kernel
theorem dX11_innocent_46 : decode cX11_innocent 46 = .ok (.goto (-32), 3) := by decide +kernel
theorem dX11_innocent_49 : decode cX11_innocent 49 = .ok (.iload_n 2, 1) := by decide +kernel
theorem dX11_innocent_50 : decode cX11_innocent 50 = .ok (.ireturn, 1) := by decide +kernel
theorem dX11_mark_0 : decode cX11_mark 0 = .ok (.iload_n 1, 1) := by decide +kernel
theorem dX11_mark_1 : decode cX11_mark 1 = .ok (.iconst 0, 1) := by decide +kernel
theorem dX11_mark_2 : decode cX11_mark 2 = .ok (.iconst 5, 1) := by decide +kernel
theorem dX11_mark_3 : decode cX11_mark 3 = .ok (.invokestatic 72, 3) := by decide +kernel
theorem dX11_mark_6 : decode cX11_mark 6 = .ok (.ifCond .eq 11, 3) := by decide +kernel
theorem dX11_mark_9 : decode cX11_mark 9 = .ok (.aload_n 0, 1) := by decide +kernel
theorem dX11_mark_10 : decode cX11_mark 10 = .ok (.iload_n 2, 1) := by decide +kernel
theorem dX11_mark_11 : decode cX11_mark 11 = .ok (.invokevirtual 153, 3) := by decide +kernel
theorem dX11_mark_14 : decode cX11_mark 14 = .ok (.ifCond .ne 6, 3) := by decide +kernel
theorem dX11_mark_17 : decode cX11_mark 17 = .ok (.ldc 162, 2) := by decide +kernel
theorem dX11_mark_19 : decode cX11_mark 19 = .ok (.ireturn, 1) := by decide +kernel
theorem dX11_mark_20 : decode cX11_mark 20 = .ok (.aload_n 0, 1) := by decide +kernel
theorem dX11_mark_21 : decode cX11_mark 21 = .ok (.iload_n 2, 1) := by decide +kernel
theorem dX11_mark_22 : decode cX11_mark 22 = .ok (.aload_n 0, 1) := by decide +kernel
theorem dX11_mark_23 : decode cX11_mark 23 = .ok (.getfield 53, 3) := by decide +kernel
theorem dX11_mark_26 : decode cX11_mark 26 = .ok (.iconst 0, 1) := by decide +kernel
theorem dX11_mark_27 : decode cX11_mark 27 = .ok (.iaload, 1) := by decide +kernel
theorem dX11_mark_28 : decode cX11_mark 28 = .ok (.invokevirtual 144, 3) := by decide +kernel
theorem dX11_mark_31 : decode cX11_mark 31 = .ok (.istore_n 3, 1) := by decide +kernel
theorem dX11_mark_32 : decode cX11_mark 32 = .ok (.iconst 0, 1) := by decide +kernel
theorem dX11_mark_33 : decode cX11_mark 33 = .ok (.istore 4, 2) := by decide +kernel
theorem dX11_mark_35 : decode cX11_mark 35 = .ok (.iconst 0, 1) := by decide +kernel
theorem dX11_mark_36 : decode cX11_mark 36 = .ok (.istore 5, 2) := by decide +kernel
theorem dX11_mark_38 : decode cX11_mark 38 = .ok (.iload 5, 2) := by decide +kernel
theorem dX11_mark_40 : decode cX11_mark 40 = .ok (.aload_n 0, 1) := by decide +kernel
theorem dX11_mark_41 : decode cX11_mark 41 = .ok (.getfield 32, 3) := by decide +kernel
theorem dX11_mark_44 : decode cX11_mark 44 = .ok (.iconst 0, 1) := by decide +kernel
theorem dX11_mark_45 : decode cX11_mark 45 = .ok (.iaload, 1) := by decide +kernel
theorem dX11_mark_46 : decode cX11_mark 46 = .ok (.if_icmp .ge 30, 3) := by decide +kernel
theorem dX11_mark_49 : decode cX11_mark 49 = .ok (.iload 4, 2) := by decide +kernel
theorem dX11_mark_51 : decode cX11_mark 51 = .ok (.aload_n 0, 1) := by decide +kernel
theorem dX11_mark_52 : decode cX11_mark 52 = .ok (.getfield 35, 3) := by decide +kernel
theorem dX11_mark_55 : decode cX11_mark 55 = .ok (.iload 5, 2) := by decide +kernel
theorem dX11_mark_57 : decode cX11_mark 57 = .ok (.iaload, 1) := by decide +kernel
theorem dX11_mark_58 : decode cX11_mark 58 = .ok (.iload_n 2, 1) := by decide +kernel
theorem dX11_mark_59 : decode cX11_mark 59 = .ok (.if_icmp .ne 7, 3) := by decide +kernel
theorem dX11_mark_62 : decode cX11_mark 62 = .ok (.iconst 1, 1) := by decide +kernel
theorem dX11_mark_63 : decode cX11_mark 63 = .ok (.goto 4, 3) := by decide +kernel
theorem dX11_mark_66 : decode cX11_mark 66 = .ok (.iconst 0, 1) := by decide +kernel
theorem dX11_mark_67 : decode cX11_mark 67 = .ok (.iadd, 1) := by decide +kernel
theorem dX11_mark_68 : decode cX11_mark 68 = .ok (.istore 4, 2) := by decide +kernel
theorem dX11_mark_70 : decode cX11_mark 70 = .ok (.iinc 5 1, 3) := by decide +kernel
theorem dX11_mark_73 : decode cX11_mark 73 = .ok (.goto (-35), 3) := by decide +kernel
theorem dX11_mark_76 : decode cX11_mark 76 = .ok (.iload_n 1, 1) := by decide +kernel
theorem dX11_mark_77 : decode cX11_mark 77 = .ok (.tableswitch 127 0 4 #[35, 47, 68, 85, 108], 35) := by decide +kernel
theorem dX11_mark_112 : decode cX11_mark 112 = .ok (.aload_n 0, 1) := by decide +kernel
theorem dX11_mark_113 : decode cX11_mark 113 = .ok (.dup, 1) := by decide +kernel
theorem dX11_mark_114 : decode cX11_mark 114 = .ok (.getfield 214, 3) := by decide +kernel
theorem dX11_mark_117 : decode cX11_mark 117 = .ok (.lconst 1, 1) := by decide +kernel
theorem dX11_mark_118 : decode cX11_mark 118 = .ok (.ladd, 1) := by decide +kernel
theorem dX11_mark_119 : decode cX11_mark 119 = .ok (.putfield 214, 3) := by decide +kernel
theorem dX11_mark_122 : decode cX11_mark 122 = .ok (.iload_n 3, 1) := by decide +kernel
theorem dX11_mark_123 : decode cX11_mark 123 = .ok (.ireturn, 1) := by decide +kernel
theorem dX11_mark_124 : decode cX11_mark 124 = .ok (.aload_n 0, 1) := by decide +kernel
theorem dX11_mark_125 : decode cX11_mark 125 = .ok (.dup, 1) := by decide +kernel
theorem dX11_mark_126 : decode cX11_mark 126 = .ok (.getfield 214, 3) := by decide +kernel
theorem dX11_mark_129 : decode cX11_mark 129 = .ok (.ldc2_w 218, 3) := by decide +kernel
theorem dX11_mark_132 : decode cX11_mark 132 = .ok (.ladd, 1) := by decide +kernel
theorem dX11_mark_133 : decode cX11_mark 133 = .ok (.putfield 214, 3) := by decide +kernel
theorem dX11_mark_136 : decode cX11_mark 136 = .ok (.iload_n 3, 1) := by decide +kernel
theorem dX11_mark_137 : decode cX11_mark 137 = .ok (.aload_n 0, 1) := by decide +kernel
theorem dX11_mark_138 : decode cX11_mark 138 = .ok (.getfield 17, 3) := by decide +kernel
theorem dX11_mark_141 : decode cX11_mark 141 = .ok (.iload_n 2, 1) := by decide +kernel
theorem dX11_mark_142 : decode cX11_mark 142 = .ok (.iaload, 1) := by decide +kernel
theorem dX11_mark_143 : decode cX11_mark 143 = .ok (.iadd, 1) := by decide +kernel
theorem dX11_mark_144 : decode cX11_mark 144 = .ok (.ireturn, 1) := by decide +kernel
theorem dX11_mark_145 : decode cX11_mark 145 = .ok (.aload_n 0, 1) := by decide +kernel
theorem dX11_mark_146 : decode cX11_mark 146 = .ok (.dup, 1) := by decide +kernel
theorem dX11_mark_147 : decode cX11_mark 147 = .ok (.getfield 214, 3) := by decide +kernel
theorem dX11_mark_150 : decode cX11_mark 150 = .ok (.ldc2_w 220, 3) := by decide +kernel
theorem dX11_mark_153 : decode cX11_mark 153 = .ok (.ladd, 1) := by decide +kernel
theorem dX11_mark_154 : decode cX11_mark 154 = .ok (.putfield 214, 3) := by decide +kernel
theorem dX11_mark_157 : decode cX11_mark 157 = .ok (.iload_n 3, 1) := by decide +kernel
theorem dX11_mark_158 : decode cX11_mark 158 = .ok (.iload 4, 2) := by decide +kernel
theorem dX11_mark_160 : decode cX11_mark 160 = .ok (.isub, 1) := by decide +kernel
theorem dX11_mark_161 : decode cX11_mark 161 = .ok (.ireturn, 1) := by decide +kernel
theorem dX11_mark_162 : decode cX11_mark 162 = .ok (.aload_n 0, 1) := by decide +kernel
theorem dX11_mark_163 : decode cX11_mark 163 = .ok (.dup, 1) := by decide +kernel
theorem dX11_mark_164 : decode cX11_mark 164 = .ok (.getfield 214, 3) := by decide +kernel
theorem dX11_mark_167 : decode cX11_mark 167 = .ok (.ldc2_w 222, 3) := by decide +kernel
theorem dX11_mark_170 : decode cX11_mark 170 = .ok (.ladd, 1) := by decide +kernel
theorem dX11_mark_171 : decode cX11_mark 171 = .ok (.putfield 214, 3) := by decide +kernel
theorem dX11_mark_174 : decode cX11_mark 174 = .ok (.iconst 2, 1) := by decide +kernel
theorem dX11_mark_175 : decode cX11_mark 175 = .ok (.iload_n 3, 1) := by decide +kernel
theorem dX11_mark_176 : decode cX11_mark 176 = .ok (.aload_n 0, 1) := by decide +kernel
theorem dX11_mark_177 : decode cX11_mark 177 = .ok (.getfield 17, 3) := by decide +kernel
theorem dX11_mark_180 : decode cX11_mark 180 = .ok (.iload_n 2, 1) := by decide +kernel
theorem dX11_mark_181 : decode cX11_mark 181 = .ok (.iaload, 1) := by decide +kernel
theorem dX11_mark_182 : decode cX11_mark 182 = .ok (.iadd, 1) := by decide +kernel
theorem dX11_mark_183 : decode cX11_mark 183 = .ok (.imul, 1) := by decide +kernel
theorem dX11_mark_184 : decode cX11_mark 184 = .ok (.ireturn, 1) := by decide +kernel
theorem dX11_mark_185 : decode cX11_mark 185 = .ok (.aload_n 0, 1) := by decide +kernel
theorem dX11_mark_186 : decode cX11_mark 186 = .ok (.dup, 1) := by decide +kernel
theorem dX11_mark_187 : decode cX11_mark 187 = .ok (.getfield 214, 3) := by decide +kernel
theorem dX11_mark_190 : decode cX11_mark 190 = .ok (.ldc2_w 224, 3) := by decide +kernel
theorem dX11_mark_193 : decode cX11_mark 193 = .ok (.ladd, 1) := by decide +kernel
theorem dX11_mark_194 : decode cX11_mark 194 = .ok (.putfield 214, 3) := by decide +kernel
theorem dX11_mark_197 : decode cX11_mark 197 = .ok (.iload_n 3, 1) := by decide +kernel
theorem dX11_mark_198 : decode cX11_mark 198 = .ok (.iload 4, 2) := by decide +kernel
theorem dX11_mark_200 : decode cX11_mark 200 = .ok (.isub, 1) := by decide +kernel
theorem dX11_mark_201 : decode cX11_mark 201 = .ok (.iload_n 2, 1) := by decide +kernel
theorem dX11_mark_202 : decode cX11_mark 202 = .ok (.iadd, 1) := by decide +kernel
theorem dX11_mark_203 : decode cX11_mark 203 = .ok (.ireturn, 1) := by decide +kernel
theorem dX11_mark_204 : decode cX11_mark 204 = .ok (.aload_n 0, 1) := by decide +kernel
theorem dX11_mark_205 : decode cX11_mark 205 = .ok (.dup, 1) := by decide +kernel
theorem dX11_mark_206 : decode cX11_mark 206 = .ok (.getfield 214, 3) := by decide +kernel
theorem dX11_mark_209 : decode cX11_mark 209 = .ok (.ldc2_w 226, 3) := by decide +kernel
theorem dX11_mark_212 : decode cX11_mark 212 = .ok (.ladd, 1) := by decide +kernel
theorem dX11_mark_213 : decode cX11_mark 213 = .ok (.putfield 214, 3) := by decide +kernel
theorem dX11_mark_216 : decode cX11_mark 216 = .ok (.iload_n 3, 1) := by decide +kernel
theorem dX11_mark_217 : decode cX11_mark 217 = .ok (.aload_n 0, 1) := by decide +kernel
theorem dX11_mark_218 : decode cX11_mark 218 = .ok (.getfield 53, 3) := by decide +kernel
theorem dX11_mark_221 : decode cX11_mark 221 = .ok (.iconst 0, 1) := by decide +kernel
theorem dX11_mark_222 : decode cX11_mark 222 = .ok (.iaload, 1) := by decide +kernel
theorem dX11_mark_223 : decode cX11_mark 223 = .ok (.invokestatic 193, 3) := by decide +kernel
theorem dX11_mark_226 : decode cX11_mark 226 = .ok (.iadd, 1) := by decide +kernel
theorem dX11_mark_227 : decode cX11_mark 227 = .ok (.ireturn, 1) := by decide +kernel
theorem dX11_copy_0 : decode cX11_copy 0 = .ok (.iconst 0, 1) := by decide +kernel
theorem dX11_copy_1 : decode cX11_copy 1 = .ok (.istore_n 3, 1) := by decide +kernel
theorem dX11_copy_2 : decode cX11_copy 2 = .ok (.iload_n 3, 1) := by decide +kernel
theorem dX11_copy_3 : decode cX11_copy 3 = .ok (.bipush 34, 2) := by decide +kernel
theorem dX11_copy_5 : decode cX11_copy 5 = .ok (.if_icmp .ge 25, 3) := by decide +kernel
theorem dX11_copy_8 : decode cX11_copy 8 = .ok (.aload_n 0, 1) := by decide +kernel
theorem dX11_copy_9 : decode cX11_copy 9 = .ok (.getfield 53, 3) := by decide +kernel
theorem dX11_copy_12 : decode cX11_copy 12 = .ok (.iload_n 2, 1) := by decide +kernel
theorem dX11_copy_13 : decode cX11_copy 13 = .ok (.iload_n 3, 1) := by decide +kernel
theorem dX11_copy_14 : decode cX11_copy 14 = .ok (.iadd, 1) := by decide +kernel
theorem dX11_copy_15 : decode cX11_copy 15 = .ok (.aload_n 0, 1) := by decide +kernel
theorem dX11_copy_16 : decode cX11_copy 16 = .ok (.getfield 53, 3) := by decide +kernel
theorem dX11_copy_19 : decode cX11_copy 19 = .ok (.iload_n 1, 1) := by decide +kernel
theorem dX11_copy_20 : decode cX11_copy 20 = .ok (.iload_n 3, 1) := by decide +kernel
theorem dX11_copy_21 : decode cX11_copy 21 = .ok (.iadd, 1) := by decide +kernel
theorem dX11_copy_22 : decode cX11_copy 22 = .ok (.iaload, 1) := by decide +kernel
theorem dX11_copy_23 : decode cX11_copy 23 = .ok (.iastore, 1) := by decide +kernel
theorem dX11_copy_24 : decode cX11_copy 24 = .ok (.iinc 3 1, 3) := by decide +kernel
theorem dX11_copy_27 : decode cX11_copy 27 = .ok (.goto (-25), 3) := by decide +kernel
theorem dX11_copy_30 : decode cX11_copy 30 = .ok (.return_, 1) := by decide +kernel
theorem dX11_keep_0 : decode cX11_keep 0 = .ok (.iload_n 1, 1) := by decide +kernel
theorem dX11_keep_1 : decode cX11_keep 1 = .ok (.iconst 0, 1) := by decide +kernel
theorem dX11_keep_2 : decode cX11_keep 2 = .ok (.iconst 1, 1) := by decide +kernel
theorem dX11_keep_3 : decode cX11_keep 3 = .ok (.invokestatic 72, 3) := by decide +kernel
theorem dX11_keep_6 : decode cX11_keep 6 = .ok (.ifCond .ne 5, 3) := by decide +kernel
theorem dX11_keep_9 : decode cX11_keep 9 = .ok (.iconst (-1), 1) := by decide +kernel
theorem dX11_keep_10 : decode cX11_keep 10 = .ok (.ireturn, 1) := by decide +kernel
theorem dX11_keep_11 : decode cX11_keep 11 = .ok (.aload_n 0, 1) := by decide +kernel
theorem dX11_keep_12 : decode cX11_keep 12 = .ok (.iconst 0, 1) := by decide +kernel
theorem dX11_keep_13 : decode cX11_keep 13 = .ok (.bipush 34, 2) := by decide +kernel
theorem dX11_keep_15 : decode cX11_keep 15 = .ok (.iconst 1, 1) := by decide +kernel
theorem dX11_keep_16 : decode cX11_keep 16 = .ok (.iload_n 1, 1) := by decide +kernel
theorem dX11_keep_17 : decode cX11_keep 17 = .ok (.iadd, 1) := by decide +kernel
theorem dX11_keep_18 : decode cX11_keep 18 = .ok (.imul, 1) := by decide +kernel
theorem dX11_keep_19 : decode cX11_keep 19 = .ok (.invokevirtual 228, 3) := by decide +kernel
theorem dX11_keep_22 : decode cX11_keep 22 = .ok (.aload_n 0, 1) := by decide +kernel
theorem dX11_keep_23 : decode cX11_keep 23 = .ok (.getfield 56, 3) := by decide +kernel
theorem dX11_keep_26 : decode cX11_keep 26 = .ok (.iload_n 1, 1) := by decide +kernel
theorem dX11_keep_27 : decode cX11_keep 27 = .ok (.iconst 1, 1) := by decide +kernel
theorem dX11_keep_28 : decode cX11_keep 28 = .ok (.bastore, 1) := by decide +kernel
theorem dX11_keep_29 : decode cX11_keep 29 = .ok (.aload_n 0, 1) := by decide +kernel
theorem dX11_keep_30 : decode cX11_keep 30 = .ok (.invokevirtual 169, 3) := by decide +kernel
theorem dX11_keep_33 : decode cX11_keep 33 = .ok (.ireturn, 1) := by decide +kernel
theorem dX11_back_0 : decode cX11_back 0 = .ok (.iload_n 1, 1) := by decide +kernel
theorem dX11_back_1 : decode cX11_back 1 = .ok (.iconst 0, 1) := by decide +kernel
theorem dX11_back_2 : decode cX11_back 2 = .ok (.iconst 1, 1) := by decide +kernel
theorem dX11_back_3 : decode cX11_back 3 = .ok (.invokestatic 72, 3) := by decide +kernel
theorem dX11_back_6 : decode cX11_back 6 = .ok (.ifCond .ne 5, 3) := by decide +kernel
theorem dX11_back_9 : decode cX11_back 9 = .ok (.iconst (-1), 1) := by decide +kernel
theorem dX11_back_10 : decode cX11_back 10 = .ok (.ireturn, 1) := by decide +kernel
theorem dX11_back_11 : decode cX11_back 11 = .ok (.aload_n 0, 1) := by decide +kernel
theorem dX11_back_12 : decode cX11_back 12 = .ok (.getfield 56, 3) := by decide +kernel
theorem dX11_back_15 : decode cX11_back 15 = .ok (.iload_n 1, 1) := by decide +kernel
theorem dX11_back_16 : decode cX11_back 16 = .ok (.baload, 1) := by decide +kernel
theorem dX11_back_17 : decode cX11_back 17 = .ok (.ifCond .ne 6, 3) := by decide +kernel
theorem dX11_back_20 : decode cX11_back 20 = .ok (.bipush (-2), 2) := by decide +kernel
theorem dX11_back_22 : decode cX11_back 22 = .ok (.ireturn, 1) := by decide +kernel
theorem dX11_back_23 : decode cX11_back 23 = .ok (.aload_n 0, 1) := by decide +kernel
theorem dX11_back_24 : decode cX11_back 24 = .ok (.bipush 34, 2) := by decide +kernel
theorem dX11_back_26 : decode cX11_back 26 = .ok (.iconst 1, 1) := by decide +kernel
theorem dX11_back_27 : decode cX11_back 27 = .ok (.iload_n 1, 1) := by decide +kernel
theorem dX11_back_28 : decode cX11_back 28 = .ok (.iadd, 1) := by decide +kernel
theorem dX11_back_29 : decode cX11_back 29 = .ok (.imul, 1) := by decide +kernel
theorem dX11_back_30 : decode cX11_back 30 = .ok (.iconst 0, 1) := by decide +kernel
theorem dX11_back_31 : decode cX11_back 31 = .ok (.invokevirtual 228, 3) := by decide +kernel
theorem dX11_back_34 : decode cX11_back 34 = .ok (.aload_n 0, 1) := by decide +kernel
theorem dX11_back_35 : decode cX11_back 35 = .ok (.invokevirtual 169, 3) := by decide +kernel
theorem dX11_back_38 : decode cX11_back 38 = .ok (.ireturn, 1) := by decide +kernel
theorem dX11_count_0 : decode cX11_count 0 = .ok (.iload_n 1, 1) := by decide +kernel
theorem dX11_count_1 : decode cX11_count 1 = .ok (.tableswitch 77 0 5 #[39, 46, 53, 60, 65, 72], 39) := by decide +kernel
theorem dX11_count_40 : decode cX11_count 40 = .ok (.aload_n 0, 1) := by decide +kernel
theorem dX11_count_41 : decode cX11_count 41 = .ok (.getfield 13, 3) := by decide +kernel
theorem dX11_count_44 : decode cX11_count 44 = .ok (.iconst 0, 1) := by decide +kernel
theorem dX11_count_45 : decode cX11_count 45 = .ok (.iaload, 1) := by decide +kernel
theorem dX11_count_46 : decode cX11_count 46 = .ok (.ireturn, 1) := by decide +kernel
theorem dX11_count_47 : decode cX11_count 47 = .ok (.aload_n 0, 1) := by decide +kernel
theorem dX11_count_48 : decode cX11_count 48 = .ok (.getfield 20, 3) := by decide +kernel
theorem dX11_count_51 : decode cX11_count 51 = .ok (.iconst 0, 1) := by decide +kernel
theorem dX11_count_52 : decode cX11_count 52 = .ok (.iaload, 1) := by decide +kernel
theorem dX11_count_53 : decode cX11_count 53 = .ok (.ireturn, 1) := by decide +kernel
theorem dX11_count_54 : decode cX11_count 54 = .ok (.aload_n 0, 1) := by decide +kernel
theorem dX11_count_55 : decode cX11_count 55 = .ok (.getfield 32, 3) := by decide +kernel
theorem dX11_count_58 : decode cX11_count 58 = .ok (.iconst 0, 1) := by decide +kernel
theorem dX11_count_59 : decode cX11_count 59 = .ok (.iaload, 1) := by decide +kernel
theorem dX11_count_60 : decode cX11_count 60 = .ok (.ireturn, 1) := by decide +kernel
theorem dX11_count_61 : decode cX11_count 61 = .ok (.aload_n 0, 1) := by decide +kernel
theorem dX11_count_62 : decode cX11_count 62 = .ok (.getfield 134, 3) := by decide +kernel
theorem dX11_count_65 : decode cX11_count 65 = .ok (.ireturn, 1) := by decide +kernel
theorem dX11_count_66 : decode cX11_count 66 = .ok (.aload_n 0, 1) := by decide +kernel
theorem dX11_count_67 : decode cX11_count 67 = .ok (.getfield 53, 3) := by decide +kernel
theorem dX11_count_70 : decode cX11_count 70 = .ok (.iconst 3, 1) := by decide +kernel
theorem dX11_count_71 : decode cX11_count 71 = .ok (.iaload, 1) := by decide +kernel
theorem dX11_count_72 : decode cX11_count 72 = .ok (.ireturn, 1) := by decide +kernel
theorem dX11_count_73 : decode cX11_count 73 = .ok (.aload_n 0, 1) := by decide +kernel
theorem dX11_count_74 : decode cX11_count 74 = .ok (.getfield 76, 3) := by decide +kernel
theorem dX11_count_77 : decode cX11_count 77 = .ok (.ireturn, 1) := by decide +kernel
theorem dX11_count_78 : decode cX11_count 78 = .ok (.iconst (-1), 1) := by decide +kernel
theorem dX11_count_79 : decode cX11_count 79 = .ok (.ireturn, 1) := by decide +kernel
theorem dX11_trace_0 : decode cX11_trace 0 = .ok (.aload_n 0, 1) := by decide +kernel
theorem dX11_trace_1 : decode cX11_trace 1 = .ok (.getfield 214, 3) := by decide +kernel
theorem dX11_trace_4 : decode cX11_trace 4 = .ok (.lreturn, 1) := by decide +kernel
