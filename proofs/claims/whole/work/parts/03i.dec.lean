theorem dX0_init_0 : decode cX0_init 0 = .ok (.aload_n 0, 1) := by decide +kernel
theorem dX0_init_1 : decode cX0_init 1 = .ok (.invokespecial 3, 3) := by decide +kernel
theorem dX0_init_4 : decode cX0_init 4 = .ok (.aload_n 0, 1) := by decide +kernel
theorem dX0_init_5 : decode cX0_init 5 = .ok (.iconst 4, 1) := by decide +kernel
theorem dX0_init_6 : decode cX0_init 6 = .ok (.anewarray 9, 3) := by decide +kernel
theorem dX0_init_9 : decode cX0_init 9 = .ok (.putfield 11, 3) := by decide +kernel
theorem dX0_init_12 : decode cX0_init 12 = .ok (.iconst 0, 1) := by decide +kernel
theorem dX0_init_13 : decode cX0_init 13 = .ok (.istore_n 1, 1) := by decide +kernel
theorem dX0_init_14 : decode cX0_init 14 = .ok (.iload_n 1, 1) := by decide +kernel
theorem dX0_init_15 : decode cX0_init 15 = .ok (.iconst 4, 1) := by decide +kernel
theorem dX0_init_16 : decode cX0_init 16 = .ok (.if_icmp .ge 22, 3) := by decide +kernel
theorem dX0_init_19 : decode cX0_init 19 = .ok (.aload_n 0, 1) := by decide +kernel
theorem dX0_init_20 : decode cX0_init 20 = .ok (.getfield 11, 3) := by decide +kernel
theorem dX0_init_23 : decode cX0_init 23 = .ok (.iload_n 1, 1) := by decide +kernel
theorem dX0_init_24 : decode cX0_init 24 = .ok (.new 9, 3) := by decide +kernel
theorem dX0_init_27 : decode cX0_init 27 = .ok (.dup, 1) := by decide +kernel
theorem dX0_init_28 : decode cX0_init 28 = .ok (.invokespecial 17, 3) := by decide +kernel
theorem dX0_init_31 : decode cX0_init 31 = .ok (.aastore, 1) := by decide +kernel
theorem dX0_init_32 : decode cX0_init 32 = .ok (.iinc 1 1, 3) := by decide +kernel
theorem dX0_init_35 : decode cX0_init 35 = .ok (.goto (-21), 3) := by decide +kernel
theorem dX0_init_38 : decode cX0_init 38 = .ok (.return_, 1) := by decide +kernel
theorem dX0_save_0 : decode cX0_save 0 = .ok (.aload_n 0, 1) := by decide +kernel
theorem dX0_save_1 : decode cX0_save 1 = .ok (.getfield 18, 3) := by decide +kernel
theorem dX0_save_4 : decode cX0_save 4 = .ok (.iconst 4, 1) := by decide +kernel
theorem dX0_save_5 : decode cX0_save 5 = .ok (.if_icmp .ne 7, 3) := by decide +kernel
theorem dX0_save_8 : decode cX0_save 8 = .ok (.aload_n 0, 1) := by decide +kernel
theorem dX0_save_9 : decode cX0_save 9 = .ok (.invokevirtual 22, 3) := by decide +kernel
theorem dX0_save_12 : decode cX0_save 12 = .ok (.aload_n 0, 1) := by decide +kernel
theorem dX0_save_13 : decode cX0_save 13 = .ok (.getfield 11, 3) := by decide +kernel
theorem dX0_save_16 : decode cX0_save 16 = .ok (.aload_n 0, 1) := by decide +kernel
theorem dX0_save_17 : decode cX0_save 17 = .ok (.getfield 18, 3) := by decide +kernel
theorem dX0_save_20 : decode cX0_save 20 = .ok (.aaload, 1) := by decide +kernel
theorem dX0_save_21 : decode cX0_save 21 = .ok (.aload_n 1, 1) := by decide +kernel
theorem dX0_save_22 : decode cX0_save 22 = .ok (.invokevirtual 25, 3) := by decide +kernel
theorem dX0_save_25 : decode cX0_save 25 = .ok (.aload_n 0, 1) := by decide +kernel
theorem dX0_save_26 : decode cX0_save 26 = .ok (.dup, 1) := by decide +kernel
theorem dX0_save_27 : decode cX0_save 27 = .ok (.getfield 18, 3) := by decide +kernel
theorem dX0_save_30 : decode cX0_save 30 = .ok (.iconst 1, 1) := by decide +kernel
theorem dX0_save_31 : decode cX0_save 31 = .ok (.iadd, 1) := by decide +kernel
theorem dX0_save_32 : decode cX0_save 32 = .ok (.putfield 18, 3) := by decide +kernel
theorem dX0_save_35 : decode cX0_save 35 = .ok (.return_, 1) := by decide +kernel
theorem dX0_restore_0 : decode cX0_restore 0 = .ok (.aload_n 0, 1) := by decide +kernel
theorem dX0_restore_1 : decode cX0_restore 1 = .ok (.dup, 1) := by decide +kernel
theorem dX0_restore_2 : decode cX0_restore 2 = .ok (.getfield 18, 3) := by decide +kernel
theorem dX0_restore_5 : decode cX0_restore 5 = .ok (.iconst 1, 1) := by decide +kernel
theorem dX0_restore_6 : decode cX0_restore 6 = .ok (.isub, 1) := by decide +kernel
theorem dX0_restore_7 : decode cX0_restore 7 = .ok (.putfield 18, 3) := by decide +kernel
theorem dX0_restore_10 : decode cX0_restore 10 = .ok (.aload_n 1, 1) := by decide +kernel
theorem dX0_restore_11 : decode cX0_restore 11 = .ok (.aload_n 0, 1) := by decide +kernel
theorem dX0_restore_12 : decode cX0_restore 12 = .ok (.getfield 11, 3) := by decide +kernel
theorem dX0_restore_15 : decode cX0_restore 15 = .ok (.aload_n 0, 1) := by decide +kernel
theorem dX0_restore_16 : decode cX0_restore 16 = .ok (.getfield 18, 3) := by decide +kernel
theorem dX0_restore_19 : decode cX0_restore 19 = .ok (.aaload, 1) := by decide +kernel
theorem dX0_restore_20 : decode cX0_restore 20 = .ok (.invokevirtual 25, 3) := by decide +kernel
theorem dX0_restore_23 : decode cX0_restore 23 = .ok (.return_, 1) := by decide +kernel
theorem dX0_dropOldest_0 : decode cX0_dropOldest 0 = .ok (.aload_n 0, 1) := by decide +kernel
theorem dX0_dropOldest_1 : decode cX0_dropOldest 1 = .ok (.getfield 11, 3) := by decide +kernel
theorem dX0_dropOldest_4 : decode cX0_dropOldest 4 = .ok (.iconst 0, 1) := by decide +kernel
theorem dX0_dropOldest_5 : decode cX0_dropOldest 5 = .ok (.aaload, 1) := by decide +kernel
theorem dX0_dropOldest_6 : decode cX0_dropOldest 6 = .ok (.astore_n 1, 1) := by decide +kernel
theorem dX0_dropOldest_7 : decode cX0_dropOldest 7 = .ok (.iconst 0, 1) := by decide +kernel
theorem dX0_dropOldest_8 : decode cX0_dropOldest 8 = .ok (.istore_n 2, 1) := by decide +kernel
theorem dX0_dropOldest_9 : decode cX0_dropOldest 9 = .ok (.iload_n 2, 1) := by decide +kernel
theorem dX0_dropOldest_10 : decode cX0_dropOldest 10 = .ok (.iconst 1, 1) := by decide +kernel
theorem dX0_dropOldest_11 : decode cX0_dropOldest 11 = .ok (.iadd, 1) := by decide +kernel
theorem dX0_dropOldest_12 : decode cX0_dropOldest 12 = .ok (.iconst 4, 1) := by decide +kernel
theorem dX0_dropOldest_13 : decode cX0_dropOldest 13 = .ok (.if_icmp .ge 23, 3) := by decide +kernel
theorem dX0_dropOldest_16 : decode cX0_dropOldest 16 = .ok (.aload_n 0, 1) := by decide +kernel
theorem dX0_dropOldest_17 : decode cX0_dropOldest 17 = .ok (.getfield 11, 3) := by decide +kernel
theorem dX0_dropOldest_20 : decode cX0_dropOldest 20 = .ok (.iload_n 2, 1) := by decide +kernel
theorem dX0_dropOldest_21 : decode cX0_dropOldest 21 = .ok (.aload_n 0, 1) := by decide +kernel
theorem dX0_dropOldest_22 : decode cX0_dropOldest 22 = .ok (.getfield 11, 3) := by decide +kernel
theorem dX0_dropOldest_25 : decode cX0_dropOldest 25 = .ok (.iload_n 2, 1) := by decide +kernel
theorem dX0_dropOldest_26 : decode cX0_dropOldest 26 = .ok (.iconst 1, 1) := by decide +kernel
theorem dX0_dropOldest_27 : decode cX0_dropOldest 27 = .ok (.iadd, 1) := by decide +kernel
theorem dX0_dropOldest_28 : decode cX0_dropOldest 28 = .ok (.aaload, 1) := by decide +kernel
theorem dX0_dropOldest_29 : decode cX0_dropOldest 29 = .ok (.aastore, 1) := by decide +kernel
theorem dX0_dropOldest_30 : decode cX0_dropOldest 30 = .ok (.iinc 2 1, 3) := by decide +kernel
theorem dX0_dropOldest_33 : decode cX0_dropOldest 33 = .ok (.goto (-24), 3) := by decide +kernel
theorem dX0_dropOldest_36 : decode cX0_dropOldest 36 = .ok (.aload_n 0, 1) := by decide +kernel
theorem dX0_dropOldest_37 : decode cX0_dropOldest 37 = .ok (.getfield 11, 3) := by decide +kernel
theorem dX0_dropOldest_40 : decode cX0_dropOldest 40 = .ok (.iconst 3, 1) := by decide +kernel
theorem dX0_dropOldest_41 : decode cX0_dropOldest 41 = .ok (.aload_n 1, 1) := by decide +kernel
theorem dX0_dropOldest_42 : decode cX0_dropOldest 42 = .ok (.aastore, 1) := by decide +kernel
theorem dX0_dropOldest_43 : decode cX0_dropOldest 43 = .ok (.aload_n 0, 1) := by decide +kernel
theorem dX0_dropOldest_44 : decode cX0_dropOldest 44 = .ok (.dup, 1) := by decide +kernel
theorem dX0_dropOldest_45 : decode cX0_dropOldest 45 = .ok (.getfield 18, 3) := by decide +kernel
theorem dX0_dropOldest_48 : decode cX0_dropOldest 48 = .ok (.iconst 1, 1) := by decide +kernel
theorem dX0_dropOldest_49 : decode cX0_dropOldest 49 = .ok (.isub, 1) := by decide +kernel
theorem dX0_dropOldest_50 : decode cX0_dropOldest 50 = .ok (.putfield 18, 3) := by decide +kernel
theorem dX0_dropOldest_53 : decode cX0_dropOldest 53 = .ok (.return_, 1) := by decide +kernel
theorem dX1_init_0 : decode cX1_init 0 = .ok (.aload_n 0, 1) := by decide +kernel
theorem dX1_init_1 : decode cX1_init 1 = .ok (.invokespecial 3, 3) := by decide +kernel
theorem dX1_init_4 : decode cX1_init 4 = .ok (.aload_n 0, 1) := by decide +kernel
theorem dX1_init_5 : decode cX1_init 5 = .ok (.bipush 9, 2) := by decide +kernel
theorem dX1_init_7 : decode cX1_init 7 = .ok (.newarray .int, 2) := by decide +kernel
theorem dX1_init_9 : decode cX1_init 9 = .ok (.putfield 9, 3) := by decide +kernel
theorem dX1_init_12 : decode cX1_init 12 = .ok (.return_, 1) := by decide +kernel
theorem dX1_depthFirst_0 : decode cX1_depthFirst 0 = .ok (.iconst 0, 1) := by decide +kernel
theorem dX1_depthFirst_1 : decode cX1_depthFirst 1 = .ok (.istore_n 3, 1) := by decide +kernel
theorem dX1_depthFirst_2 : decode cX1_depthFirst 2 = .ok (.iload_n 3, 1) := by decide +kernel
theorem dX1_depthFirst_3 : decode cX1_depthFirst 3 = .ok (.aload_n 1, 1) := by decide +kernel
theorem dX1_depthFirst_4 : decode cX1_depthFirst 4 = .ok (.getfield 15, 3) := by decide +kernel
theorem dX1_depthFirst_7 : decode cX1_depthFirst 7 = .ok (.if_icmp .ge 16, 3) := by decide +kernel
theorem dX1_depthFirst_10 : decode cX1_depthFirst 10 = .ok (.aload_n 1, 1) := by decide +kernel
theorem dX1_depthFirst_11 : decode cX1_depthFirst 11 = .ok (.getfield 21, 3) := by decide +kernel
theorem dX1_depthFirst_14 : decode cX1_depthFirst 14 = .ok (.iload_n 3, 1) := by decide +kernel
theorem dX1_depthFirst_15 : decode cX1_depthFirst 15 = .ok (.iconst (-1), 1) := by decide +kernel
theorem dX1_depthFirst_16 : decode cX1_depthFirst 16 = .ok (.iastore, 1) := by decide +kernel
theorem dX1_depthFirst_17 : decode cX1_depthFirst 17 = .ok (.iinc 3 1, 3) := by decide +kernel
theorem dX1_depthFirst_20 : decode cX1_depthFirst 20 = .ok (.goto (-18), 3) := by decide +kernel
theorem dX1_depthFirst_23 : decode cX1_depthFirst 23 = .ok (.aload_n 1, 1) := by decide +kernel
theorem dX1_depthFirst_24 : decode cX1_depthFirst 24 = .ok (.getfield 21, 3) := by decide +kernel
theorem dX1_depthFirst_27 : decode cX1_depthFirst 27 = .ok (.iload_n 2, 1) := by decide +kernel
theorem dX1_depthFirst_28 : decode cX1_depthFirst 28 = .ok (.iconst 0, 1) := by decide +kernel
theorem dX1_depthFirst_29 : decode cX1_depthFirst 29 = .ok (.iastore, 1) := by decide +kernel
theorem dX1_depthFirst_30 : decode cX1_depthFirst 30 = .ok (.aload_n 0, 1) := by decide +kernel
theorem dX1_depthFirst_31 : decode cX1_depthFirst 31 = .ok (.getfield 9, 3) := by decide +kernel
theorem dX1_depthFirst_34 : decode cX1_depthFirst 34 = .ok (.iload_n 2, 1) := by decide +kernel
theorem dX1_depthFirst_35 : decode cX1_depthFirst 35 = .ok (.iconst (-1), 1) := by decide +kernel
theorem dX1_depthFirst_36 : decode cX1_depthFirst 36 = .ok (.iastore, 1) := by decide +kernel
theorem dX1_depthFirst_37 : decode cX1_depthFirst 37 = .ok (.iconst 1, 1) := by decide +kernel
theorem dX1_depthFirst_38 : decode cX1_depthFirst 38 = .ok (.istore_n 3, 1) := by decide +kernel
theorem dX1_depthFirst_39 : decode cX1_depthFirst 39 = .ok (.iload_n 2, 1) := by decide +kernel
theorem dX1_depthFirst_40 : decode cX1_depthFirst 40 = .ok (.istore 4, 2) := by decide +kernel
theorem dX1_depthFirst_42 : decode cX1_depthFirst 42 = .ok (.iconst 0, 1) := by decide +kernel
theorem dX1_depthFirst_43 : decode cX1_depthFirst 43 = .ok (.istore 5, 2) := by decide +kernel
theorem dX1_depthFirst_45 : decode cX1_depthFirst 45 = .ok (.iload 5, 2) := by decide +kernel
theorem dX1_depthFirst_47 : decode cX1_depthFirst 47 = .ok (.bipush 18, 2) := by decide +kernel
theorem dX1_depthFirst_49 : decode cX1_depthFirst 49 = .ok (.if_icmp .ge 65, 3) := by decide +kernel
theorem dX1_depthFirst_52 : decode cX1_depthFirst 52 = .ok (.iload 4, 2) := by decide +kernel
theorem dX1_depthFirst_54 : decode cX1_depthFirst 54 = .ok (.iconst (-1), 1) := by decide +kernel
theorem dX1_depthFirst_55 : decode cX1_depthFirst 55 = .ok (.if_icmp .eq 59, 3) := by decide +kernel
theorem dX1_depthFirst_58 : decode cX1_depthFirst 58 = .ok (.aload_n 1, 1) := by decide +kernel
theorem dX1_depthFirst_59 : decode cX1_depthFirst 59 = .ok (.iload 4, 2) := by decide +kernel
theorem dX1_depthFirst_61 : decode cX1_depthFirst 61 = .ok (.invokestatic 24, 3) := by decide +kernel
theorem dX1_depthFirst_64 : decode cX1_depthFirst 64 = .ok (.istore 6, 2) := by decide +kernel
theorem dX1_depthFirst_66 : decode cX1_depthFirst 66 = .ok (.iload 6, 2) := by decide +kernel
theorem dX1_depthFirst_68 : decode cX1_depthFirst 68 = .ok (.iconst (-1), 1) := by decide +kernel
theorem dX1_depthFirst_69 : decode cX1_depthFirst 69 = .ok (.if_icmp .ne 15, 3) := by decide +kernel
theorem dX1_depthFirst_72 : decode cX1_depthFirst 72 = .ok (.aload_n 0, 1) := by decide +kernel
theorem dX1_depthFirst_73 : decode cX1_depthFirst 73 = .ok (.getfield 9, 3) := by decide +kernel
theorem dX1_depthFirst_76 : decode cX1_depthFirst 76 = .ok (.iload 4, 2) := by decide +kernel
theorem dX1_depthFirst_78 : decode cX1_depthFirst 78 = .ok (.iaload, 1) := by decide +kernel
theorem dX1_depthFirst_79 : decode cX1_depthFirst 79 = .ok (.istore 4, 2) := by decide +kernel
theorem dX1_depthFirst_81 : decode cX1_depthFirst 81 = .ok (.goto 27, 3) := by decide +kernel
theorem dX1_depthFirst_84 : decode cX1_depthFirst 84 = .ok (.aload_n 0, 1) := by decide +kernel
theorem dX1_depthFirst_85 : decode cX1_depthFirst 85 = .ok (.getfield 9, 3) := by decide +kernel
theorem dX1_depthFirst_88 : decode cX1_depthFirst 88 = .ok (.iload 6, 2) := by decide +kernel
theorem dX1_depthFirst_90 : decode cX1_depthFirst 90 = .ok (.iload 4, 2) := by decide +kernel
theorem dX1_depthFirst_92 : decode cX1_depthFirst 92 = .ok (.iastore, 1) := by decide +kernel
theorem dX1_depthFirst_93 : decode cX1_depthFirst 93 = .ok (.aload_n 1, 1) := by decide +kernel
theorem dX1_depthFirst_94 : decode cX1_depthFirst 94 = .ok (.getfield 21, 3) := by decide +kernel
theorem dX1_depthFirst_97 : decode cX1_depthFirst 97 = .ok (.iload 6, 2) := by decide +kernel
theorem dX1_depthFirst_99 : decode cX1_depthFirst 99 = .ok (.iload_n 3, 1) := by decide +kernel
theorem dX1_depthFirst_100 : decode cX1_depthFirst 100 = .ok (.iastore, 1) := by decide +kernel
theorem dX1_depthFirst_101 : decode cX1_depthFirst 101 = .ok (.iinc 3 1, 3) := by decide +kernel
theorem dX1_depthFirst_104 : decode cX1_depthFirst 104 = .ok (.iload 6, 2) := by decide +kernel
theorem dX1_depthFirst_106 : decode cX1_depthFirst 106 = .ok (.istore 4, 2) := by decide +kernel
theorem dX1_depthFirst_108 : decode cX1_depthFirst 108 = .ok (.iinc 5 1, 3) := by decide +kernel
theorem dX1_depthFirst_111 : decode cX1_depthFirst 111 = .ok (.goto (-66), 3) := by decide +kernel
theorem dX1_depthFirst_114 : decode cX1_depthFirst 114 = .ok (.aload_n 1, 1) := by decide +kernel
theorem dX1_depthFirst_115 : decode cX1_depthFirst 115 = .ok (.iload_n 3, 1) := by decide +kernel
theorem dX1_depthFirst_116 : decode cX1_depthFirst 116 = .ok (.invokestatic 28, 3) := by decide +kernel
theorem dX1_depthFirst_119 : decode cX1_depthFirst 119 = .ok (.return_, 1) := by decide +kernel
theorem dX1_byRank_0 : decode cX1_byRank 0 = .ok (.iconst 0, 1) := by decide +kernel
theorem dX1_byRank_1 : decode cX1_byRank 1 = .ok (.istore 4, 2) := by decide +kernel
theorem dX1_byRank_3 : decode cX1_byRank 3 = .ok (.iload 4, 2) := by decide +kernel
theorem dX1_byRank_5 : decode cX1_byRank 5 = .ok (.aload_n 1, 1) := by decide +kernel
theorem dX1_byRank_6 : decode cX1_byRank 6 = .ok (.getfield 15, 3) := by decide +kernel
theorem dX1_byRank_9 : decode cX1_byRank 9 = .ok (.if_icmp .ge 76, 3) := by decide +kernel
theorem dX1_byRank_12 : decode cX1_byRank 12 = .ok (.iconst 0, 1) := by decide +kernel
theorem dX1_byRank_13 : decode cX1_byRank 13 = .ok (.istore 5, 2) := by decide +kernel
theorem dX1_byRank_15 : decode cX1_byRank 15 = .ok (.iconst 0, 1) := by decide +kernel
theorem dX1_byRank_16 : decode cX1_byRank 16 = .ok (.istore 6, 2) := by decide +kernel
theorem dX1_byRank_18 : decode cX1_byRank 18 = .ok (.iload 6, 2) := by decide +kernel
theorem dX1_byRank_20 : decode cX1_byRank 20 = .ok (.aload_n 1, 1) := by decide +kernel
theorem dX1_byRank_21 : decode cX1_byRank 21 = .ok (.getfield 15, 3) := by decide +kernel
theorem dX1_byRank_24 : decode cX1_byRank 24 = .ok (.if_icmp .ge 46, 3) := by decide +kernel
theorem dX1_byRank_27 : decode cX1_byRank 27 = .ok (.aload_n 2, 1) := by decide +kernel
theorem dX1_byRank_28 : decode cX1_byRank 28 = .ok (.iload_n 3, 1) := by decide +kernel
theorem dX1_byRank_29 : decode cX1_byRank 29 = .ok (.iload 6, 2) := by decide +kernel
theorem dX1_byRank_31 : decode cX1_byRank 31 = .ok (.invokevirtual 32, 3) := by decide +kernel
theorem dX1_byRank_34 : decode cX1_byRank 34 = .ok (.aload_n 2, 1) := by decide +kernel
theorem dX1_byRank_35 : decode cX1_byRank 35 = .ok (.iload_n 3, 1) := by decide +kernel
theorem dX1_byRank_36 : decode cX1_byRank 36 = .ok (.iload 4, 2) := by decide +kernel
theorem dX1_byRank_38 : decode cX1_byRank 38 = .ok (.invokevirtual 32, 3) := by decide +kernel
theorem dX1_byRank_41 : decode cX1_byRank 41 = .ok (.isub, 1) := by decide +kernel
theorem dX1_byRank_42 : decode cX1_byRank 42 = .ok (.istore 7, 2) := by decide +kernel
theorem dX1_byRank_44 : decode cX1_byRank 44 = .ok (.iload 7, 2) := by decide +kernel
theorem dX1_byRank_46 : decode cX1_byRank 46 = .ok (.ifCond .lt 15, 3) := by decide +kernel
theorem dX1_byRank_49 : decode cX1_byRank 49 = .ok (.iload 7, 2) := by decide +kernel
theorem dX1_byRank_51 : decode cX1_byRank 51 = .ok (.ifCond .ne 13, 3) := by decide +kernel
theorem dX1_byRank_54 : decode cX1_byRank 54 = .ok (.iload 6, 2) := by decide +kernel
theorem dX1_byRank_56 : decode cX1_byRank 56 = .ok (.iload 4, 2) := by decide +kernel
theorem dX1_byRank_58 : decode cX1_byRank 58 = .ok (.if_icmp .ge 6, 3) := by decide +kernel
theorem dX1_byRank_61 : decode cX1_byRank 61 = .ok (.iinc 5 1, 3) := by decide +kernel
theorem dX1_byRank_64 : decode cX1_byRank 64 = .ok (.iinc 6 1, 3) := by decide +kernel
theorem dX1_byRank_67 : decode cX1_byRank 67 = .ok (.goto (-49), 3) := by decide +kernel
theorem dX1_byRank_70 : decode cX1_byRank 70 = .ok (.aload_n 1, 1) := by decide +kernel
theorem dX1_byRank_71 : decode cX1_byRank 71 = .ok (.getfield 21, 3) := by decide +kernel
theorem dX1_byRank_74 : decode cX1_byRank 74 = .ok (.iload 4, 2) := by decide +kernel
theorem dX1_byRank_76 : decode cX1_byRank 76 = .ok (.iload 5, 2) := by decide +kernel
theorem dX1_byRank_78 : decode cX1_byRank 78 = .ok (.iastore, 1) := by decide +kernel
theorem dX1_byRank_79 : decode cX1_byRank 79 = .ok (.iinc 4 1, 3) := by decide +kernel
theorem dX1_byRank_82 : decode cX1_byRank 82 = .ok (.goto (-79), 3) := by decide +kernel
theorem dX1_byRank_85 : decode cX1_byRank 85 = .ok (.return_, 1) := by decide +kernel
theorem dX1_atRandom_0 : decode cX1_atRandom 0 = .ok (.aload_n 1, 1) := by decide +kernel
theorem dX1_atRandom_1 : decode cX1_atRandom 1 = .ok (.invokevirtual 38, 3) := by decide +kernel
theorem dX1_atRandom_4 : decode cX1_atRandom 4 = .ok (.iload_n 2, 1) := by decide +kernel
theorem dX1_atRandom_5 : decode cX1_atRandom 5 = .ok (.i2l, 1) := by decide +kernel
theorem dX1_atRandom_6 : decode cX1_atRandom 6 = .ok (.lstore_n 3, 1) := by decide +kernel
theorem dX1_atRandom_7 : decode cX1_atRandom 7 = .ok (.aload_n 1, 1) := by decide +kernel
theorem dX1_atRandom_8 : decode cX1_atRandom 8 = .ok (.getfield 15, 3) := by decide +kernel
theorem dX1_atRandom_11 : decode cX1_atRandom 11 = .ok (.iconst 1, 1) := by decide +kernel
theorem dX1_atRandom_12 : decode cX1_atRandom 12 = .ok (.isub, 1) := by decide +kernel
theorem dX1_atRandom_13 : decode cX1_atRandom 13 = .ok (.istore 5, 2) := by decide +kernel
theorem dX1_atRandom_15 : decode cX1_atRandom 15 = .ok (.iload 5, 2) := by decide +kernel
theorem dX1_atRandom_17 : decode cX1_atRandom 17 = .ok (.iconst 1, 1) := by decide +kernel
theorem dX1_atRandom_18 : decode cX1_atRandom 18 = .ok (.if_icmp .lt 45, 3) := by decide +kernel
theorem dX1_atRandom_21 : decode cX1_atRandom 21 = .ok (.ldc2_w 41, 3) := by decide +kernel
theorem dX1_atRandom_24 : decode cX1_atRandom 24 = .ok (.lload_n 3, 1) := by decide +kernel
theorem dX1_atRandom_25 : decode cX1_atRandom 25 = .ok (.lmul, 1) := by decide +kernel
theorem dX1_atRandom_26 : decode cX1_atRandom 26 = .ok (.ldc2_w 43, 3) := by decide +kernel
theorem dX1_atRandom_29 : decode cX1_atRandom 29 = .ok (.ladd, 1) := by decide +kernel
theorem dX1_atRandom_30 : decode cX1_atRandom 30 = .ok (.ldc2_w 45, 3) := by decide +kernel
theorem dX1_atRandom_33 : decode cX1_atRandom 33 = .ok (.lrem, 1) := by decide +kernel
theorem dX1_atRandom_34 : decode cX1_atRandom 34 = .ok (.lstore_n 3, 1) := by decide +kernel
theorem dX1_atRandom_35 : decode cX1_atRandom 35 = .ok (.lload_n 3, 1) := by decide +kernel
theorem dX1_atRandom_36 : decode cX1_atRandom 36 = .ok (.ldc2_w 47, 3) := by decide +kernel
theorem dX1_atRandom_39 : decode cX1_atRandom 39 = .ok (.ldiv, 1) := by decide +kernel
theorem dX1_atRandom_40 : decode cX1_atRandom 40 = .ok (.iload 5, 2) := by decide +kernel
theorem dX1_atRandom_42 : decode cX1_atRandom 42 = .ok (.iconst 1, 1) := by decide +kernel
theorem dX1_atRandom_43 : decode cX1_atRandom 43 = .ok (.iadd, 1) := by decide +kernel
theorem dX1_atRandom_44 : decode cX1_atRandom 44 = .ok (.i2l, 1) := by decide +kernel
theorem dX1_atRandom_45 : decode cX1_atRandom 45 = .ok (.lrem, 1) := by decide +kernel
theorem dX1_atRandom_46 : decode cX1_atRandom 46 = .ok (.l2i, 1) := by decide +kernel
theorem dX1_atRandom_47 : decode cX1_atRandom 47 = .ok (.istore 6, 2) := by decide +kernel
theorem dX1_atRandom_49 : decode cX1_atRandom 49 = .ok (.aload_n 1, 1) := by decide +kernel
theorem dX1_atRandom_50 : decode cX1_atRandom 50 = .ok (.iload 5, 2) := by decide +kernel
theorem dX1_atRandom_52 : decode cX1_atRandom 52 = .ok (.iload 6, 2) := by decide +kernel
theorem dX1_atRandom_54 : decode cX1_atRandom 54 = .ok (.invokevirtual 49, 3) := by decide +kernel
theorem dX1_atRandom_57 : decode cX1_atRandom 57 = .ok (.iinc 5 (-1), 3) := by decide +kernel
theorem dX1_atRandom_60 : decode cX1_atRandom 60 = .ok (.goto (-45), 3) := by decide +kernel
theorem dX1_atRandom_63 : decode cX1_atRandom 63 = .ok (.return_, 1) := by decide +kernel
theorem dX1_firstUnlabeled_0 : decode cX1_firstUnlabeled 0 = .ok (.iconst 0, 1) := by decide +kernel
theorem dX1_firstUnlabeled_1 : decode cX1_firstUnlabeled 1 = .ok (.istore_n 2, 1) := by decide +kernel
theorem dX1_firstUnlabeled_2 : decode cX1_firstUnlabeled 2 = .ok (.iload_n 2, 1) := by decide +kernel
theorem dX1_firstUnlabeled_3 : decode cX1_firstUnlabeled 3 = .ok (.aload_n 0, 1) := by decide +kernel
theorem dX1_firstUnlabeled_4 : decode cX1_firstUnlabeled 4 = .ok (.getfield 53, 3) := by decide +kernel
theorem dX1_firstUnlabeled_7 : decode cX1_firstUnlabeled 7 = .ok (.if_icmp .ge 40, 3) := by decide +kernel
theorem dX1_firstUnlabeled_10 : decode cX1_firstUnlabeled 10 = .ok (.aload_n 0, 1) := by decide +kernel
theorem dX1_firstUnlabeled_11 : decode cX1_firstUnlabeled 11 = .ok (.iload_n 2, 1) := by decide +kernel
theorem dX1_firstUnlabeled_12 : decode cX1_firstUnlabeled 12 = .ok (.iload_n 1, 1) := by decide +kernel
theorem dX1_firstUnlabeled_13 : decode cX1_firstUnlabeled 13 = .ok (.invokevirtual 56, 3) := by decide +kernel
theorem dX1_firstUnlabeled_16 : decode cX1_firstUnlabeled 16 = .ok (.ifCond .eq 25, 3) := by decide +kernel
theorem dX1_firstUnlabeled_19 : decode cX1_firstUnlabeled 19 = .ok (.aload_n 0, 1) := by decide +kernel
theorem dX1_firstUnlabeled_20 : decode cX1_firstUnlabeled 20 = .ok (.getfield 21, 3) := by decide +kernel
theorem dX1_firstUnlabeled_23 : decode cX1_firstUnlabeled 23 = .ok (.aload_n 0, 1) := by decide +kernel
theorem dX1_firstUnlabeled_24 : decode cX1_firstUnlabeled 24 = .ok (.iload_n 2, 1) := by decide +kernel
theorem dX1_firstUnlabeled_25 : decode cX1_firstUnlabeled 25 = .ok (.iload_n 1, 1) := by decide +kernel
theorem dX1_firstUnlabeled_26 : decode cX1_firstUnlabeled 26 = .ok (.invokevirtual 60, 3) := by decide +kernel
theorem dX1_firstUnlabeled_29 : decode cX1_firstUnlabeled 29 = .ok (.iaload, 1) := by decide +kernel
theorem dX1_firstUnlabeled_30 : decode cX1_firstUnlabeled 30 = .ok (.iconst (-1), 1) := by decide +kernel
theorem dX1_firstUnlabeled_31 : decode cX1_firstUnlabeled 31 = .ok (.if_icmp .ne 10, 3) := by decide +kernel
theorem dX1_firstUnlabeled_34 : decode cX1_firstUnlabeled 34 = .ok (.aload_n 0, 1) := by decide +kernel
theorem dX1_firstUnlabeled_35 : decode cX1_firstUnlabeled 35 = .ok (.iload_n 2, 1) := by decide +kernel
theorem dX1_firstUnlabeled_36 : decode cX1_firstUnlabeled 36 = .ok (.iload_n 1, 1) := by decide +kernel
theorem dX1_firstUnlabeled_37 : decode cX1_firstUnlabeled 37 = .ok (.invokevirtual 60, 3) := by decide +kernel
theorem dX1_firstUnlabeled_40 : decode cX1_firstUnlabeled 40 = .ok (.ireturn, 1) := by decide +kernel
theorem dX1_firstUnlabeled_41 : decode cX1_firstUnlabeled 41 = .ok (.iinc 2 1, 3) := by decide +kernel
theorem dX1_firstUnlabeled_44 : decode cX1_firstUnlabeled 44 = .ok (.goto (-42), 3) := by decide +kernel
theorem dX1_firstUnlabeled_47 : decode cX1_firstUnlabeled 47 = .ok (.iconst (-1), 1) := by decide +kernel
theorem dX1_firstUnlabeled_48 : decode cX1_firstUnlabeled 48 = .ok (.ireturn, 1) := by decide +kernel
theorem dX1_labelTheRest_0 : decode cX1_labelTheRest 0 = .ok (.iload_n 1, 1) := by decide +kernel
theorem dX1_labelTheRest_1 : decode cX1_labelTheRest 1 = .ok (.istore_n 2, 1) := by decide +kernel
theorem dX1_labelTheRest_2 : decode cX1_labelTheRest 2 = .ok (.iconst 0, 1) := by decide +kernel
theorem dX1_labelTheRest_3 : decode cX1_labelTheRest 3 = .ok (.istore_n 3, 1) := by decide +kernel
theorem dX1_labelTheRest_4 : decode cX1_labelTheRest 4 = .ok (.iload_n 3, 1) := by decide +kernel
theorem dX1_labelTheRest_5 : decode cX1_labelTheRest 5 = .ok (.aload_n 0, 1) := by decide +kernel
theorem dX1_labelTheRest_6 : decode cX1_labelTheRest 6 = .ok (.getfield 15, 3) := by decide +kernel
theorem dX1_labelTheRest_9 : decode cX1_labelTheRest 9 = .ok (.if_icmp .ge 29, 3) := by decide +kernel
theorem dX1_labelTheRest_12 : decode cX1_labelTheRest 12 = .ok (.aload_n 0, 1) := by decide +kernel
theorem dX1_labelTheRest_13 : decode cX1_labelTheRest 13 = .ok (.getfield 21, 3) := by decide +kernel
theorem dX1_labelTheRest_16 : decode cX1_labelTheRest 16 = .ok (.iload_n 3, 1) := by decide +kernel
theorem dX1_labelTheRest_17 : decode cX1_labelTheRest 17 = .ok (.iaload, 1) := by decide +kernel
theorem dX1_labelTheRest_18 : decode cX1_labelTheRest 18 = .ok (.iconst (-1), 1) := by decide +kernel
theorem dX1_labelTheRest_19 : decode cX1_labelTheRest 19 = .ok (.if_icmp .ne 13, 3) := by decide +kernel
theorem dX1_labelTheRest_22 : decode cX1_labelTheRest 22 = .ok (.aload_n 0, 1) := by decide +kernel
theorem dX1_labelTheRest_23 : decode cX1_labelTheRest 23 = .ok (.getfield 21, 3) := by decide +kernel
theorem dX1_labelTheRest_26 : decode cX1_labelTheRest 26 = .ok (.iload_n 3, 1) := by decide +kernel
theorem dX1_labelTheRest_27 : decode cX1_labelTheRest 27 = .ok (.iload_n 2, 1) := by decide +kernel
theorem dX1_labelTheRest_28 : decode cX1_labelTheRest 28 = .ok (.iastore, 1) := by decide +kernel
theorem dX1_labelTheRest_29 : decode cX1_labelTheRest 29 = .ok (.iinc 2 1, 3) := by decide +kernel
theorem dX1_labelTheRest_32 : decode cX1_labelTheRest 32 = .ok (.iinc 3 1, 3) := by decide +kernel
theorem dX1_labelTheRest_35 : decode cX1_labelTheRest 35 = .ok (.goto (-31), 3) := by decide +kernel
theorem dX1_labelTheRest_38 : decode cX1_labelTheRest 38 = .ok (.return_, 1) := by decide +kernel
theorem dX2_init_0 : decode cX2_init 0 = .ok (.aload_n 0, 1) := by decide +kernel
theorem dX2_init_1 : decode cX2_init 1 = .ok (.invokespecial 3, 3) := by decide +kernel
theorem dX2_init_4 : decode cX2_init 4 = .ok (.aload_n 0, 1) := by decide +kernel
theorem dX2_init_5 : decode cX2_init 5 = .ok (.bipush 10, 2) := by decide +kernel
theorem dX2_init_7 : decode cX2_init 7 = .ok (.newarray .int, 2) := by decide +kernel
theorem dX2_init_9 : decode cX2_init 9 = .ok (.putfield 9, 3) := by decide +kernel
theorem dX2_init_12 : decode cX2_init 12 = .ok (.aload_n 0, 1) := by decide +kernel
theorem dX2_init_13 : decode cX2_init 13 = .ok (.bipush 9, 2) := by decide +kernel
theorem dX2_init_15 : decode cX2_init 15 = .ok (.newarray .int, 2) := by decide +kernel
theorem dX2_init_17 : decode cX2_init 17 = .ok (.putfield 15, 3) := by decide +kernel
theorem dX2_init_20 : decode cX2_init 20 = .ok (.return_, 1) := by decide +kernel
theorem dX2_travel_0 : decode cX2_travel 0 = .ok (.iload_n 2, 1) := by decide +kernel
theorem dX2_travel_1 : decode cX2_travel 1 = .ok (.istore 5, 2) := by decide +kernel
theorem dX2_travel_3 : decode cX2_travel 3 = .ok (.aload_n 0, 1) := by decide +kernel
theorem dX2_travel_4 : decode cX2_travel 4 = .ok (.getfield 9, 3) := by decide +kernel
theorem dX2_travel_7 : decode cX2_travel 7 = .ok (.iconst 0, 1) := by decide +kernel
theorem dX2_travel_8 : decode cX2_travel 8 = .ok (.iload_n 2, 1) := by decide +kernel
theorem dX2_travel_9 : decode cX2_travel 9 = .ok (.iastore, 1) := by decide +kernel
theorem dX2_travel_10 : decode cX2_travel 10 = .ok (.aload_n 0, 1) := by decide +kernel
theorem dX2_travel_11 : decode cX2_travel 11 = .ok (.iconst 1, 1) := by decide +kernel
theorem dX2_travel_12 : decode cX2_travel 12 = .ok (.putfield 18, 3) := by decide +kernel
theorem dX2_travel_15 : decode cX2_travel 15 = .ok (.aload_n 0, 1) := by decide +kernel
theorem dX2_travel_16 : decode cX2_travel 16 = .ok (.iconst 0, 1) := by decide +kernel
theorem dX2_travel_17 : decode cX2_travel 17 = .ok (.putfield 22, 3) := by decide +kernel
theorem dX2_travel_20 : decode cX2_travel 20 = .ok (.iconst 0, 1) := by decide +kernel
theorem dX2_travel_21 : decode cX2_travel 21 = .ok (.istore 6, 2) := by decide +kernel
theorem dX2_travel_23 : decode cX2_travel 23 = .ok (.iload 6, 2) := by decide +kernel
theorem dX2_travel_25 : decode cX2_travel 25 = .ok (.aload_n 1, 1) := by decide +kernel
theorem dX2_travel_26 : decode cX2_travel 26 = .ok (.getfield 25, 3) := by decide +kernel
theorem dX2_travel_29 : decode cX2_travel 29 = .ok (.if_icmp .ge 117, 3) := by decide +kernel
theorem dX2_travel_32 : decode cX2_travel 32 = .ok (.iload 5, 2) := by decide +kernel
theorem dX2_travel_34 : decode cX2_travel 34 = .ok (.iload_n 3, 1) := by decide +kernel
theorem dX2_travel_35 : decode cX2_travel 35 = .ok (.if_icmp .eq 111, 3) := by decide +kernel
theorem dX2_travel_38 : decode cX2_travel 38 = .ok (.aload_n 1, 1) := by decide +kernel
theorem dX2_travel_39 : decode cX2_travel 39 = .ok (.iload 5, 2) := by decide +kernel
theorem dX2_travel_41 : decode cX2_travel 41 = .ok (.aload_n 1, 1) := by decide +kernel
theorem dX2_travel_42 : decode cX2_travel 42 = .ok (.getfield 30, 3) := by decide +kernel
theorem dX2_travel_45 : decode cX2_travel 45 = .ok (.iload_n 3, 1) := by decide +kernel
theorem dX2_travel_46 : decode cX2_travel 46 = .ok (.iaload, 1) := by decide +kernel
theorem dX2_travel_47 : decode cX2_travel 47 = .ok (.invokevirtual 33, 3) := by decide +kernel
theorem dX2_travel_50 : decode cX2_travel 50 = .ok (.istore 7, 2) := by decide +kernel
theorem dX2_travel_52 : decode cX2_travel 52 = .ok (.iload 7, 2) := by decide +kernel
theorem dX2_travel_54 : decode cX2_travel 54 = .ok (.iconst (-1), 1) := by decide +kernel
theorem dX2_travel_55 : decode cX2_travel 55 = .ok (.if_icmp .eq 20, 3) := by decide +kernel
theorem dX2_travel_58 : decode cX2_travel 58 = .ok (.iload 7, 2) := by decide +kernel
theorem dX2_travel_60 : decode cX2_travel 60 = .ok (.iload 4, 2) := by decide +kernel
theorem dX2_travel_62 : decode cX2_travel 62 = .ok (.if_icmp .ne 13, 3) := by decide +kernel
theorem dX2_travel_65 : decode cX2_travel 65 = .ok (.aload_n 1, 1) := by decide +kernel
theorem dX2_travel_66 : decode cX2_travel 66 = .ok (.iload 4, 2) := by decide +kernel
theorem dX2_travel_68 : decode cX2_travel 68 = .ok (.iload 5, 2) := by decide +kernel
theorem dX2_travel_70 : decode cX2_travel 70 = .ok (.invokevirtual 37, 3) := by decide +kernel
theorem dX2_travel_73 : decode cX2_travel 73 = .ok (.istore 7, 2) := by decide +kernel
theorem dX2_travel_75 : decode cX2_travel 75 = .ok (.iload 7, 2) := by decide +kernel
theorem dX2_travel_77 : decode cX2_travel 77 = .ok (.iconst (-1), 1) := by decide +kernel
theorem dX2_travel_78 : decode cX2_travel 78 = .ok (.if_icmp .ne 6, 3) := by decide +kernel
theorem dX2_travel_81 : decode cX2_travel 81 = .ok (.goto 65, 3) := by decide +kernel
theorem dX2_travel_84 : decode cX2_travel 84 = .ok (.aload_n 1, 1) := by decide +kernel
theorem dX2_travel_85 : decode cX2_travel 85 = .ok (.iload 7, 2) := by decide +kernel
theorem dX2_travel_87 : decode cX2_travel 87 = .ok (.iload 5, 2) := by decide +kernel
theorem dX2_travel_89 : decode cX2_travel 89 = .ok (.invokevirtual 40, 3) := by decide +kernel
theorem dX2_travel_92 : decode cX2_travel 92 = .ok (.istore 5, 2) := by decide +kernel
theorem dX2_travel_94 : decode cX2_travel 94 = .ok (.aload_n 0, 1) := by decide +kernel
theorem dX2_travel_95 : decode cX2_travel 95 = .ok (.getfield 15, 3) := by decide +kernel
theorem dX2_travel_98 : decode cX2_travel 98 = .ok (.iload 6, 2) := by decide +kernel
theorem dX2_travel_100 : decode cX2_travel 100 = .ok (.iload 7, 2) := by decide +kernel
theorem dX2_travel_102 : decode cX2_travel 102 = .ok (.iastore, 1) := by decide +kernel
theorem dX2_travel_103 : decode cX2_travel 103 = .ok (.aload_n 0, 1) := by decide +kernel
theorem dX2_travel_104 : decode cX2_travel 104 = .ok (.getfield 9, 3) := by decide +kernel
theorem dX2_travel_107 : decode cX2_travel 107 = .ok (.iload 6, 2) := by decide +kernel
theorem dX2_travel_109 : decode cX2_travel 109 = .ok (.iconst 1, 1) := by decide +kernel
theorem dX2_travel_110 : decode cX2_travel 110 = .ok (.iadd, 1) := by decide +kernel
theorem dX2_travel_111 : decode cX2_travel 111 = .ok (.iload 5, 2) := by decide +kernel
theorem dX2_travel_113 : decode cX2_travel 113 = .ok (.iastore, 1) := by decide +kernel
theorem dX2_travel_114 : decode cX2_travel 114 = .ok (.aload_n 0, 1) := by decide +kernel
theorem dX2_travel_115 : decode cX2_travel 115 = .ok (.dup, 1) := by decide +kernel
theorem dX2_travel_116 : decode cX2_travel 116 = .ok (.getfield 18, 3) := by decide +kernel
theorem dX2_travel_119 : decode cX2_travel 119 = .ok (.iconst 1, 1) := by decide +kernel
theorem dX2_travel_120 : decode cX2_travel 120 = .ok (.iadd, 1) := by decide +kernel
theorem dX2_travel_121 : decode cX2_travel 121 = .ok (.putfield 18, 3) := by decide +kernel
theorem dX2_travel_124 : decode cX2_travel 124 = .ok (.aload_n 0, 1) := by decide +kernel
theorem dX2_travel_125 : decode cX2_travel 125 = .ok (.dup, 1) := by decide +kernel
theorem dX2_travel_126 : decode cX2_travel 126 = .ok (.getfield 22, 3) := by decide +kernel
theorem dX2_travel_129 : decode cX2_travel 129 = .ok (.aload_n 1, 1) := by decide +kernel
theorem dX2_travel_130 : decode cX2_travel 130 = .ok (.getfield 43, 3) := by decide +kernel
theorem dX2_travel_133 : decode cX2_travel 133 = .ok (.iload 7, 2) := by decide +kernel
theorem dX2_travel_135 : decode cX2_travel 135 = .ok (.iaload, 1) := by decide +kernel
theorem dX2_travel_136 : decode cX2_travel 136 = .ok (.iadd, 1) := by decide +kernel
theorem dX2_travel_137 : decode cX2_travel 137 = .ok (.putfield 22, 3) := by decide +kernel
theorem dX2_travel_140 : decode cX2_travel 140 = .ok (.iinc 6 1, 3) := by decide +kernel
theorem dX2_travel_143 : decode cX2_travel 143 = .ok (.goto (-120), 3) := by decide +kernel
theorem dX2_travel_146 : decode cX2_travel 146 = .ok (.aload_n 0, 1) := by decide +kernel
theorem dX2_travel_147 : decode cX2_travel 147 = .ok (.iload 5, 2) := by decide +kernel
theorem dX2_travel_149 : decode cX2_travel 149 = .ok (.iload_n 3, 1) := by decide +kernel
theorem dX2_travel_150 : decode cX2_travel 150 = .ok (.if_icmp .ne 7, 3) := by decide +kernel
theorem dX2_travel_153 : decode cX2_travel 153 = .ok (.iconst 1, 1) := by decide +kernel
theorem dX2_travel_154 : decode cX2_travel 154 = .ok (.goto 4, 3) := by decide +kernel
theorem dX2_travel_157 : decode cX2_travel 157 = .ok (.iconst 0, 1) := by decide +kernel
theorem dX2_travel_158 : decode cX2_travel 158 = .ok (.putfield 46, 3) := by decide +kernel
theorem dX2_travel_161 : decode cX2_travel 161 = .ok (.return_, 1) := by decide +kernel
theorem dX2_wentOver_0 : decode cX2_wentOver 0 = .ok (.iconst 0, 1) := by decide +kernel
theorem dX2_wentOver_1 : decode cX2_wentOver 1 = .ok (.istore_n 2, 1) := by decide +kernel
theorem dX2_wentOver_2 : decode cX2_wentOver 2 = .ok (.iload_n 2, 1) := by decide +kernel
theorem dX2_wentOver_3 : decode cX2_wentOver 3 = .ok (.aload_n 0, 1) := by decide +kernel
theorem dX2_wentOver_4 : decode cX2_wentOver 4 = .ok (.getfield 18, 3) := by decide +kernel
theorem dX2_wentOver_7 : decode cX2_wentOver 7 = .ok (.iconst 1, 1) := by decide +kernel
theorem dX2_wentOver_8 : decode cX2_wentOver 8 = .ok (.isub, 1) := by decide +kernel
theorem dX2_wentOver_9 : decode cX2_wentOver 9 = .ok (.if_icmp .ge 21, 3) := by decide +kernel
theorem dX2_wentOver_12 : decode cX2_wentOver 12 = .ok (.aload_n 0, 1) := by decide +kernel
theorem dX2_wentOver_13 : decode cX2_wentOver 13 = .ok (.getfield 15, 3) := by decide +kernel
theorem dX2_wentOver_16 : decode cX2_wentOver 16 = .ok (.iload_n 2, 1) := by decide +kernel
theorem dX2_wentOver_17 : decode cX2_wentOver 17 = .ok (.iaload, 1) := by decide +kernel
theorem dX2_wentOver_18 : decode cX2_wentOver 18 = .ok (.iload_n 1, 1) := by decide +kernel
theorem dX2_wentOver_19 : decode cX2_wentOver 19 = .ok (.if_icmp .ne 5, 3) := by decide +kernel
theorem dX2_wentOver_22 : decode cX2_wentOver 22 = .ok (.iconst 1, 1) := by decide +kernel
theorem dX2_wentOver_23 : decode cX2_wentOver 23 = .ok (.ireturn, 1) := by decide +kernel
theorem dX2_wentOver_24 : decode cX2_wentOver 24 = .ok (.iinc 2 1, 3) := by decide +kernel
theorem dX2_wentOver_27 : decode cX2_wentOver 27 = .ok (.goto (-25), 3) := by decide +kernel
theorem dX2_wentOver_30 : decode cX2_wentOver 30 = .ok (.iconst 0, 1) := by decide +kernel
theorem dX2_wentOver_31 : decode cX2_wentOver 31 = .ok (.ireturn, 1) := by decide +kernel
theorem dX3_init_0 : decode cX3_init 0 = .ok (.aload_n 0, 1) := by decide +kernel
theorem dX3_init_1 : decode cX3_init 1 = .ok (.invokespecial 3, 3) := by decide +kernel
theorem dX3_init_4 : decode cX3_init 4 = .ok (.aload_n 0, 1) := by decide +kernel
theorem dX3_init_5 : decode cX3_init 5 = .ok (.bipush 100, 2) := by decide +kernel
theorem dX3_init_7 : decode cX3_init 7 = .ok (.newarray .int, 2) := by decide +kernel
theorem dX3_init_9 : decode cX3_init 9 = .ok (.putfield 9, 3) := by decide +kernel
theorem dX3_init_12 : decode cX3_init 12 = .ok (.return_, 1) := by decide +kernel
theorem dX3_put_0 : decode cX3_put 0 = .ok (.aload_n 0, 1) := by decide +kernel
theorem dX3_put_1 : decode cX3_put 1 = .ok (.getfield 9, 3) := by decide +kernel
theorem dX3_put_4 : decode cX3_put 4 = .ok (.aload_n 0, 1) := by decide +kernel
theorem dX3_put_5 : decode cX3_put 5 = .ok (.getfield 15, 3) := by decide +kernel
theorem dX3_put_8 : decode cX3_put 8 = .ok (.iload_n 1, 1) := by decide +kernel
theorem dX3_put_9 : decode cX3_put 9 = .ok (.iastore, 1) := by decide +kernel
theorem dX3_put_10 : decode cX3_put 10 = .ok (.aload_n 0, 1) := by decide +kernel
theorem dX3_put_11 : decode cX3_put 11 = .ok (.dup, 1) := by decide +kernel
theorem dX3_put_12 : decode cX3_put 12 = .ok (.getfield 15, 3) := by decide +kernel
theorem dX3_put_15 : decode cX3_put 15 = .ok (.iconst 1, 1) := by decide +kernel
theorem dX3_put_16 : decode cX3_put 16 = .ok (.iadd, 1) := by decide +kernel
theorem dX3_put_17 : decode cX3_put 17 = .ok (.putfield 15, 3) := by decide +kernel
theorem dX3_put_20 : decode cX3_put 20 = .ok (.return_, 1) := by decide +kernel
theorem dX3_readInto_0 : decode cX3_readInto 0 = .ok (.aload_n 0, 1) := by decide +kernel
theorem dX3_readInto_1 : decode cX3_readInto 1 = .ok (.iconst 0, 1) := by decide +kernel
theorem dX3_readInto_2 : decode cX3_readInto 2 = .ok (.invokevirtual 19, 3) := by decide +kernel
theorem dX3_readInto_5 : decode cX3_readInto 5 = .ok (.istore_n 2, 1) := by decide +kernel
theorem dX3_readInto_6 : decode cX3_readInto 6 = .ok (.iload_n 2, 1) := by decide +kernel
theorem dX3_readInto_7 : decode cX3_readInto 7 = .ok (.iconst (-1), 1) := by decide +kernel
theorem dX3_readInto_8 : decode cX3_readInto 8 = .ok (.if_icmp .ne 5, 3) := by decide +kernel
theorem dX3_readInto_11 : decode cX3_readInto 11 = .ok (.iconst 0, 1) := by decide +kernel
theorem dX3_readInto_12 : decode cX3_readInto 12 = .ok (.ireturn, 1) := by decide +kernel
theorem dX3_readInto_13 : decode cX3_readInto 13 = .ok (.aload_n 1, 1) := by decide +kernel
theorem dX3_readInto_14 : decode cX3_readInto 14 = .ok (.iload_n 2, 1) := by decide +kernel
theorem dX3_readInto_15 : decode cX3_readInto 15 = .ok (.invokevirtual 23, 3) := by decide +kernel
theorem dX3_readInto_18 : decode cX3_readInto 18 = .ok (.iconst 1, 1) := by decide +kernel
theorem dX3_readInto_19 : decode cX3_readInto 19 = .ok (.istore_n 3, 1) := by decide +kernel
theorem dX3_readInto_20 : decode cX3_readInto 20 = .ok (.iload_n 3, 1) := by decide +kernel
theorem dX3_readInto_21 : decode cX3_readInto 21 = .ok (.aload_n 0, 1) := by decide +kernel
theorem dX3_readInto_22 : decode cX3_readInto 22 = .ok (.getfield 15, 3) := by decide +kernel
theorem dX3_readInto_25 : decode cX3_readInto 25 = .ok (.if_icmp .ge 26, 3) := by decide +kernel
theorem dX3_readInto_28 : decode cX3_readInto 28 = .ok (.aload_n 0, 1) := by decide +kernel
theorem dX3_readInto_29 : decode cX3_readInto 29 = .ok (.aload_n 1, 1) := by decide +kernel
theorem dX3_readInto_30 : decode cX3_readInto 30 = .ok (.iload_n 3, 1) := by decide +kernel
theorem dX3_readInto_31 : decode cX3_readInto 31 = .ok (.invokevirtual 29, 3) := by decide +kernel
theorem dX3_readInto_34 : decode cX3_readInto 34 = .ok (.istore 4, 2) := by decide +kernel
theorem dX3_readInto_36 : decode cX3_readInto 36 = .ok (.iload 4, 2) := by decide +kernel
theorem dX3_readInto_38 : decode cX3_readInto 38 = .ok (.iconst (-1), 1) := by decide +kernel
theorem dX3_readInto_39 : decode cX3_readInto 39 = .ok (.if_icmp .eq 6, 3) := by decide +kernel
theorem dX3_readInto_42 : decode cX3_readInto 42 = .ok (.iload 4, 2) := by decide +kernel
theorem dX3_readInto_44 : decode cX3_readInto 44 = .ok (.ireturn, 1) := by decide +kernel
theorem dX3_readInto_45 : decode cX3_readInto 45 = .ok (.iinc 3 4, 3) := by decide +kernel
theorem dX3_readInto_48 : decode cX3_readInto 48 = .ok (.goto (-28), 3) := by decide +kernel
theorem dX3_readInto_51 : decode cX3_readInto 51 = .ok (.iconst (-1), 1) := by decide +kernel
theorem dX3_readInto_52 : decode cX3_readInto 52 = .ok (.ireturn, 1) := by decide +kernel
theorem dX3_readLink_0 : decode cX3_readLink 0 = .ok (.aload_n 0, 1) := by decide +kernel
theorem dX3_readLink_1 : decode cX3_readLink 1 = .ok (.getfield 9, 3) := by decide +kernel
theorem dX3_readLink_4 : decode cX3_readLink 4 = .ok (.iload_n 2, 1) := by decide +kernel
theorem dX3_readLink_5 : decode cX3_readLink 5 = .ok (.iaload, 1) := by decide +kernel
theorem dX3_readLink_6 : decode cX3_readLink 6 = .ok (.bipush 59, 2) := by decide +kernel
theorem dX3_readLink_8 : decode cX3_readLink 8 = .ok (.if_icmp .eq 5, 3) := by decide +kernel
theorem dX3_readLink_11 : decode cX3_readLink 11 = .ok (.iload_n 2, 1) := by decide +kernel
theorem dX3_readLink_12 : decode cX3_readLink 12 = .ok (.ireturn, 1) := by decide +kernel
theorem dX3_readLink_13 : decode cX3_readLink 13 = .ok (.aload_n 0, 1) := by decide +kernel
theorem dX3_readLink_14 : decode cX3_readLink 14 = .ok (.iload_n 2, 1) := by decide +kernel
theorem dX3_readLink_15 : decode cX3_readLink 15 = .ok (.iconst 1, 1) := by decide +kernel
theorem dX3_readLink_16 : decode cX3_readLink 16 = .ok (.iadd, 1) := by decide +kernel
theorem dX3_readLink_17 : decode cX3_readLink 17 = .ok (.invokevirtual 19, 3) := by decide +kernel
theorem dX3_readLink_20 : decode cX3_readLink 20 = .ok (.istore_n 3, 1) := by decide +kernel
theorem dX3_readLink_21 : decode cX3_readLink 21 = .ok (.iload_n 3, 1) := by decide +kernel
theorem dX3_readLink_22 : decode cX3_readLink 22 = .ok (.iconst (-1), 1) := by decide +kernel
theorem dX3_readLink_23 : decode cX3_readLink 23 = .ok (.if_icmp .eq 20, 3) := by decide +kernel
theorem dX3_readLink_26 : decode cX3_readLink 26 = .ok (.iload_n 3, 1) := by decide +kernel
theorem dX3_readLink_27 : decode cX3_readLink 27 = .ok (.aload_n 1, 1) := by decide +kernel
theorem dX3_readLink_28 : decode cX3_readLink 28 = .ok (.getfield 33, 3) := by decide +kernel
theorem dX3_readLink_31 : decode cX3_readLink 31 = .ok (.if_icmp .ge 12, 3) := by decide +kernel
theorem dX3_readLink_34 : decode cX3_readLink 34 = .ok (.aload_n 1, 1) := by decide +kernel
theorem dX3_readLink_35 : decode cX3_readLink 35 = .ok (.getfield 36, 3) := by decide +kernel
theorem dX3_readLink_38 : decode cX3_readLink 38 = .ok (.bipush 16, 2) := by decide +kernel
theorem dX3_readLink_40 : decode cX3_readLink 40 = .ok (.if_icmp .lt 7, 3) := by decide +kernel
theorem dX3_readLink_43 : decode cX3_readLink 43 = .ok (.iload_n 2, 1) := by decide +kernel
theorem dX3_readLink_44 : decode cX3_readLink 44 = .ok (.iconst 1, 1) := by decide +kernel
theorem dX3_readLink_45 : decode cX3_readLink 45 = .ok (.iadd, 1) := by decide +kernel
theorem dX3_readLink_46 : decode cX3_readLink 46 = .ok (.ireturn, 1) := by decide +kernel
theorem dX3_readLink_47 : decode cX3_readLink 47 = .ok (.aload_n 0, 1) := by decide +kernel
theorem dX3_readLink_48 : decode cX3_readLink 48 = .ok (.iload_n 2, 1) := by decide +kernel
theorem dX3_readLink_49 : decode cX3_readLink 49 = .ok (.iconst 2, 1) := by decide +kernel
theorem dX3_readLink_50 : decode cX3_readLink 50 = .ok (.iadd, 1) := by decide +kernel
theorem dX3_readLink_51 : decode cX3_readLink 51 = .ok (.invokevirtual 19, 3) := by decide +kernel
theorem dX3_readLink_54 : decode cX3_readLink 54 = .ok (.istore 4, 2) := by decide +kernel
theorem dX3_readLink_56 : decode cX3_readLink 56 = .ok (.iload 4, 2) := by decide +kernel
theorem dX3_readLink_58 : decode cX3_readLink 58 = .ok (.iconst (-1), 1) := by decide +kernel
theorem dX3_readLink_59 : decode cX3_readLink 59 = .ok (.if_icmp .eq 28, 3) := by decide +kernel
theorem dX3_readLink_62 : decode cX3_readLink 62 = .ok (.iload 4, 2) := by decide +kernel
theorem dX3_readLink_64 : decode cX3_readLink 64 = .ok (.aload_n 1, 1) := by decide +kernel
theorem dX3_readLink_65 : decode cX3_readLink 65 = .ok (.getfield 33, 3) := by decide +kernel
theorem dX3_readLink_68 : decode cX3_readLink 68 = .ok (.if_icmp .ge 19, 3) := by decide +kernel
theorem dX3_readLink_71 : decode cX3_readLink 71 = .ok (.iload 4, 2) := by decide +kernel
theorem dX3_readLink_73 : decode cX3_readLink 73 = .ok (.iload_n 3, 1) := by decide +kernel
theorem dX3_readLink_74 : decode cX3_readLink 74 = .ok (.if_icmp .eq 13, 3) := by decide +kernel
theorem dX3_readLink_77 : decode cX3_readLink 77 = .ok (.aload_n 1, 1) := by decide +kernel
theorem dX3_readLink_78 : decode cX3_readLink 78 = .ok (.iload_n 3, 1) := by decide +kernel
theorem dX3_readLink_79 : decode cX3_readLink 79 = .ok (.iload 4, 2) := by decide +kernel
theorem dX3_readLink_81 : decode cX3_readLink 81 = .ok (.invokevirtual 39, 3) := by decide +kernel
theorem dX3_readLink_84 : decode cX3_readLink 84 = .ok (.ifCond .eq 7, 3) := by decide +kernel
theorem dX3_readLink_87 : decode cX3_readLink 87 = .ok (.iload_n 2, 1) := by decide +kernel
theorem dX3_readLink_88 : decode cX3_readLink 88 = .ok (.iconst 2, 1) := by decide +kernel
theorem dX3_readLink_89 : decode cX3_readLink 89 = .ok (.iadd, 1) := by decide +kernel
theorem dX3_readLink_90 : decode cX3_readLink 90 = .ok (.ireturn, 1) := by decide +kernel
theorem dX3_readLink_91 : decode cX3_readLink 91 = .ok (.aload_n 0, 1) := by decide +kernel
theorem dX3_readLink_92 : decode cX3_readLink 92 = .ok (.iload_n 2, 1) := by decide +kernel
theorem dX3_readLink_93 : decode cX3_readLink 93 = .ok (.iconst 3, 1) := by decide +kernel
theorem dX3_readLink_94 : decode cX3_readLink 94 = .ok (.iadd, 1) := by decide +kernel
theorem dX3_readLink_95 : decode cX3_readLink 95 = .ok (.invokevirtual 19, 3) := by decide +kernel
theorem dX3_readLink_98 : decode cX3_readLink 98 = .ok (.istore 5, 2) := by decide +kernel
theorem dX3_readLink_100 : decode cX3_readLink 100 = .ok (.iload 5, 2) := by decide +kernel
theorem dX3_readLink_102 : decode cX3_readLink 102 = .ok (.iconst 1, 1) := by decide +kernel
theorem dX3_readLink_103 : decode cX3_readLink 103 = .ok (.if_icmp .ge 7, 3) := by decide +kernel
theorem dX3_readLink_106 : decode cX3_readLink 106 = .ok (.iload_n 2, 1) := by decide +kernel
theorem dX3_readLink_107 : decode cX3_readLink 107 = .ok (.iconst 3, 1) := by decide +kernel
theorem dX3_readLink_108 : decode cX3_readLink 108 = .ok (.iadd, 1) := by decide +kernel
theorem dX3_readLink_109 : decode cX3_readLink 109 = .ok (.ireturn, 1) := by decide +kernel
theorem dX3_readLink_110 : decode cX3_readLink 110 = .ok (.aload_n 1, 1) := by decide +kernel
theorem dX3_readLink_111 : decode cX3_readLink 111 = .ok (.iload_n 3, 1) := by decide +kernel
theorem dX3_readLink_112 : decode cX3_readLink 112 = .ok (.iload 4, 2) := by decide +kernel
theorem dX3_readLink_114 : decode cX3_readLink 114 = .ok (.iload 5, 2) := by decide +kernel
theorem dX3_readLink_116 : decode cX3_readLink 116 = .ok (.invokevirtual 43, 3) := by decide +kernel
theorem dX3_readLink_119 : decode cX3_readLink 119 = .ok (.iconst (-1), 1) := by decide +kernel
theorem dX3_readLink_120 : decode cX3_readLink 120 = .ok (.ireturn, 1) := by decide +kernel
theorem dX3_digitAt_0 : decode cX3_digitAt 0 = .ok (.iload_n 1, 1) := by decide +kernel
theorem dX3_digitAt_1 : decode cX3_digitAt 1 = .ok (.aload_n 0, 1) := by decide +kernel
theorem dX3_digitAt_2 : decode cX3_digitAt 2 = .ok (.getfield 15, 3) := by decide +kernel
theorem dX3_digitAt_5 : decode cX3_digitAt 5 = .ok (.if_icmp .ge 25, 3) := by decide +kernel
theorem dX3_digitAt_8 : decode cX3_digitAt 8 = .ok (.aload_n 0, 1) := by decide +kernel
theorem dX3_digitAt_9 : decode cX3_digitAt 9 = .ok (.getfield 9, 3) := by decide +kernel
theorem dX3_digitAt_12 : decode cX3_digitAt 12 = .ok (.iload_n 1, 1) := by decide +kernel
theorem dX3_digitAt_13 : decode cX3_digitAt 13 = .ok (.iaload, 1) := by decide +kernel
theorem dX3_digitAt_14 : decode cX3_digitAt 14 = .ok (.bipush 48, 2) := by decide +kernel
theorem dX3_digitAt_16 : decode cX3_digitAt 16 = .ok (.if_icmp .lt 14, 3) := by decide +kernel
theorem dX3_digitAt_19 : decode cX3_digitAt 19 = .ok (.aload_n 0, 1) := by decide +kernel
theorem dX3_digitAt_20 : decode cX3_digitAt 20 = .ok (.getfield 9, 3) := by decide +kernel
theorem dX3_digitAt_23 : decode cX3_digitAt 23 = .ok (.iload_n 1, 1) := by decide +kernel
theorem dX3_digitAt_24 : decode cX3_digitAt 24 = .ok (.iaload, 1) := by decide +kernel
theorem dX3_digitAt_25 : decode cX3_digitAt 25 = .ok (.bipush 57, 2) := by decide +kernel
theorem dX3_digitAt_27 : decode cX3_digitAt 27 = .ok (.if_icmp .le 5, 3) := by decide +kernel
theorem dX3_digitAt_30 : decode cX3_digitAt 30 = .ok (.iconst (-1), 1) := by decide +kernel
theorem dX3_digitAt_31 : decode cX3_digitAt 31 = .ok (.ireturn, 1) := by decide +kernel
theorem dX3_digitAt_32 : decode cX3_digitAt 32 = .ok (.aload_n 0, 1) := by decide +kernel
theorem dX3_digitAt_33 : decode cX3_digitAt 33 = .ok (.getfield 9, 3) := by decide +kernel
theorem dX3_digitAt_36 : decode cX3_digitAt 36 = .ok (.iload_n 1, 1) := by decide +kernel
theorem dX3_digitAt_37 : decode cX3_digitAt 37 = .ok (.iaload, 1) := by decide +kernel
theorem dX3_digitAt_38 : decode cX3_digitAt 38 = .ok (.bipush 48, 2) := by decide +kernel
theorem dX3_digitAt_40 : decode cX3_digitAt 40 = .ok (.isub, 1) := by decide +kernel
theorem dX3_digitAt_41 : decode cX3_digitAt 41 = .ok (.ireturn, 1) := by decide +kernel
theorem dX4_init_0 : decode cX4_init 0 = .ok (.aload_n 0, 1) := by decide +kernel
theorem dX4_init_1 : decode cX4_init 1 = .ok (.invokespecial 3, 3) := by decide +kernel
theorem dX4_init_4 : decode cX4_init 4 = .ok (.aload_n 0, 1) := by decide +kernel
theorem dX4_init_5 : decode cX4_init 5 = .ok (.bipush 9, 2) := by decide +kernel
theorem dX4_init_7 : decode cX4_init 7 = .ok (.newarray .int, 2) := by decide +kernel
theorem dX4_init_9 : decode cX4_init 9 = .ok (.putfield 9, 3) := by decide +kernel
theorem dX4_init_12 : decode cX4_init 12 = .ok (.return_, 1) := by decide +kernel
theorem dX4_labelAt_0 : decode cX4_labelAt 0 = .ok (.iload_n 0, 1) := by decide +kernel
theorem dX4_labelAt_1 : decode cX4_labelAt 1 = .ok (.iload_n 1, 1) := by decide +kernel
theorem dX4_labelAt_2 : decode cX4_labelAt 2 = .ok (.if_icmp .ge 7, 3) := by decide +kernel
theorem dX4_labelAt_5 : decode cX4_labelAt 5 = .ok (.iload_n 0, 1) := by decide +kernel
theorem dX4_labelAt_6 : decode cX4_labelAt 6 = .ok (.goto 6, 3) := by decide +kernel
theorem dX4_labelAt_9 : decode cX4_labelAt 9 = .ok (.iload_n 0, 1) := by decide +kernel
theorem dX4_labelAt_10 : decode cX4_labelAt 10 = .ok (.iconst 1, 1) := by decide +kernel
theorem dX4_labelAt_11 : decode cX4_labelAt 11 = .ok (.iadd, 1) := by decide +kernel
theorem dX4_labelAt_12 : decode cX4_labelAt 12 = .ok (.ireturn, 1) := by decide +kernel
theorem dX4_read_0 : decode cX4_read 0 = .ok (.aload_n 0, 1) := by decide +kernel
theorem dX4_read_1 : decode cX4_read 1 = .ok (.aload_n 1, 1) := by decide +kernel
theorem dX4_read_2 : decode cX4_read 2 = .ok (.getfield 15, 3) := by decide +kernel
theorem dX4_read_5 : decode cX4_read 5 = .ok (.iconst 1, 1) := by decide +kernel
theorem dX4_read_6 : decode cX4_read 6 = .ok (.isub, 1) := by decide +kernel
theorem dX4_read_7 : decode cX4_read 7 = .ok (.putfield 21, 3) := by decide +kernel
theorem dX4_read_10 : decode cX4_read 10 = .ok (.iconst 0, 1) := by decide +kernel
theorem dX4_read_11 : decode cX4_read 11 = .ok (.istore_n 3, 1) := by decide +kernel
theorem dX4_read_12 : decode cX4_read 12 = .ok (.iload_n 3, 1) := by decide +kernel
theorem dX4_read_13 : decode cX4_read 13 = .ok (.aload_n 0, 1) := by decide +kernel
theorem dX4_read_14 : decode cX4_read 14 = .ok (.getfield 21, 3) := by decide +kernel
theorem dX4_read_17 : decode cX4_read 17 = .ok (.if_icmp .ge 30, 3) := by decide +kernel
theorem dX4_read_20 : decode cX4_read 20 = .ok (.aload_n 0, 1) := by decide +kernel
theorem dX4_read_21 : decode cX4_read 21 = .ok (.getfield 9, 3) := by decide +kernel
theorem dX4_read_24 : decode cX4_read 24 = .ok (.iload_n 3, 1) := by decide +kernel
theorem dX4_read_25 : decode cX4_read 25 = .ok (.aload_n 1, 1) := by decide +kernel
theorem dX4_read_26 : decode cX4_read 26 = .ok (.iload_n 2, 1) := by decide +kernel
theorem dX4_read_27 : decode cX4_read 27 = .ok (.iload_n 3, 1) := by decide +kernel
theorem dX4_read_28 : decode cX4_read 28 = .ok (.aload_n 1, 1) := by decide +kernel
theorem dX4_read_29 : decode cX4_read 29 = .ok (.getfield 24, 3) := by decide +kernel
theorem dX4_read_32 : decode cX4_read 32 = .ok (.iload_n 2, 1) := by decide +kernel
theorem dX4_read_33 : decode cX4_read 33 = .ok (.iaload, 1) := by decide +kernel
theorem dX4_read_34 : decode cX4_read 34 = .ok (.invokestatic 27, 3) := by decide +kernel
theorem dX4_read_37 : decode cX4_read 37 = .ok (.invokevirtual 31, 3) := by decide +kernel
theorem dX4_read_40 : decode cX4_read 40 = .ok (.iastore, 1) := by decide +kernel
theorem dX4_read_41 : decode cX4_read 41 = .ok (.iinc 3 1, 3) := by decide +kernel
theorem dX4_read_44 : decode cX4_read 44 = .ok (.goto (-32), 3) := by decide +kernel
theorem dX4_read_47 : decode cX4_read 47 = .ok (.return_, 1) := by decide +kernel
theorem dX4_runsOf_0 : decode cX4_runsOf 0 = .ok (.iconst 0, 1) := by decide +kernel
theorem dX4_runsOf_1 : decode cX4_runsOf 1 = .ok (.istore_n 2, 1) := by decide +kernel
theorem dX4_runsOf_2 : decode cX4_runsOf 2 = .ok (.iconst 0, 1) := by decide +kernel
theorem dX4_runsOf_3 : decode cX4_runsOf 3 = .ok (.istore_n 3, 1) := by decide +kernel
theorem dX4_runsOf_4 : decode cX4_runsOf 4 = .ok (.iload_n 3, 1) := by decide +kernel
theorem dX4_runsOf_5 : decode cX4_runsOf 5 = .ok (.aload_n 0, 1) := by decide +kernel
theorem dX4_runsOf_6 : decode cX4_runsOf 6 = .ok (.getfield 21, 3) := by decide +kernel
theorem dX4_runsOf_9 : decode cX4_runsOf 9 = .ok (.if_icmp .ge 30, 3) := by decide +kernel
theorem dX4_runsOf_12 : decode cX4_runsOf 12 = .ok (.aload_n 0, 1) := by decide +kernel
theorem dX4_runsOf_13 : decode cX4_runsOf 13 = .ok (.getfield 9, 3) := by decide +kernel
theorem dX4_runsOf_16 : decode cX4_runsOf 16 = .ok (.iload_n 3, 1) := by decide +kernel
theorem dX4_runsOf_17 : decode cX4_runsOf 17 = .ok (.iaload, 1) := by decide +kernel
theorem dX4_runsOf_18 : decode cX4_runsOf 18 = .ok (.iload_n 1, 1) := by decide +kernel
theorem dX4_runsOf_19 : decode cX4_runsOf 19 = .ok (.if_icmp .ne 14, 3) := by decide +kernel
theorem dX4_runsOf_22 : decode cX4_runsOf 22 = .ok (.aload_n 0, 1) := by decide +kernel
theorem dX4_runsOf_23 : decode cX4_runsOf 23 = .ok (.iload_n 3, 1) := by decide +kernel
theorem dX4_runsOf_24 : decode cX4_runsOf 24 = .ok (.invokevirtual 34, 3) := by decide +kernel
theorem dX4_runsOf_27 : decode cX4_runsOf 27 = .ok (.ifCond .eq 6, 3) := by decide +kernel
theorem dX4_runsOf_30 : decode cX4_runsOf 30 = .ok (.iinc 2 1, 3) := by decide +kernel
theorem dX4_runsOf_33 : decode cX4_runsOf 33 = .ok (.iinc 3 1, 3) := by decide +kernel
theorem dX4_runsOf_36 : decode cX4_runsOf 36 = .ok (.goto (-32), 3) := by decide +kernel
theorem dX4_runsOf_39 : decode cX4_runsOf 39 = .ok (.iload_n 2, 1) := by decide +kernel
theorem dX4_runsOf_40 : decode cX4_runsOf 40 = .ok (.ireturn, 1) := by decide +kernel
theorem dX4_allRuns_0 : decode cX4_allRuns 0 = .ok (.iconst 0, 1) := by decide +kernel
theorem dX4_allRuns_1 : decode cX4_allRuns 1 = .ok (.istore_n 1, 1) := by decide +kernel
theorem dX4_allRuns_2 : decode cX4_allRuns 2 = .ok (.iconst 0, 1) := by decide +kernel
theorem dX4_allRuns_3 : decode cX4_allRuns 3 = .ok (.istore_n 2, 1) := by decide +kernel
theorem dX4_allRuns_4 : decode cX4_allRuns 4 = .ok (.iload_n 2, 1) := by decide +kernel
theorem dX4_allRuns_5 : decode cX4_allRuns 5 = .ok (.aload_n 0, 1) := by decide +kernel
theorem dX4_allRuns_6 : decode cX4_allRuns 6 = .ok (.getfield 21, 3) := by decide +kernel
theorem dX4_allRuns_9 : decode cX4_allRuns 9 = .ok (.if_icmp .ge 20, 3) := by decide +kernel
theorem dX4_allRuns_12 : decode cX4_allRuns 12 = .ok (.aload_n 0, 1) := by decide +kernel
theorem dX4_allRuns_13 : decode cX4_allRuns 13 = .ok (.iload_n 2, 1) := by decide +kernel
theorem dX4_allRuns_14 : decode cX4_allRuns 14 = .ok (.invokevirtual 34, 3) := by decide +kernel
theorem dX4_allRuns_17 : decode cX4_allRuns 17 = .ok (.ifCond .eq 6, 3) := by decide +kernel
theorem dX4_allRuns_20 : decode cX4_allRuns 20 = .ok (.iinc 1 1, 3) := by decide +kernel
theorem dX4_allRuns_23 : decode cX4_allRuns 23 = .ok (.iinc 2 1, 3) := by decide +kernel
theorem dX4_allRuns_26 : decode cX4_allRuns 26 = .ok (.goto (-22), 3) := by decide +kernel
theorem dX4_allRuns_29 : decode cX4_allRuns 29 = .ok (.iload_n 1, 1) := by decide +kernel
theorem dX4_allRuns_30 : decode cX4_allRuns 30 = .ok (.ireturn, 1) := by decide +kernel
theorem dX4_mostRuns_0 : decode cX4_mostRuns 0 = .ok (.iconst 0, 1) := by decide +kernel
theorem dX4_mostRuns_1 : decode cX4_mostRuns 1 = .ok (.istore_n 1, 1) := by decide +kernel
theorem dX4_mostRuns_2 : decode cX4_mostRuns 2 = .ok (.iconst 0, 1) := by decide +kernel
theorem dX4_mostRuns_3 : decode cX4_mostRuns 3 = .ok (.istore_n 2, 1) := by decide +kernel
theorem dX4_mostRuns_4 : decode cX4_mostRuns 4 = .ok (.iload_n 2, 1) := by decide +kernel
theorem dX4_mostRuns_5 : decode cX4_mostRuns 5 = .ok (.aload_n 0, 1) := by decide +kernel
theorem dX4_mostRuns_6 : decode cX4_mostRuns 6 = .ok (.getfield 21, 3) := by decide +kernel
theorem dX4_mostRuns_9 : decode cX4_mostRuns 9 = .ok (.if_icmp .ge 24, 3) := by decide +kernel
theorem dX4_mostRuns_12 : decode cX4_mostRuns 12 = .ok (.iload_n 1, 1) := by decide +kernel
theorem dX4_mostRuns_13 : decode cX4_mostRuns 13 = .ok (.aload_n 0, 1) := by decide +kernel
theorem dX4_mostRuns_14 : decode cX4_mostRuns 14 = .ok (.aload_n 0, 1) := by decide +kernel
theorem dX4_mostRuns_15 : decode cX4_mostRuns 15 = .ok (.getfield 9, 3) := by decide +kernel
theorem dX4_mostRuns_18 : decode cX4_mostRuns 18 = .ok (.iload_n 2, 1) := by decide +kernel
theorem dX4_mostRuns_19 : decode cX4_mostRuns 19 = .ok (.iaload, 1) := by decide +kernel
theorem dX4_mostRuns_20 : decode cX4_mostRuns 20 = .ok (.invokevirtual 38, 3) := by decide +kernel
theorem dX4_mostRuns_23 : decode cX4_mostRuns 23 = .ok (.invokestatic 42, 3) := by decide +kernel
theorem dX4_mostRuns_26 : decode cX4_mostRuns 26 = .ok (.istore_n 1, 1) := by decide +kernel
theorem dX4_mostRuns_27 : decode cX4_mostRuns 27 = .ok (.iinc 2 1, 3) := by decide +kernel
theorem dX4_mostRuns_30 : decode cX4_mostRuns 30 = .ok (.goto (-26), 3) := by decide +kernel
theorem dX4_mostRuns_33 : decode cX4_mostRuns 33 = .ok (.iload_n 1, 1) := by decide +kernel
theorem dX4_mostRuns_34 : decode cX4_mostRuns 34 = .ok (.ireturn, 1) := by decide +kernel
theorem dX4_beginningOf_0 : decode cX4_beginningOf 0 = .ok (.iconst 0, 1) := by decide +kernel
theorem dX4_beginningOf_1 : decode cX4_beginningOf 1 = .ok (.istore_n 3, 1) := by decide +kernel
theorem dX4_beginningOf_2 : decode cX4_beginningOf 2 = .ok (.iconst 0, 1) := by decide +kernel
theorem dX4_beginningOf_3 : decode cX4_beginningOf 3 = .ok (.istore 4, 2) := by decide +kernel
theorem dX4_beginningOf_5 : decode cX4_beginningOf 5 = .ok (.iload 4, 2) := by decide +kernel
theorem dX4_beginningOf_7 : decode cX4_beginningOf 7 = .ok (.aload_n 0, 1) := by decide +kernel
theorem dX4_beginningOf_8 : decode cX4_beginningOf 8 = .ok (.getfield 21, 3) := by decide +kernel
theorem dX4_beginningOf_11 : decode cX4_beginningOf 11 = .ok (.if_icmp .ge 40, 3) := by decide +kernel
theorem dX4_beginningOf_14 : decode cX4_beginningOf 14 = .ok (.aload_n 0, 1) := by decide +kernel
theorem dX4_beginningOf_15 : decode cX4_beginningOf 15 = .ok (.getfield 9, 3) := by decide +kernel
theorem dX4_beginningOf_18 : decode cX4_beginningOf 18 = .ok (.iload 4, 2) := by decide +kernel
theorem dX4_beginningOf_20 : decode cX4_beginningOf 20 = .ok (.iaload, 1) := by decide +kernel
theorem dX4_beginningOf_21 : decode cX4_beginningOf 21 = .ok (.iload_n 1, 1) := by decide +kernel
theorem dX4_beginningOf_22 : decode cX4_beginningOf 22 = .ok (.if_icmp .ne 23, 3) := by decide +kernel
theorem dX4_beginningOf_25 : decode cX4_beginningOf 25 = .ok (.aload_n 0, 1) := by decide +kernel
theorem dX4_beginningOf_26 : decode cX4_beginningOf 26 = .ok (.iload 4, 2) := by decide +kernel
theorem dX4_beginningOf_28 : decode cX4_beginningOf 28 = .ok (.invokevirtual 34, 3) := by decide +kernel
theorem dX4_beginningOf_31 : decode cX4_beginningOf 31 = .ok (.ifCond .eq 14, 3) := by decide +kernel
theorem dX4_beginningOf_34 : decode cX4_beginningOf 34 = .ok (.iload_n 3, 1) := by decide +kernel
theorem dX4_beginningOf_35 : decode cX4_beginningOf 35 = .ok (.iload_n 2, 1) := by decide +kernel
theorem dX4_beginningOf_36 : decode cX4_beginningOf 36 = .ok (.if_icmp .ne 6, 3) := by decide +kernel
theorem dX4_beginningOf_39 : decode cX4_beginningOf 39 = .ok (.iload 4, 2) := by decide +kernel
theorem dX4_beginningOf_41 : decode cX4_beginningOf 41 = .ok (.ireturn, 1) := by decide +kernel
theorem dX4_beginningOf_42 : decode cX4_beginningOf 42 = .ok (.iinc 3 1, 3) := by decide +kernel
theorem dX4_beginningOf_45 : decode cX4_beginningOf 45 = .ok (.iinc 4 1, 3) := by decide +kernel
theorem dX4_beginningOf_48 : decode cX4_beginningOf 48 = .ok (.goto (-43), 3) := by decide +kernel
theorem dX4_beginningOf_51 : decode cX4_beginningOf 51 = .ok (.iconst (-1), 1) := by decide +kernel
theorem dX4_beginningOf_52 : decode cX4_beginningOf 52 = .ok (.ireturn, 1) := by decide +kernel
theorem dX4_endOfRunAt_0 : decode cX4_endOfRunAt 0 = .ok (.iload_n 1, 1) := by decide +kernel
theorem dX4_endOfRunAt_1 : decode cX4_endOfRunAt 1 = .ok (.istore_n 2, 1) := by decide +kernel
theorem dX4_endOfRunAt_2 : decode cX4_endOfRunAt 2 = .ok (.iconst 1, 1) := by decide +kernel
theorem dX4_endOfRunAt_3 : decode cX4_endOfRunAt 3 = .ok (.istore_n 3, 1) := by decide +kernel
theorem dX4_endOfRunAt_4 : decode cX4_endOfRunAt 4 = .ok (.iload_n 3, 1) := by decide +kernel
theorem dX4_endOfRunAt_5 : decode cX4_endOfRunAt 5 = .ok (.aload_n 0, 1) := by decide +kernel
theorem dX4_endOfRunAt_6 : decode cX4_endOfRunAt 6 = .ok (.getfield 21, 3) := by decide +kernel
theorem dX4_endOfRunAt_9 : decode cX4_endOfRunAt 9 = .ok (.if_icmp .ge 49, 3) := by decide +kernel
theorem dX4_endOfRunAt_12 : decode cX4_endOfRunAt 12 = .ok (.iload_n 2, 1) := by decide +kernel
theorem dX4_endOfRunAt_13 : decode cX4_endOfRunAt 13 = .ok (.iconst 1, 1) := by decide +kernel
theorem dX4_endOfRunAt_14 : decode cX4_endOfRunAt 14 = .ok (.iadd, 1) := by decide +kernel
theorem dX4_endOfRunAt_15 : decode cX4_endOfRunAt 15 = .ok (.aload_n 0, 1) := by decide +kernel
theorem dX4_endOfRunAt_16 : decode cX4_endOfRunAt 16 = .ok (.getfield 21, 3) := by decide +kernel
theorem dX4_endOfRunAt_19 : decode cX4_endOfRunAt 19 = .ok (.if_icmp .ge 9, 3) := by decide +kernel
theorem dX4_endOfRunAt_22 : decode cX4_endOfRunAt 22 = .ok (.iload_n 2, 1) := by decide +kernel
theorem dX4_endOfRunAt_23 : decode cX4_endOfRunAt 23 = .ok (.iconst 1, 1) := by decide +kernel
theorem dX4_endOfRunAt_24 : decode cX4_endOfRunAt 24 = .ok (.iadd, 1) := by decide +kernel
theorem dX4_endOfRunAt_25 : decode cX4_endOfRunAt 25 = .ok (.goto 4, 3) := by decide +kernel
theorem dX4_endOfRunAt_28 : decode cX4_endOfRunAt 28 = .ok (.iconst 0, 1) := by decide +kernel
theorem dX4_endOfRunAt_29 : decode cX4_endOfRunAt 29 = .ok (.istore 4, 2) := by decide +kernel
theorem dX4_endOfRunAt_31 : decode cX4_endOfRunAt 31 = .ok (.aload_n 0, 1) := by decide +kernel
theorem dX4_endOfRunAt_32 : decode cX4_endOfRunAt 32 = .ok (.getfield 9, 3) := by decide +kernel
theorem dX4_endOfRunAt_35 : decode cX4_endOfRunAt 35 = .ok (.iload 4, 2) := by decide +kernel
theorem dX4_endOfRunAt_37 : decode cX4_endOfRunAt 37 = .ok (.iaload, 1) := by decide +kernel
theorem dX4_endOfRunAt_38 : decode cX4_endOfRunAt 38 = .ok (.aload_n 0, 1) := by decide +kernel
theorem dX4_endOfRunAt_39 : decode cX4_endOfRunAt 39 = .ok (.getfield 9, 3) := by decide +kernel
theorem dX4_endOfRunAt_42 : decode cX4_endOfRunAt 42 = .ok (.iload_n 1, 1) := by decide +kernel
theorem dX4_endOfRunAt_43 : decode cX4_endOfRunAt 43 = .ok (.iaload, 1) := by decide +kernel
theorem dX4_endOfRunAt_44 : decode cX4_endOfRunAt 44 = .ok (.if_icmp .eq 5, 3) := by decide +kernel
theorem dX4_endOfRunAt_47 : decode cX4_endOfRunAt 47 = .ok (.iload_n 2, 1) := by decide +kernel
theorem dX4_endOfRunAt_48 : decode cX4_endOfRunAt 48 = .ok (.ireturn, 1) := by decide +kernel
theorem dX4_endOfRunAt_49 : decode cX4_endOfRunAt 49 = .ok (.iload 4, 2) := by decide +kernel
theorem dX4_endOfRunAt_51 : decode cX4_endOfRunAt 51 = .ok (.istore_n 2, 1) := by decide +kernel
theorem dX4_endOfRunAt_52 : decode cX4_endOfRunAt 52 = .ok (.iinc 3 1, 3) := by decide +kernel
theorem dX4_endOfRunAt_55 : decode cX4_endOfRunAt 55 = .ok (.goto (-51), 3) := by decide +kernel
theorem dX4_endOfRunAt_58 : decode cX4_endOfRunAt 58 = .ok (.iload_n 2, 1) := by decide +kernel
theorem dX4_endOfRunAt_59 : decode cX4_endOfRunAt 59 = .ok (.ireturn, 1) := by decide +kernel
theorem dX4_runBeginsAt_0 : decode cX4_runBeginsAt 0 = .ok (.aload_n 0, 1) := by decide +kernel
theorem dX4_runBeginsAt_1 : decode cX4_runBeginsAt 1 = .ok (.getfield 9, 3) := by decide +kernel
theorem dX4_runBeginsAt_4 : decode cX4_runBeginsAt 4 = .ok (.iload_n 1, 1) := by decide +kernel
theorem dX4_runBeginsAt_5 : decode cX4_runBeginsAt 5 = .ok (.iaload, 1) := by decide +kernel
theorem dX4_runBeginsAt_6 : decode cX4_runBeginsAt 6 = .ok (.iconst (-1), 1) := by decide +kernel
theorem dX4_runBeginsAt_7 : decode cX4_runBeginsAt 7 = .ok (.if_icmp .ne 5, 3) := by decide +kernel
theorem dX4_runBeginsAt_10 : decode cX4_runBeginsAt 10 = .ok (.iconst 0, 1) := by decide +kernel
theorem dX4_runBeginsAt_11 : decode cX4_runBeginsAt 11 = .ok (.ireturn, 1) := by decide +kernel
theorem dX4_runBeginsAt_12 : decode cX4_runBeginsAt 12 = .ok (.aload_n 0, 1) := by decide +kernel
theorem dX4_runBeginsAt_13 : decode cX4_runBeginsAt 13 = .ok (.getfield 9, 3) := by decide +kernel
theorem dX4_runBeginsAt_16 : decode cX4_runBeginsAt 16 = .ok (.iload_n 1, 1) := by decide +kernel
theorem dX4_runBeginsAt_17 : decode cX4_runBeginsAt 17 = .ok (.ifCond .ne 12, 3) := by decide +kernel
theorem dX4_runBeginsAt_20 : decode cX4_runBeginsAt 20 = .ok (.aload_n 0, 1) := by decide +kernel
theorem dX4_runBeginsAt_21 : decode cX4_runBeginsAt 21 = .ok (.getfield 21, 3) := by decide +kernel
theorem dX4_runBeginsAt_24 : decode cX4_runBeginsAt 24 = .ok (.iconst 1, 1) := by decide +kernel
theorem dX4_runBeginsAt_25 : decode cX4_runBeginsAt 25 = .ok (.isub, 1) := by decide +kernel
theorem dX4_runBeginsAt_26 : decode cX4_runBeginsAt 26 = .ok (.goto 6, 3) := by decide +kernel
theorem dX4_runBeginsAt_29 : decode cX4_runBeginsAt 29 = .ok (.iload_n 1, 1) := by decide +kernel
theorem dX4_runBeginsAt_30 : decode cX4_runBeginsAt 30 = .ok (.iconst 1, 1) := by decide +kernel
theorem dX4_runBeginsAt_31 : decode cX4_runBeginsAt 31 = .ok (.isub, 1) := by decide +kernel
theorem dX4_runBeginsAt_32 : decode cX4_runBeginsAt 32 = .ok (.iaload, 1) := by decide +kernel
theorem dX4_runBeginsAt_33 : decode cX4_runBeginsAt 33 = .ok (.istore_n 2, 1) := by decide +kernel
theorem dX4_runBeginsAt_34 : decode cX4_runBeginsAt 34 = .ok (.iload_n 2, 1) := by decide +kernel
theorem dX4_runBeginsAt_35 : decode cX4_runBeginsAt 35 = .ok (.aload_n 0, 1) := by decide +kernel
theorem dX4_runBeginsAt_36 : decode cX4_runBeginsAt 36 = .ok (.getfield 9, 3) := by decide +kernel
theorem dX4_runBeginsAt_39 : decode cX4_runBeginsAt 39 = .ok (.iload_n 1, 1) := by decide +kernel
theorem dX4_runBeginsAt_40 : decode cX4_runBeginsAt 40 = .ok (.iaload, 1) := by decide +kernel
theorem dX4_runBeginsAt_41 : decode cX4_runBeginsAt 41 = .ok (.if_icmp .ne 14, 3) := by decide +kernel
theorem dX4_runBeginsAt_44 : decode cX4_runBeginsAt 44 = .ok (.iload_n 1, 1) := by decide +kernel
theorem dX4_runBeginsAt_45 : decode cX4_runBeginsAt 45 = .ok (.ifCond .ne 14, 3) := by decide +kernel
theorem dX4_runBeginsAt_48 : decode cX4_runBeginsAt 48 = .ok (.aload_n 0, 1) := by decide +kernel
theorem dX4_runBeginsAt_49 : decode cX4_runBeginsAt 49 = .ok (.invokevirtual 47, 3) := by decide +kernel
theorem dX4_runBeginsAt_52 : decode cX4_runBeginsAt 52 = .ok (.ifCond .eq 7, 3) := by decide +kernel
theorem dX4_runBeginsAt_55 : decode cX4_runBeginsAt 55 = .ok (.iconst 1, 1) := by decide +kernel
theorem dX4_runBeginsAt_56 : decode cX4_runBeginsAt 56 = .ok (.goto 4, 3) := by decide +kernel
theorem dX4_runBeginsAt_59 : decode cX4_runBeginsAt 59 = .ok (.iconst 0, 1) := by decide +kernel
theorem dX4_runBeginsAt_60 : decode cX4_runBeginsAt 60 = .ok (.ireturn, 1) := by decide +kernel
theorem dX4_allEqual_0 : decode cX4_allEqual 0 = .ok (.iconst 1, 1) := by decide +kernel
theorem dX4_allEqual_1 : decode cX4_allEqual 1 = .ok (.istore_n 1, 1) := by decide +kernel
theorem dX4_allEqual_2 : decode cX4_allEqual 2 = .ok (.iload_n 1, 1) := by decide +kernel
theorem dX4_allEqual_3 : decode cX4_allEqual 3 = .ok (.aload_n 0, 1) := by decide +kernel
theorem dX4_allEqual_4 : decode cX4_allEqual 4 = .ok (.getfield 21, 3) := by decide +kernel
theorem dX4_allEqual_7 : decode cX4_allEqual 7 = .ok (.if_icmp .ge 26, 3) := by decide +kernel
theorem dX4_allEqual_10 : decode cX4_allEqual 10 = .ok (.aload_n 0, 1) := by decide +kernel
theorem dX4_allEqual_11 : decode cX4_allEqual 11 = .ok (.getfield 9, 3) := by decide +kernel
theorem dX4_allEqual_14 : decode cX4_allEqual 14 = .ok (.iload_n 1, 1) := by decide +kernel
theorem dX4_allEqual_15 : decode cX4_allEqual 15 = .ok (.iaload, 1) := by decide +kernel
theorem dX4_allEqual_16 : decode cX4_allEqual 16 = .ok (.aload_n 0, 1) := by decide +kernel
theorem dX4_allEqual_17 : decode cX4_allEqual 17 = .ok (.getfield 9, 3) := by decide +kernel
theorem dX4_allEqual_20 : decode cX4_allEqual 20 = .ok (.iconst 0, 1) := by decide +kernel
theorem dX4_allEqual_21 : decode cX4_allEqual 21 = .ok (.iaload, 1) := by decide +kernel
theorem dX4_allEqual_22 : decode cX4_allEqual 22 = .ok (.if_icmp .eq 5, 3) := by decide +kernel
theorem dX4_allEqual_25 : decode cX4_allEqual 25 = .ok (.iconst 0, 1) := by decide +kernel
theorem dX4_allEqual_26 : decode cX4_allEqual 26 = .ok (.ireturn, 1) := by decide +kernel
theorem dX4_allEqual_27 : decode cX4_allEqual 27 = .ok (.iinc 1 1, 3) := by decide +kernel
theorem dX4_allEqual_30 : decode cX4_allEqual 30 = .ok (.goto (-28), 3) := by decide +kernel
theorem dX4_allEqual_33 : decode cX4_allEqual 33 = .ok (.iconst 1, 1) := by decide +kernel
theorem dX4_allEqual_34 : decode cX4_allEqual 34 = .ok (.ireturn, 1) := by decide +kernel
theorem dX5_init_0 : decode cX5_init 0 = .ok (.aload_n 0, 1) := by decide +kernel
theorem dX5_init_1 : decode cX5_init 1 = .ok (.invokespecial 3, 3) := by decide +kernel
theorem dX5_init_4 : decode cX5_init 4 = .ok (.aload_n 0, 1) := by decide +kernel
theorem dX5_init_5 : decode cX5_init 5 = .ok (.bipush 6, 2) := by decide +kernel
theorem dX5_init_7 : decode cX5_init 7 = .ok (.newarray .int, 2) := by decide +kernel
theorem dX5_init_9 : decode cX5_init 9 = .ok (.putfield 9, 3) := by decide +kernel
theorem dX5_init_12 : decode cX5_init 12 = .ok (.aload_n 0, 1) := by decide +kernel
theorem dX5_init_13 : decode cX5_init 13 = .ok (.bipush 6, 2) := by decide +kernel
theorem dX5_init_15 : decode cX5_init 15 = .ok (.newarray .int, 2) := by decide +kernel
theorem dX5_init_17 : decode cX5_init 17 = .ok (.putfield 15, 3) := by decide +kernel
theorem dX5_init_20 : decode cX5_init 20 = .ok (.aload_n 0, 1) := by decide +kernel
theorem dX5_init_21 : decode cX5_init 21 = .ok (.bipush 10, 2) := by decide +kernel
theorem dX5_init_23 : decode cX5_init 23 = .ok (.newarray .int, 2) := by decide +kernel
theorem dX5_init_25 : decode cX5_init 25 = .ok (.putfield 18, 3) := by decide +kernel
theorem dX5_init_28 : decode cX5_init 28 = .ok (.aload_n 0, 1) := by decide +kernel
theorem dX5_init_29 : decode cX5_init 29 = .ok (.new 21, 3) := by decide +kernel
theorem dX5_init_32 : decode cX5_init 32 = .ok (.dup, 1) := by decide +kernel
theorem dX5_init_33 : decode cX5_init 33 = .ok (.invokespecial 23, 3) := by decide +kernel
theorem dX5_init_36 : decode cX5_init 36 = .ok (.putfield 24, 3) := by decide +kernel
theorem dX5_init_39 : decode cX5_init 39 = .ok (.return_, 1) := by decide +kernel
theorem dX5_forget_0 : decode cX5_forget 0 = .ok (.aload_n 0, 1) := by decide +kernel
theorem dX5_forget_1 : decode cX5_forget 1 = .ok (.iconst 0, 1) := by decide +kernel
theorem dX5_forget_2 : decode cX5_forget 2 = .ok (.putfield 28, 3) := by decide +kernel
theorem dX5_forget_5 : decode cX5_forget 5 = .ok (.return_, 1) := by decide +kernel
theorem dX5_ensure_0 : decode cX5_ensure 0 = .ok (.aload_n 0, 1) := by decide +kernel
theorem dX5_ensure_1 : decode cX5_ensure 1 = .ok (.getfield 28, 3) := by decide +kernel
theorem dX5_ensure_4 : decode cX5_ensure 4 = .ok (.ifCond .eq 4, 3) := by decide +kernel
theorem dX5_ensure_7 : decode cX5_ensure 7 = .ok (.return_, 1) := by decide +kernel
theorem dX5_ensure_8 : decode cX5_ensure 8 = .ok (.aload_n 0, 1) := by decide +kernel
theorem dX5_ensure_9 : decode cX5_ensure 9 = .ok (.iconst 1, 1) := by decide +kernel
theorem dX5_ensure_10 : decode cX5_ensure 10 = .ok (.putfield 28, 3) := by decide +kernel
theorem dX5_ensure_13 : decode cX5_ensure 13 = .ok (.aload_n 0, 1) := by decide +kernel
theorem dX5_ensure_14 : decode cX5_ensure 14 = .ok (.sipush 1000, 3) := by decide +kernel
theorem dX5_ensure_17 : decode cX5_ensure 17 = .ok (.putfield 32, 3) := by decide +kernel
theorem dX5_ensure_20 : decode cX5_ensure 20 = .ok (.aload_n 0, 1) := by decide +kernel
theorem dX5_ensure_21 : decode cX5_ensure 21 = .ok (.getfield 18, 3) := by decide +kernel
theorem dX5_ensure_24 : decode cX5_ensure 24 = .ok (.iconst 0, 1) := by decide +kernel
theorem dX5_ensure_25 : decode cX5_ensure 25 = .ok (.invokestatic 36, 3) := by decide +kernel
theorem dX5_ensure_28 : decode cX5_ensure 28 = .ok (.iconst 0, 1) := by decide +kernel
theorem dX5_ensure_29 : decode cX5_ensure 29 = .ok (.istore 4, 2) := by decide +kernel
theorem dX5_ensure_31 : decode cX5_ensure 31 = .ok (.iload 4, 2) := by decide +kernel
theorem dX5_ensure_33 : decode cX5_ensure 33 = .ok (.iload_n 2, 1) := by decide +kernel
theorem dX5_ensure_34 : decode cX5_ensure 34 = .ok (.if_icmp .ge 18, 3) := by decide +kernel
theorem dX5_ensure_37 : decode cX5_ensure 37 = .ok (.aload_n 0, 1) := by decide +kernel
theorem dX5_ensure_38 : decode cX5_ensure 38 = .ok (.getfield 9, 3) := by decide +kernel
theorem dX5_ensure_41 : decode cX5_ensure 41 = .ok (.iload 4, 2) := by decide +kernel
theorem dX5_ensure_43 : decode cX5_ensure 43 = .ok (.iload 4, 2) := by decide +kernel
theorem dX5_ensure_45 : decode cX5_ensure 45 = .ok (.iastore, 1) := by decide +kernel
theorem dX5_ensure_46 : decode cX5_ensure 46 = .ok (.iinc 4 1, 3) := by decide +kernel
theorem dX5_ensure_49 : decode cX5_ensure 49 = .ok (.goto (-18), 3) := by decide +kernel
theorem dX5_ensure_52 : decode cX5_ensure 52 = .ok (.iconst 1, 1) := by decide +kernel
theorem dX5_ensure_53 : decode cX5_ensure 53 = .ok (.istore 4, 2) := by decide +kernel
theorem dX5_ensure_55 : decode cX5_ensure 55 = .ok (.iconst 0, 1) := by decide +kernel
theorem dX5_ensure_56 : decode cX5_ensure 56 = .ok (.istore 5, 2) := by decide +kernel
theorem dX5_ensure_58 : decode cX5_ensure 58 = .ok (.iload 5, 2) := by decide +kernel
theorem dX5_ensure_60 : decode cX5_ensure 60 = .ok (.sipush 720, 3) := by decide +kernel
theorem dX5_ensure_63 : decode cX5_ensure 63 = .ok (.if_icmp .ge 33, 3) := by decide +kernel
theorem dX5_ensure_66 : decode cX5_ensure 66 = .ok (.iload 4, 2) := by decide +kernel
theorem dX5_ensure_68 : decode cX5_ensure 68 = .ok (.ifCond .eq 28, 3) := by decide +kernel
theorem dX5_ensure_71 : decode cX5_ensure 71 = .ok (.aload_n 0, 1) := by decide +kernel
theorem dX5_ensure_72 : decode cX5_ensure 72 = .ok (.aload_n 1, 1) := by decide +kernel
theorem dX5_ensure_73 : decode cX5_ensure 73 = .ok (.iload_n 2, 1) := by decide +kernel
theorem dX5_ensure_74 : decode cX5_ensure 74 = .ok (.aload_n 3, 1) := by decide +kernel
theorem dX5_ensure_75 : decode cX5_ensure 75 = .ok (.invokevirtual 42, 3) := by decide +kernel
theorem dX5_ensure_78 : decode cX5_ensure 78 = .ok (.aload_n 0, 1) := by decide +kernel
theorem dX5_ensure_79 : decode cX5_ensure 79 = .ok (.iload_n 2, 1) := by decide +kernel
theorem dX5_ensure_80 : decode cX5_ensure 80 = .ok (.invokevirtual 46, 3) := by decide +kernel
theorem dX5_ensure_83 : decode cX5_ensure 83 = .ok (.aload_n 0, 1) := by decide +kernel
theorem dX5_ensure_84 : decode cX5_ensure 84 = .ok (.iload_n 2, 1) := by decide +kernel
theorem dX5_ensure_85 : decode cX5_ensure 85 = .ok (.invokevirtual 50, 3) := by decide +kernel
theorem dX5_ensure_88 : decode cX5_ensure 88 = .ok (.istore 4, 2) := by decide +kernel
theorem dX5_ensure_90 : decode cX5_ensure 90 = .ok (.iinc 5 1, 3) := by decide +kernel
theorem dX5_ensure_93 : decode cX5_ensure 93 = .ok (.goto (-35), 3) := by decide +kernel
theorem dX5_ensure_96 : decode cX5_ensure 96 = .ok (.return_, 1) := by decide +kernel
theorem dX5_countUpTo_0 : decode cX5_countUpTo 0 = .ok (.iconst 0, 1) := by decide +kernel
theorem dX5_countUpTo_1 : decode cX5_countUpTo 1 = .ok (.istore_n 2, 1) := by decide +kernel
theorem dX5_countUpTo_2 : decode cX5_countUpTo 2 = .ok (.iconst 0, 1) := by decide +kernel
theorem dX5_countUpTo_3 : decode cX5_countUpTo 3 = .ok (.istore_n 3, 1) := by decide +kernel
theorem dX5_countUpTo_4 : decode cX5_countUpTo 4 = .ok (.iload_n 3, 1) := by decide +kernel
theorem dX5_countUpTo_5 : decode cX5_countUpTo 5 = .ok (.iload_n 1, 1) := by decide +kernel
theorem dX5_countUpTo_6 : decode cX5_countUpTo 6 = .ok (.if_icmp .gt 18, 3) := by decide +kernel
theorem dX5_countUpTo_9 : decode cX5_countUpTo 9 = .ok (.iload_n 2, 1) := by decide +kernel
theorem dX5_countUpTo_10 : decode cX5_countUpTo 10 = .ok (.aload_n 0, 1) := by decide +kernel
theorem dX5_countUpTo_11 : decode cX5_countUpTo 11 = .ok (.getfield 18, 3) := by decide +kernel
theorem dX5_countUpTo_14 : decode cX5_countUpTo 14 = .ok (.iload_n 3, 1) := by decide +kernel
theorem dX5_countUpTo_15 : decode cX5_countUpTo 15 = .ok (.iaload, 1) := by decide +kernel
theorem dX5_countUpTo_16 : decode cX5_countUpTo 16 = .ok (.iadd, 1) := by decide +kernel
theorem dX5_countUpTo_17 : decode cX5_countUpTo 17 = .ok (.istore_n 2, 1) := by decide +kernel
theorem dX5_countUpTo_18 : decode cX5_countUpTo 18 = .ok (.iinc 3 1, 3) := by decide +kernel
theorem dX5_countUpTo_21 : decode cX5_countUpTo 21 = .ok (.goto (-17), 3) := by decide +kernel
theorem dX5_countUpTo_24 : decode cX5_countUpTo 24 = .ok (.iload_n 2, 1) := by decide +kernel
theorem dX5_countUpTo_25 : decode cX5_countUpTo 25 = .ok (.ireturn, 1) := by decide +kernel
theorem dX5_copyBest_0 : decode cX5_copyBest 0 = .ok (.aload_n 0, 1) := by decide +kernel
theorem dX5_copyBest_1 : decode cX5_copyBest 1 = .ok (.getfield 15, 3) := by decide +kernel
theorem dX5_copyBest_4 : decode cX5_copyBest 4 = .ok (.iconst 0, 1) := by decide +kernel
theorem dX5_copyBest_5 : decode cX5_copyBest 5 = .ok (.aload_n 1, 1) := by decide +kernel
theorem dX5_copyBest_6 : decode cX5_copyBest 6 = .ok (.getfield 54, 3) := by decide +kernel
theorem dX5_copyBest_9 : decode cX5_copyBest 9 = .ok (.iconst 0, 1) := by decide +kernel
theorem dX5_copyBest_10 : decode cX5_copyBest 10 = .ok (.aload_n 1, 1) := by decide +kernel
theorem dX5_copyBest_11 : decode cX5_copyBest 11 = .ok (.getfield 59, 3) := by decide +kernel
theorem dX5_copyBest_14 : decode cX5_copyBest 14 = .ok (.invokestatic 62, 3) := by decide +kernel
theorem dX5_copyBest_17 : decode cX5_copyBest 17 = .ok (.return_, 1) := by decide +kernel
theorem dX5_evaluate_0 : decode cX5_evaluate 0 = .ok (.aload_n 3, 1) := by decide +kernel
theorem dX5_evaluate_1 : decode cX5_evaluate 1 = .ok (.aload_n 0, 1) := by decide +kernel
theorem dX5_evaluate_2 : decode cX5_evaluate 2 = .ok (.getfield 9, 3) := by decide +kernel
