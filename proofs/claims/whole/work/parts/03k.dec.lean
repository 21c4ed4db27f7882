theorem dX7_follow_0 : decode cX7_follow 0 = .ok (.aload_n 2, 1) := by decide +kernel
theorem dX7_follow_1 : decode cX7_follow 1 = .ok (.getfield 62, 3) := by decide +kernel
theorem dX7_follow_4 : decode cX7_follow 4 = .ok (.iconst 0, 1) := by decide +kernel
theorem dX7_follow_5 : decode cX7_follow 5 = .ok (.aload_n 0, 1) := by decide +kernel
theorem dX7_follow_6 : decode cX7_follow 6 = .ok (.getfield 18, 3) := by decide +kernel
theorem dX7_follow_9 : decode cX7_follow 9 = .ok (.iload_n 1, 1) := by decide +kernel
theorem dX7_follow_10 : decode cX7_follow 10 = .ok (.iaload, 1) := by decide +kernel
theorem dX7_follow_11 : decode cX7_follow 11 = .ok (.iastore, 1) := by decide +kernel
theorem dX7_follow_12 : decode cX7_follow 12 = .ok (.aload_n 0, 1) := by decide +kernel
theorem dX7_follow_13 : decode cX7_follow 13 = .ok (.getfield 21, 3) := by decide +kernel
theorem dX7_follow_16 : decode cX7_follow 16 = .ok (.iload_n 1, 1) := by decide +kernel
theorem dX7_follow_17 : decode cX7_follow 17 = .ok (.iaload, 1) := by decide +kernel
theorem dX7_follow_18 : decode cX7_follow 18 = .ok (.istore_n 3, 1) := by decide +kernel
theorem dX7_follow_19 : decode cX7_follow 19 = .ok (.iconst 1, 1) := by decide +kernel
theorem dX7_follow_20 : decode cX7_follow 20 = .ok (.istore 4, 2) := by decide +kernel
theorem dX7_follow_22 : decode cX7_follow 22 = .ok (.iload 4, 2) := by decide +kernel
theorem dX7_follow_24 : decode cX7_follow 24 = .ok (.aload_n 2, 1) := by decide +kernel
theorem dX7_follow_25 : decode cX7_follow 25 = .ok (.getfield 28, 3) := by decide +kernel
theorem dX7_follow_28 : decode cX7_follow 28 = .ok (.if_icmp .ge 100, 3) := by decide +kernel
theorem dX7_follow_31 : decode cX7_follow 31 = .ok (.aload_n 2, 1) := by decide +kernel
theorem dX7_follow_32 : decode cX7_follow 32 = .ok (.getfield 62, 3) := by decide +kernel
theorem dX7_follow_35 : decode cX7_follow 35 = .ok (.iload 4, 2) := by decide +kernel
theorem dX7_follow_37 : decode cX7_follow 37 = .ok (.iconst 1, 1) := by decide +kernel
theorem dX7_follow_38 : decode cX7_follow 38 = .ok (.isub, 1) := by decide +kernel
theorem dX7_follow_39 : decode cX7_follow 39 = .ok (.iaload, 1) := by decide +kernel
theorem dX7_follow_40 : decode cX7_follow 40 = .ok (.istore 5, 2) := by decide +kernel
theorem dX7_follow_42 : decode cX7_follow 42 = .ok (.iconst 0, 1) := by decide +kernel
theorem dX7_follow_43 : decode cX7_follow 43 = .ok (.istore 6, 2) := by decide +kernel
theorem dX7_follow_45 : decode cX7_follow 45 = .ok (.iload 6, 2) := by decide +kernel
theorem dX7_follow_47 : decode cX7_follow 47 = .ok (.aload_n 0, 1) := by decide +kernel
theorem dX7_follow_48 : decode cX7_follow 48 = .ok (.getfield 15, 3) := by decide +kernel
theorem dX7_follow_51 : decode cX7_follow 51 = .ok (.iload 4, 2) := by decide +kernel
theorem dX7_follow_53 : decode cX7_follow 53 = .ok (.iaload, 1) := by decide +kernel
theorem dX7_follow_54 : decode cX7_follow 54 = .ok (.if_icmp .ge 68, 3) := by decide +kernel
theorem dX7_follow_57 : decode cX7_follow 57 = .ok (.iload 4, 2) := by decide +kernel
theorem dX7_follow_59 : decode cX7_follow 59 = .ok (.bipush 8, 2) := by decide +kernel
theorem dX7_follow_61 : decode cX7_follow 61 = .ok (.imul, 1) := by decide +kernel
theorem dX7_follow_62 : decode cX7_follow 62 = .ok (.iload 6, 2) := by decide +kernel
theorem dX7_follow_64 : decode cX7_follow 64 = .ok (.iadd, 1) := by decide +kernel
theorem dX7_follow_65 : decode cX7_follow 65 = .ok (.istore 7, 2) := by decide +kernel
theorem dX7_follow_67 : decode cX7_follow 67 = .ok (.iload 5, 2) := by decide +kernel
theorem dX7_follow_69 : decode cX7_follow 69 = .ok (.aload_n 0, 1) := by decide +kernel
theorem dX7_follow_70 : decode cX7_follow 70 = .ok (.getfield 18, 3) := by decide +kernel
theorem dX7_follow_73 : decode cX7_follow 73 = .ok (.iload 7, 2) := by decide +kernel
theorem dX7_follow_75 : decode cX7_follow 75 = .ok (.iaload, 1) := by decide +kernel
theorem dX7_follow_76 : decode cX7_follow 76 = .ok (.invokestatic 51, 3) := by decide +kernel
theorem dX7_follow_79 : decode cX7_follow 79 = .ok (.aload_n 0, 1) := by decide +kernel
theorem dX7_follow_80 : decode cX7_follow 80 = .ok (.getfield 21, 3) := by decide +kernel
theorem dX7_follow_83 : decode cX7_follow 83 = .ok (.iload 7, 2) := by decide +kernel
theorem dX7_follow_85 : decode cX7_follow 85 = .ok (.iaload, 1) := by decide +kernel
theorem dX7_follow_86 : decode cX7_follow 86 = .ok (.iadd, 1) := by decide +kernel
theorem dX7_follow_87 : decode cX7_follow 87 = .ok (.iload_n 3, 1) := by decide +kernel
theorem dX7_follow_88 : decode cX7_follow 88 = .ok (.if_icmp .ne 28, 3) := by decide +kernel
theorem dX7_follow_91 : decode cX7_follow 91 = .ok (.aload_n 2, 1) := by decide +kernel
theorem dX7_follow_92 : decode cX7_follow 92 = .ok (.getfield 62, 3) := by decide +kernel
theorem dX7_follow_95 : decode cX7_follow 95 = .ok (.iload 4, 2) := by decide +kernel
theorem dX7_follow_97 : decode cX7_follow 97 = .ok (.aload_n 0, 1) := by decide +kernel
theorem dX7_follow_98 : decode cX7_follow 98 = .ok (.getfield 18, 3) := by decide +kernel
theorem dX7_follow_101 : decode cX7_follow 101 = .ok (.iload 7, 2) := by decide +kernel
theorem dX7_follow_103 : decode cX7_follow 103 = .ok (.iaload, 1) := by decide +kernel
theorem dX7_follow_104 : decode cX7_follow 104 = .ok (.iastore, 1) := by decide +kernel
theorem dX7_follow_105 : decode cX7_follow 105 = .ok (.aload_n 0, 1) := by decide +kernel
theorem dX7_follow_106 : decode cX7_follow 106 = .ok (.getfield 21, 3) := by decide +kernel
theorem dX7_follow_109 : decode cX7_follow 109 = .ok (.iload 7, 2) := by decide +kernel
theorem dX7_follow_111 : decode cX7_follow 111 = .ok (.iaload, 1) := by decide +kernel
theorem dX7_follow_112 : decode cX7_follow 112 = .ok (.istore_n 3, 1) := by decide +kernel
theorem dX7_follow_113 : decode cX7_follow 113 = .ok (.goto 9, 3) := by decide +kernel
theorem dX7_follow_116 : decode cX7_follow 116 = .ok (.iinc 6 1, 3) := by decide +kernel
theorem dX7_follow_119 : decode cX7_follow 119 = .ok (.goto (-74), 3) := by decide +kernel
theorem dX7_follow_122 : decode cX7_follow 122 = .ok (.iinc 4 1, 3) := by decide +kernel
theorem dX7_follow_125 : decode cX7_follow 125 = .ok (.goto (-103), 3) := by decide +kernel
theorem dX7_follow_128 : decode cX7_follow 128 = .ok (.return_, 1) := by decide +kernel
theorem dX7_step_0 : decode cX7_step 0 = .ok (.iload_n 1, 1) := by decide +kernel
theorem dX7_step_1 : decode cX7_step 1 = .ok (.iconst (-1), 1) := by decide +kernel
theorem dX7_step_2 : decode cX7_step 2 = .ok (.if_icmp .eq 12, 3) := by decide +kernel
theorem dX7_step_5 : decode cX7_step 5 = .ok (.iload_n 1, 1) := by decide +kernel
theorem dX7_step_6 : decode cX7_step 6 = .ok (.iload_n 0, 1) := by decide +kernel
theorem dX7_step_7 : decode cX7_step 7 = .ok (.if_icmp .eq 7, 3) := by decide +kernel
theorem dX7_step_10 : decode cX7_step 10 = .ok (.iconst 1, 1) := by decide +kernel
theorem dX7_step_11 : decode cX7_step 11 = .ok (.goto 4, 3) := by decide +kernel
theorem dX7_step_14 : decode cX7_step 14 = .ok (.iconst 0, 1) := by decide +kernel
theorem dX7_step_15 : decode cX7_step 15 = .ok (.ireturn, 1) := by decide +kernel
theorem dX8_init_0 : decode cX8_init 0 = .ok (.aload_n 0, 1) := by decide +kernel
theorem dX8_init_1 : decode cX8_init 1 = .ok (.invokespecial 3, 3) := by decide +kernel
theorem dX8_init_4 : decode cX8_init 4 = .ok (.aload_n 0, 1) := by decide +kernel
theorem dX8_init_5 : decode cX8_init 5 = .ok (.bipush 81, 2) := by decide +kernel
theorem dX8_init_7 : decode cX8_init 7 = .ok (.newarray .int, 2) := by decide +kernel
theorem dX8_init_9 : decode cX8_init 9 = .ok (.putfield 9, 3) := by decide +kernel
theorem dX8_init_12 : decode cX8_init 12 = .ok (.aload_n 0, 1) := by decide +kernel
theorem dX8_init_13 : decode cX8_init 13 = .ok (.bipush 81, 2) := by decide +kernel
theorem dX8_init_15 : decode cX8_init 15 = .ok (.newarray .int, 2) := by decide +kernel
theorem dX8_init_17 : decode cX8_init 17 = .ok (.putfield 15, 3) := by decide +kernel
theorem dX8_init_20 : decode cX8_init 20 = .ok (.aload_n 0, 1) := by decide +kernel
theorem dX8_init_21 : decode cX8_init 21 = .ok (.sipush 648, 3) := by decide +kernel
theorem dX8_init_24 : decode cX8_init 24 = .ok (.newarray .int, 2) := by decide +kernel
theorem dX8_init_26 : decode cX8_init 26 = .ok (.putfield 18, 3) := by decide +kernel
theorem dX8_init_29 : decode cX8_init 29 = .ok (.aload_n 0, 1) := by decide +kernel
theorem dX8_init_30 : decode cX8_init 30 = .ok (.bipush 81, 2) := by decide +kernel
theorem dX8_init_32 : decode cX8_init 32 = .ok (.newarray .int, 2) := by decide +kernel
theorem dX8_init_34 : decode cX8_init 34 = .ok (.putfield 21, 3) := by decide +kernel
theorem dX8_init_37 : decode cX8_init 37 = .ok (.return_, 1) := by decide +kernel
theorem dX8_measure_0 : decode cX8_measure 0 = .ok (.aload_n 0, 1) := by decide +kernel
theorem dX8_measure_1 : decode cX8_measure 1 = .ok (.aload_n 1, 1) := by decide +kernel
theorem dX8_measure_2 : decode cX8_measure 2 = .ok (.invokevirtual 24, 3) := by decide +kernel
theorem dX8_measure_5 : decode cX8_measure 5 = .ok (.iconst 0, 1) := by decide +kernel
theorem dX8_measure_6 : decode cX8_measure 6 = .ok (.istore_n 2, 1) := by decide +kernel
theorem dX8_measure_7 : decode cX8_measure 7 = .ok (.iload_n 2, 1) := by decide +kernel
theorem dX8_measure_8 : decode cX8_measure 8 = .ok (.aload_n 1, 1) := by decide +kernel
theorem dX8_measure_9 : decode cX8_measure 9 = .ok (.getfield 28, 3) := by decide +kernel
theorem dX8_measure_12 : decode cX8_measure 12 = .ok (.if_icmp .ge 32, 3) := by decide +kernel
theorem dX8_measure_15 : decode cX8_measure 15 = .ok (.iconst 0, 1) := by decide +kernel
theorem dX8_measure_16 : decode cX8_measure 16 = .ok (.istore_n 3, 1) := by decide +kernel
theorem dX8_measure_17 : decode cX8_measure 17 = .ok (.iload_n 3, 1) := by decide +kernel
theorem dX8_measure_18 : decode cX8_measure 18 = .ok (.aload_n 1, 1) := by decide +kernel
theorem dX8_measure_19 : decode cX8_measure 19 = .ok (.getfield 28, 3) := by decide +kernel
theorem dX8_measure_22 : decode cX8_measure 22 = .ok (.if_icmp .ge 16, 3) := by decide +kernel
theorem dX8_measure_25 : decode cX8_measure 25 = .ok (.aload_n 0, 1) := by decide +kernel
theorem dX8_measure_26 : decode cX8_measure 26 = .ok (.aload_n 1, 1) := by decide +kernel
theorem dX8_measure_27 : decode cX8_measure 27 = .ok (.iload_n 2, 1) := by decide +kernel
theorem dX8_measure_28 : decode cX8_measure 28 = .ok (.iload_n 3, 1) := by decide +kernel
theorem dX8_measure_29 : decode cX8_measure 29 = .ok (.invokevirtual 34, 3) := by decide +kernel
theorem dX8_measure_32 : decode cX8_measure 32 = .ok (.iinc 3 1, 3) := by decide +kernel
theorem dX8_measure_35 : decode cX8_measure 35 = .ok (.goto (-18), 3) := by decide +kernel
theorem dX8_measure_38 : decode cX8_measure 38 = .ok (.iinc 2 1, 3) := by decide +kernel
theorem dX8_measure_41 : decode cX8_measure 41 = .ok (.goto (-34), 3) := by decide +kernel
theorem dX8_measure_44 : decode cX8_measure 44 = .ok (.return_, 1) := by decide +kernel
theorem dX8_between_0 : decode cX8_between 0 = .ok (.aload_n 0, 1) := by decide +kernel
theorem dX8_between_1 : decode cX8_between 1 = .ok (.getfield 9, 3) := by decide +kernel
theorem dX8_between_4 : decode cX8_between 4 = .ok (.iload_n 1, 1) := by decide +kernel
theorem dX8_between_5 : decode cX8_between 5 = .ok (.bipush 9, 2) := by decide +kernel
theorem dX8_between_7 : decode cX8_between 7 = .ok (.imul, 1) := by decide +kernel
theorem dX8_between_8 : decode cX8_between 8 = .ok (.iload_n 2, 1) := by decide +kernel
theorem dX8_between_9 : decode cX8_between 9 = .ok (.iadd, 1) := by decide +kernel
theorem dX8_between_10 : decode cX8_between 10 = .ok (.iaload, 1) := by decide +kernel
theorem dX8_between_11 : decode cX8_between 11 = .ok (.ireturn, 1) := by decide +kernel
theorem dX8_good_0 : decode cX8_good 0 = .ok (.aload_n 0, 1) := by decide +kernel
theorem dX8_good_1 : decode cX8_good 1 = .ok (.getfield 15, 3) := by decide +kernel
theorem dX8_good_4 : decode cX8_good 4 = .ok (.iload_n 1, 1) := by decide +kernel
theorem dX8_good_5 : decode cX8_good 5 = .ok (.bipush 9, 2) := by decide +kernel
theorem dX8_good_7 : decode cX8_good 7 = .ok (.imul, 1) := by decide +kernel
theorem dX8_good_8 : decode cX8_good 8 = .ok (.iload_n 2, 1) := by decide +kernel
theorem dX8_good_9 : decode cX8_good 9 = .ok (.iadd, 1) := by decide +kernel
theorem dX8_good_10 : decode cX8_good 10 = .ok (.iaload, 1) := by decide +kernel
theorem dX8_good_11 : decode cX8_good 11 = .ok (.ireturn, 1) := by decide +kernel
theorem dX8_copyChoices_0 : decode cX8_copyChoices 0 = .ok (.iload_n 1, 1) := by decide +kernel
theorem dX8_copyChoices_1 : decode cX8_copyChoices 1 = .ok (.bipush 9, 2) := by decide +kernel
theorem dX8_copyChoices_3 : decode cX8_copyChoices 3 = .ok (.imul, 1) := by decide +kernel
theorem dX8_copyChoices_4 : decode cX8_copyChoices 4 = .ok (.iload_n 2, 1) := by decide +kernel
theorem dX8_copyChoices_5 : decode cX8_copyChoices 5 = .ok (.iadd, 1) := by decide +kernel
theorem dX8_copyChoices_6 : decode cX8_copyChoices 6 = .ok (.istore 5, 2) := by decide +kernel
theorem dX8_copyChoices_8 : decode cX8_copyChoices 8 = .ok (.iconst 0, 1) := by decide +kernel
theorem dX8_copyChoices_9 : decode cX8_copyChoices 9 = .ok (.istore 6, 2) := by decide +kernel
theorem dX8_copyChoices_11 : decode cX8_copyChoices 11 = .ok (.iload 6, 2) := by decide +kernel
theorem dX8_copyChoices_13 : decode cX8_copyChoices 13 = .ok (.aload_n 0, 1) := by decide +kernel
theorem dX8_copyChoices_14 : decode cX8_copyChoices 14 = .ok (.getfield 21, 3) := by decide +kernel
theorem dX8_copyChoices_17 : decode cX8_copyChoices 17 = .ok (.iload 5, 2) := by decide +kernel
theorem dX8_copyChoices_19 : decode cX8_copyChoices 19 = .ok (.iaload, 1) := by decide +kernel
theorem dX8_copyChoices_20 : decode cX8_copyChoices 20 = .ok (.if_icmp .ge 29, 3) := by decide +kernel
theorem dX8_copyChoices_23 : decode cX8_copyChoices 23 = .ok (.aload_n 3, 1) := by decide +kernel
theorem dX8_copyChoices_24 : decode cX8_copyChoices 24 = .ok (.iload 4, 2) := by decide +kernel
theorem dX8_copyChoices_26 : decode cX8_copyChoices 26 = .ok (.iload 6, 2) := by decide +kernel
theorem dX8_copyChoices_28 : decode cX8_copyChoices 28 = .ok (.iadd, 1) := by decide +kernel
theorem dX8_copyChoices_29 : decode cX8_copyChoices 29 = .ok (.aload_n 0, 1) := by decide +kernel
theorem dX8_copyChoices_30 : decode cX8_copyChoices 30 = .ok (.getfield 18, 3) := by decide +kernel
theorem dX8_copyChoices_33 : decode cX8_copyChoices 33 = .ok (.iload 5, 2) := by decide +kernel
theorem dX8_copyChoices_35 : decode cX8_copyChoices 35 = .ok (.bipush 8, 2) := by decide +kernel
theorem dX8_copyChoices_37 : decode cX8_copyChoices 37 = .ok (.imul, 1) := by decide +kernel
theorem dX8_copyChoices_38 : decode cX8_copyChoices 38 = .ok (.iload 6, 2) := by decide +kernel
theorem dX8_copyChoices_40 : decode cX8_copyChoices 40 = .ok (.iadd, 1) := by decide +kernel
theorem dX8_copyChoices_41 : decode cX8_copyChoices 41 = .ok (.iaload, 1) := by decide +kernel
theorem dX8_copyChoices_42 : decode cX8_copyChoices 42 = .ok (.iastore, 1) := by decide +kernel
theorem dX8_copyChoices_43 : decode cX8_copyChoices 43 = .ok (.iinc 6 1, 3) := by decide +kernel
theorem dX8_copyChoices_46 : decode cX8_copyChoices 46 = .ok (.goto (-35), 3) := by decide +kernel
theorem dX8_copyChoices_49 : decode cX8_copyChoices 49 = .ok (.aload_n 0, 1) := by decide +kernel
theorem dX8_copyChoices_50 : decode cX8_copyChoices 50 = .ok (.getfield 21, 3) := by decide +kernel
theorem dX8_copyChoices_53 : decode cX8_copyChoices 53 = .ok (.iload 5, 2) := by decide +kernel
theorem dX8_copyChoices_55 : decode cX8_copyChoices 55 = .ok (.iaload, 1) := by decide +kernel
theorem dX8_copyChoices_56 : decode cX8_copyChoices 56 = .ok (.ireturn, 1) := by decide +kernel
theorem dX8_connected_0 : decode cX8_connected 0 = .ok (.iconst 0, 1) := by decide +kernel
theorem dX8_connected_1 : decode cX8_connected 1 = .ok (.istore_n 2, 1) := by decide +kernel
theorem dX8_connected_2 : decode cX8_connected 2 = .ok (.iload_n 2, 1) := by decide +kernel
theorem dX8_connected_3 : decode cX8_connected 3 = .ok (.iload_n 1, 1) := by decide +kernel
theorem dX8_connected_4 : decode cX8_connected 4 = .ok (.if_icmp .ge 23, 3) := by decide +kernel
theorem dX8_connected_7 : decode cX8_connected 7 = .ok (.aload_n 0, 1) := by decide +kernel
theorem dX8_connected_8 : decode cX8_connected 8 = .ok (.getfield 9, 3) := by decide +kernel
theorem dX8_connected_11 : decode cX8_connected 11 = .ok (.iload_n 2, 1) := by decide +kernel
theorem dX8_connected_12 : decode cX8_connected 12 = .ok (.iaload, 1) := by decide +kernel
theorem dX8_connected_13 : decode cX8_connected 13 = .ok (.sipush 1000, 3) := by decide +kernel
theorem dX8_connected_16 : decode cX8_connected 16 = .ok (.if_icmp .ne 5, 3) := by decide +kernel
theorem dX8_connected_19 : decode cX8_connected 19 = .ok (.iconst 0, 1) := by decide +kernel
theorem dX8_connected_20 : decode cX8_connected 20 = .ok (.ireturn, 1) := by decide +kernel
theorem dX8_connected_21 : decode cX8_connected 21 = .ok (.iinc 2 1, 3) := by decide +kernel
theorem dX8_connected_24 : decode cX8_connected 24 = .ok (.goto (-22), 3) := by decide +kernel
theorem dX8_connected_27 : decode cX8_connected 27 = .ok (.iconst 1, 1) := by decide +kernel
theorem dX8_connected_28 : decode cX8_connected 28 = .ok (.ireturn, 1) := by decide +kernel
theorem dX8_measureDistances_0 : decode cX8_measureDistances 0 = .ok (.aload_n 0, 1) := by decide +kernel
theorem dX8_measureDistances_1 : decode cX8_measureDistances 1 = .ok (.getfield 9, 3) := by decide +kernel
theorem dX8_measureDistances_4 : decode cX8_measureDistances 4 = .ok (.sipush 1000, 3) := by decide +kernel
theorem dX8_measureDistances_7 : decode cX8_measureDistances 7 = .ok (.invokestatic 38, 3) := by decide +kernel
theorem dX8_measureDistances_10 : decode cX8_measureDistances 10 = .ok (.iconst 0, 1) := by decide +kernel
theorem dX8_measureDistances_11 : decode cX8_measureDistances 11 = .ok (.istore_n 2, 1) := by decide +kernel
theorem dX8_measureDistances_12 : decode cX8_measureDistances 12 = .ok (.iload_n 2, 1) := by decide +kernel
theorem dX8_measureDistances_13 : decode cX8_measureDistances 13 = .ok (.aload_n 1, 1) := by decide +kernel
theorem dX8_measureDistances_14 : decode cX8_measureDistances 14 = .ok (.getfield 28, 3) := by decide +kernel
theorem dX8_measureDistances_17 : decode cX8_measureDistances 17 = .ok (.if_icmp .ge 21, 3) := by decide +kernel
theorem dX8_measureDistances_20 : decode cX8_measureDistances 20 = .ok (.aload_n 0, 1) := by decide +kernel
theorem dX8_measureDistances_21 : decode cX8_measureDistances 21 = .ok (.getfield 9, 3) := by decide +kernel
theorem dX8_measureDistances_24 : decode cX8_measureDistances 24 = .ok (.iload_n 2, 1) := by decide +kernel
theorem dX8_measureDistances_25 : decode cX8_measureDistances 25 = .ok (.bipush 9, 2) := by decide +kernel
theorem dX8_measureDistances_27 : decode cX8_measureDistances 27 = .ok (.imul, 1) := by decide +kernel
theorem dX8_measureDistances_28 : decode cX8_measureDistances 28 = .ok (.iload_n 2, 1) := by decide +kernel
theorem dX8_measureDistances_29 : decode cX8_measureDistances 29 = .ok (.iadd, 1) := by decide +kernel
theorem dX8_measureDistances_30 : decode cX8_measureDistances 30 = .ok (.iconst 0, 1) := by decide +kernel
theorem dX8_measureDistances_31 : decode cX8_measureDistances 31 = .ok (.iastore, 1) := by decide +kernel
theorem dX8_measureDistances_32 : decode cX8_measureDistances 32 = .ok (.iinc 2 1, 3) := by decide +kernel
theorem dX8_measureDistances_35 : decode cX8_measureDistances 35 = .ok (.goto (-23), 3) := by decide +kernel
theorem dX8_measureDistances_38 : decode cX8_measureDistances 38 = .ok (.iconst 0, 1) := by decide +kernel
theorem dX8_measureDistances_39 : decode cX8_measureDistances 39 = .ok (.istore_n 2, 1) := by decide +kernel
theorem dX8_measureDistances_40 : decode cX8_measureDistances 40 = .ok (.iload_n 2, 1) := by decide +kernel
theorem dX8_measureDistances_41 : decode cX8_measureDistances 41 = .ok (.aload_n 1, 1) := by decide +kernel
theorem dX8_measureDistances_42 : decode cX8_measureDistances 42 = .ok (.getfield 44, 3) := by decide +kernel
theorem dX8_measureDistances_45 : decode cX8_measureDistances 45 = .ok (.if_icmp .ge 60, 3) := by decide +kernel
theorem dX8_measureDistances_48 : decode cX8_measureDistances 48 = .ok (.aload_n 1, 1) := by decide +kernel
theorem dX8_measureDistances_49 : decode cX8_measureDistances 49 = .ok (.getfield 47, 3) := by decide +kernel
theorem dX8_measureDistances_52 : decode cX8_measureDistances 52 = .ok (.iload_n 2, 1) := by decide +kernel
theorem dX8_measureDistances_53 : decode cX8_measureDistances 53 = .ok (.iaload, 1) := by decide +kernel
theorem dX8_measureDistances_54 : decode cX8_measureDistances 54 = .ok (.istore_n 3, 1) := by decide +kernel
theorem dX8_measureDistances_55 : decode cX8_measureDistances 55 = .ok (.aload_n 1, 1) := by decide +kernel
theorem dX8_measureDistances_56 : decode cX8_measureDistances 56 = .ok (.getfield 50, 3) := by decide +kernel
theorem dX8_measureDistances_59 : decode cX8_measureDistances 59 = .ok (.iload_n 2, 1) := by decide +kernel
theorem dX8_measureDistances_60 : decode cX8_measureDistances 60 = .ok (.iaload, 1) := by decide +kernel
theorem dX8_measureDistances_61 : decode cX8_measureDistances 61 = .ok (.istore 4, 2) := by decide +kernel
theorem dX8_measureDistances_63 : decode cX8_measureDistances 63 = .ok (.aload_n 0, 1) := by decide +kernel
theorem dX8_measureDistances_64 : decode cX8_measureDistances 64 = .ok (.getfield 9, 3) := by decide +kernel
theorem dX8_measureDistances_67 : decode cX8_measureDistances 67 = .ok (.iload_n 3, 1) := by decide +kernel
theorem dX8_measureDistances_68 : decode cX8_measureDistances 68 = .ok (.bipush 9, 2) := by decide +kernel
theorem dX8_measureDistances_70 : decode cX8_measureDistances 70 = .ok (.imul, 1) := by decide +kernel
theorem dX8_measureDistances_71 : decode cX8_measureDistances 71 = .ok (.iload 4, 2) := by decide +kernel
theorem dX8_measureDistances_73 : decode cX8_measureDistances 73 = .ok (.iadd, 1) := by decide +kernel
theorem dX8_measureDistances_74 : decode cX8_measureDistances 74 = .ok (.aload_n 1, 1) := by decide +kernel
theorem dX8_measureDistances_75 : decode cX8_measureDistances 75 = .ok (.getfield 53, 3) := by decide +kernel
theorem dX8_measureDistances_78 : decode cX8_measureDistances 78 = .ok (.iload_n 2, 1) := by decide +kernel
theorem dX8_measureDistances_79 : decode cX8_measureDistances 79 = .ok (.iaload, 1) := by decide +kernel
theorem dX8_measureDistances_80 : decode cX8_measureDistances 80 = .ok (.iastore, 1) := by decide +kernel
theorem dX8_measureDistances_81 : decode cX8_measureDistances 81 = .ok (.aload_n 0, 1) := by decide +kernel
theorem dX8_measureDistances_82 : decode cX8_measureDistances 82 = .ok (.getfield 9, 3) := by decide +kernel
theorem dX8_measureDistances_85 : decode cX8_measureDistances 85 = .ok (.iload 4, 2) := by decide +kernel
theorem dX8_measureDistances_87 : decode cX8_measureDistances 87 = .ok (.bipush 9, 2) := by decide +kernel
theorem dX8_measureDistances_89 : decode cX8_measureDistances 89 = .ok (.imul, 1) := by decide +kernel
theorem dX8_measureDistances_90 : decode cX8_measureDistances 90 = .ok (.iload_n 3, 1) := by decide +kernel
theorem dX8_measureDistances_91 : decode cX8_measureDistances 91 = .ok (.iadd, 1) := by decide +kernel
theorem dX8_measureDistances_92 : decode cX8_measureDistances 92 = .ok (.aload_n 1, 1) := by decide +kernel
theorem dX8_measureDistances_93 : decode cX8_measureDistances 93 = .ok (.getfield 53, 3) := by decide +kernel
theorem dX8_measureDistances_96 : decode cX8_measureDistances 96 = .ok (.iload_n 2, 1) := by decide +kernel
theorem dX8_measureDistances_97 : decode cX8_measureDistances 97 = .ok (.iaload, 1) := by decide +kernel
theorem dX8_measureDistances_98 : decode cX8_measureDistances 98 = .ok (.iastore, 1) := by decide +kernel
theorem dX8_measureDistances_99 : decode cX8_measureDistances 99 = .ok (.iinc 2 1, 3) := by decide +kernel
theorem dX8_measureDistances_102 : decode cX8_measureDistances 102 = .ok (.goto (-62), 3) := by decide +kernel
theorem dX8_measureDistances_105 : decode cX8_measureDistances 105 = .ok (.iconst 0, 1) := by decide +kernel
theorem dX8_measureDistances_106 : decode cX8_measureDistances 106 = .ok (.istore_n 2, 1) := by decide +kernel
theorem dX8_measureDistances_107 : decode cX8_measureDistances 107 = .ok (.iload_n 2, 1) := by decide +kernel
theorem dX8_measureDistances_108 : decode cX8_measureDistances 108 = .ok (.aload_n 1, 1) := by decide +kernel
theorem dX8_measureDistances_109 : decode cX8_measureDistances 109 = .ok (.getfield 28, 3) := by decide +kernel
theorem dX8_measureDistances_112 : decode cX8_measureDistances 112 = .ok (.if_icmp .ge 18, 3) := by decide +kernel
theorem dX8_measureDistances_115 : decode cX8_measureDistances 115 = .ok (.aload_n 0, 1) := by decide +kernel
theorem dX8_measureDistances_116 : decode cX8_measureDistances 116 = .ok (.iload_n 2, 1) := by decide +kernel
theorem dX8_measureDistances_117 : decode cX8_measureDistances 117 = .ok (.aload_n 1, 1) := by decide +kernel
theorem dX8_measureDistances_118 : decode cX8_measureDistances 118 = .ok (.getfield 28, 3) := by decide +kernel
theorem dX8_measureDistances_121 : decode cX8_measureDistances 121 = .ok (.invokevirtual 56, 3) := by decide +kernel
theorem dX8_measureDistances_124 : decode cX8_measureDistances 124 = .ok (.iinc 2 1, 3) := by decide +kernel
theorem dX8_measureDistances_127 : decode cX8_measureDistances 127 = .ok (.goto (-20), 3) := by decide +kernel
theorem dX8_measureDistances_130 : decode cX8_measureDistances 130 = .ok (.return_, 1) := by decide +kernel
theorem dX8_shortenOver_0 : decode cX8_shortenOver 0 = .ok (.iconst 0, 1) := by decide +kernel
theorem dX8_shortenOver_1 : decode cX8_shortenOver 1 = .ok (.istore_n 3, 1) := by decide +kernel
theorem dX8_shortenOver_2 : decode cX8_shortenOver 2 = .ok (.iload_n 3, 1) := by decide +kernel
theorem dX8_shortenOver_3 : decode cX8_shortenOver 3 = .ok (.iload_n 2, 1) := by decide +kernel
theorem dX8_shortenOver_4 : decode cX8_shortenOver 4 = .ok (.if_icmp .ge 66, 3) := by decide +kernel
theorem dX8_shortenOver_7 : decode cX8_shortenOver 7 = .ok (.iconst 0, 1) := by decide +kernel
theorem dX8_shortenOver_8 : decode cX8_shortenOver 8 = .ok (.istore 4, 2) := by decide +kernel
theorem dX8_shortenOver_10 : decode cX8_shortenOver 10 = .ok (.iload 4, 2) := by decide +kernel
theorem dX8_shortenOver_12 : decode cX8_shortenOver 12 = .ok (.iload_n 2, 1) := by decide +kernel
theorem dX8_shortenOver_13 : decode cX8_shortenOver 13 = .ok (.if_icmp .ge 51, 3) := by decide +kernel
theorem dX8_shortenOver_16 : decode cX8_shortenOver 16 = .ok (.aload_n 0, 1) := by decide +kernel
theorem dX8_shortenOver_17 : decode cX8_shortenOver 17 = .ok (.iload_n 3, 1) := by decide +kernel
theorem dX8_shortenOver_18 : decode cX8_shortenOver 18 = .ok (.iload_n 1, 1) := by decide +kernel
theorem dX8_shortenOver_19 : decode cX8_shortenOver 19 = .ok (.invokevirtual 60, 3) := by decide +kernel
theorem dX8_shortenOver_22 : decode cX8_shortenOver 22 = .ok (.aload_n 0, 1) := by decide +kernel
theorem dX8_shortenOver_23 : decode cX8_shortenOver 23 = .ok (.iload_n 1, 1) := by decide +kernel
theorem dX8_shortenOver_24 : decode cX8_shortenOver 24 = .ok (.iload 4, 2) := by decide +kernel
theorem dX8_shortenOver_26 : decode cX8_shortenOver 26 = .ok (.invokevirtual 60, 3) := by decide +kernel
theorem dX8_shortenOver_29 : decode cX8_shortenOver 29 = .ok (.iadd, 1) := by decide +kernel
theorem dX8_shortenOver_30 : decode cX8_shortenOver 30 = .ok (.istore 5, 2) := by decide +kernel
theorem dX8_shortenOver_32 : decode cX8_shortenOver 32 = .ok (.iload 5, 2) := by decide +kernel
theorem dX8_shortenOver_34 : decode cX8_shortenOver 34 = .ok (.aload_n 0, 1) := by decide +kernel
theorem dX8_shortenOver_35 : decode cX8_shortenOver 35 = .ok (.iload_n 3, 1) := by decide +kernel
theorem dX8_shortenOver_36 : decode cX8_shortenOver 36 = .ok (.iload 4, 2) := by decide +kernel
theorem dX8_shortenOver_38 : decode cX8_shortenOver 38 = .ok (.invokevirtual 60, 3) := by decide +kernel
theorem dX8_shortenOver_41 : decode cX8_shortenOver 41 = .ok (.if_icmp .ge 17, 3) := by decide +kernel
theorem dX8_shortenOver_44 : decode cX8_shortenOver 44 = .ok (.aload_n 0, 1) := by decide +kernel
theorem dX8_shortenOver_45 : decode cX8_shortenOver 45 = .ok (.getfield 9, 3) := by decide +kernel
theorem dX8_shortenOver_48 : decode cX8_shortenOver 48 = .ok (.iload_n 3, 1) := by decide +kernel
theorem dX8_shortenOver_49 : decode cX8_shortenOver 49 = .ok (.bipush 9, 2) := by decide +kernel
theorem dX8_shortenOver_51 : decode cX8_shortenOver 51 = .ok (.imul, 1) := by decide +kernel
theorem dX8_shortenOver_52 : decode cX8_shortenOver 52 = .ok (.iload 4, 2) := by decide +kernel
theorem dX8_shortenOver_54 : decode cX8_shortenOver 54 = .ok (.iadd, 1) := by decide +kernel
theorem dX8_shortenOver_55 : decode cX8_shortenOver 55 = .ok (.iload 5, 2) := by decide +kernel
theorem dX8_shortenOver_57 : decode cX8_shortenOver 57 = .ok (.iastore, 1) := by decide +kernel
theorem dX8_shortenOver_58 : decode cX8_shortenOver 58 = .ok (.iinc 4 1, 3) := by decide +kernel
theorem dX8_shortenOver_61 : decode cX8_shortenOver 61 = .ok (.goto (-51), 3) := by decide +kernel
theorem dX8_shortenOver_64 : decode cX8_shortenOver 64 = .ok (.iinc 3 1, 3) := by decide +kernel
theorem dX8_shortenOver_67 : decode cX8_shortenOver 67 = .ok (.goto (-65), 3) := by decide +kernel
theorem dX8_shortenOver_70 : decode cX8_shortenOver 70 = .ok (.return_, 1) := by decide +kernel
theorem dX8_findGoodLinks_0 : decode cX8_findGoodLinks 0 = .ok (.iload_n 2, 1) := by decide +kernel
theorem dX8_findGoodLinks_1 : decode cX8_findGoodLinks 1 = .ok (.bipush 9, 2) := by decide +kernel
theorem dX8_findGoodLinks_3 : decode cX8_findGoodLinks 3 = .ok (.imul, 1) := by decide +kernel
theorem dX8_findGoodLinks_4 : decode cX8_findGoodLinks 4 = .ok (.iload_n 3, 1) := by decide +kernel
theorem dX8_findGoodLinks_5 : decode cX8_findGoodLinks 5 = .ok (.iadd, 1) := by decide +kernel
theorem dX8_findGoodLinks_6 : decode cX8_findGoodLinks 6 = .ok (.istore 4, 2) := by decide +kernel
theorem dX8_findGoodLinks_8 : decode cX8_findGoodLinks 8 = .ok (.iconst 0, 1) := by decide +kernel
theorem dX8_findGoodLinks_9 : decode cX8_findGoodLinks 9 = .ok (.istore 5, 2) := by decide +kernel
theorem dX8_findGoodLinks_11 : decode cX8_findGoodLinks 11 = .ok (.iconst 0, 1) := by decide +kernel
theorem dX8_findGoodLinks_12 : decode cX8_findGoodLinks 12 = .ok (.istore 6, 2) := by decide +kernel
theorem dX8_findGoodLinks_14 : decode cX8_findGoodLinks 14 = .ok (.iconst 0, 1) := by decide +kernel
theorem dX8_findGoodLinks_15 : decode cX8_findGoodLinks 15 = .ok (.istore 7, 2) := by decide +kernel
theorem dX8_findGoodLinks_17 : decode cX8_findGoodLinks 17 = .ok (.iload 7, 2) := by decide +kernel
theorem dX8_findGoodLinks_19 : decode cX8_findGoodLinks 19 = .ok (.aload_n 1, 1) := by decide +kernel
theorem dX8_findGoodLinks_20 : decode cX8_findGoodLinks 20 = .ok (.getfield 44, 3) := by decide +kernel
theorem dX8_findGoodLinks_23 : decode cX8_findGoodLinks 23 = .ok (.if_icmp .ge 55, 3) := by decide +kernel
theorem dX8_findGoodLinks_26 : decode cX8_findGoodLinks 26 = .ok (.iload 6, 2) := by decide +kernel
theorem dX8_findGoodLinks_28 : decode cX8_findGoodLinks 28 = .ok (.bipush 8, 2) := by decide +kernel
theorem dX8_findGoodLinks_30 : decode cX8_findGoodLinks 30 = .ok (.if_icmp .ge 48, 3) := by decide +kernel
theorem dX8_findGoodLinks_33 : decode cX8_findGoodLinks 33 = .ok (.aload_n 0, 1) := by decide +kernel
theorem dX8_findGoodLinks_34 : decode cX8_findGoodLinks 34 = .ok (.aload_n 1, 1) := by decide +kernel
theorem dX8_findGoodLinks_35 : decode cX8_findGoodLinks 35 = .ok (.iload 7, 2) := by decide +kernel
theorem dX8_findGoodLinks_37 : decode cX8_findGoodLinks 37 = .ok (.iload_n 2, 1) := by decide +kernel
theorem dX8_findGoodLinks_38 : decode cX8_findGoodLinks 38 = .ok (.iload_n 3, 1) := by decide +kernel
theorem dX8_findGoodLinks_39 : decode cX8_findGoodLinks 39 = .ok (.invokevirtual 64, 3) := by decide +kernel
theorem dX8_findGoodLinks_42 : decode cX8_findGoodLinks 42 = .ok (.ifCond .eq 30, 3) := by decide +kernel
theorem dX8_findGoodLinks_45 : decode cX8_findGoodLinks 45 = .ok (.iload 5, 2) := by decide +kernel
theorem dX8_findGoodLinks_47 : decode cX8_findGoodLinks 47 = .ok (.iconst 1, 1) := by decide +kernel
theorem dX8_findGoodLinks_48 : decode cX8_findGoodLinks 48 = .ok (.iload 7, 2) := by decide +kernel
theorem dX8_findGoodLinks_50 : decode cX8_findGoodLinks 50 = .ok (.ishl, 1) := by decide +kernel
theorem dX8_findGoodLinks_51 : decode cX8_findGoodLinks 51 = .ok (.ior, 1) := by decide +kernel
theorem dX8_findGoodLinks_52 : decode cX8_findGoodLinks 52 = .ok (.istore 5, 2) := by decide +kernel
theorem dX8_findGoodLinks_54 : decode cX8_findGoodLinks 54 = .ok (.aload_n 0, 1) := by decide +kernel
theorem dX8_findGoodLinks_55 : decode cX8_findGoodLinks 55 = .ok (.getfield 18, 3) := by decide +kernel
theorem dX8_findGoodLinks_58 : decode cX8_findGoodLinks 58 = .ok (.iload 4, 2) := by decide +kernel
theorem dX8_findGoodLinks_60 : decode cX8_findGoodLinks 60 = .ok (.bipush 8, 2) := by decide +kernel
theorem dX8_findGoodLinks_62 : decode cX8_findGoodLinks 62 = .ok (.imul, 1) := by decide +kernel
theorem dX8_findGoodLinks_63 : decode cX8_findGoodLinks 63 = .ok (.iload 6, 2) := by decide +kernel
theorem dX8_findGoodLinks_65 : decode cX8_findGoodLinks 65 = .ok (.iadd, 1) := by decide +kernel
theorem dX8_findGoodLinks_66 : decode cX8_findGoodLinks 66 = .ok (.iload 7, 2) := by decide +kernel
theorem dX8_findGoodLinks_68 : decode cX8_findGoodLinks 68 = .ok (.iastore, 1) := by decide +kernel
theorem dX8_findGoodLinks_69 : decode cX8_findGoodLinks 69 = .ok (.iinc 6 1, 3) := by decide +kernel
theorem dX8_findGoodLinks_72 : decode cX8_findGoodLinks 72 = .ok (.iinc 7 1, 3) := by decide +kernel
theorem dX8_findGoodLinks_75 : decode cX8_findGoodLinks 75 = .ok (.goto (-58), 3) := by decide +kernel
theorem dX8_findGoodLinks_78 : decode cX8_findGoodLinks 78 = .ok (.iload 6, 2) := by decide +kernel
theorem dX8_findGoodLinks_80 : decode cX8_findGoodLinks 80 = .ok (.ifCond .ne 17, 3) := by decide +kernel
theorem dX8_findGoodLinks_83 : decode cX8_findGoodLinks 83 = .ok (.aload_n 0, 1) := by decide +kernel
theorem dX8_findGoodLinks_84 : decode cX8_findGoodLinks 84 = .ok (.getfield 18, 3) := by decide +kernel
theorem dX8_findGoodLinks_87 : decode cX8_findGoodLinks 87 = .ok (.iload 4, 2) := by decide +kernel
theorem dX8_findGoodLinks_89 : decode cX8_findGoodLinks 89 = .ok (.bipush 8, 2) := by decide +kernel
theorem dX8_findGoodLinks_91 : decode cX8_findGoodLinks 91 = .ok (.imul, 1) := by decide +kernel
theorem dX8_findGoodLinks_92 : decode cX8_findGoodLinks 92 = .ok (.iconst (-1), 1) := by decide +kernel
theorem dX8_findGoodLinks_93 : decode cX8_findGoodLinks 93 = .ok (.iastore, 1) := by decide +kernel
theorem dX8_findGoodLinks_94 : decode cX8_findGoodLinks 94 = .ok (.iconst 1, 1) := by decide +kernel
theorem dX8_findGoodLinks_95 : decode cX8_findGoodLinks 95 = .ok (.istore 6, 2) := by decide +kernel
theorem dX8_findGoodLinks_97 : decode cX8_findGoodLinks 97 = .ok (.aload_n 0, 1) := by decide +kernel
theorem dX8_findGoodLinks_98 : decode cX8_findGoodLinks 98 = .ok (.getfield 15, 3) := by decide +kernel
theorem dX8_findGoodLinks_101 : decode cX8_findGoodLinks 101 = .ok (.iload 4, 2) := by decide +kernel
theorem dX8_findGoodLinks_103 : decode cX8_findGoodLinks 103 = .ok (.iload 5, 2) := by decide +kernel
theorem dX8_findGoodLinks_105 : decode cX8_findGoodLinks 105 = .ok (.iastore, 1) := by decide +kernel
theorem dX8_findGoodLinks_106 : decode cX8_findGoodLinks 106 = .ok (.aload_n 0, 1) := by decide +kernel
theorem dX8_findGoodLinks_107 : decode cX8_findGoodLinks 107 = .ok (.getfield 21, 3) := by decide +kernel
theorem dX8_findGoodLinks_110 : decode cX8_findGoodLinks 110 = .ok (.iload 4, 2) := by decide +kernel
theorem dX8_findGoodLinks_112 : decode cX8_findGoodLinks 112 = .ok (.iload 6, 2) := by decide +kernel
theorem dX8_findGoodLinks_114 : decode cX8_findGoodLinks 114 = .ok (.iastore, 1) := by decide +kernel
theorem dX8_findGoodLinks_115 : decode cX8_findGoodLinks 115 = .ok (.return_, 1) := by decide +kernel
theorem dX8_begins_0 : decode cX8_begins 0 = .ok (.aload_n 1, 1) := by decide +kernel
theorem dX8_begins_1 : decode cX8_begins 1 = .ok (.iload_n 2, 1) := by decide +kernel
theorem dX8_begins_2 : decode cX8_begins 2 = .ok (.iload_n 3, 1) := by decide +kernel
theorem dX8_begins_3 : decode cX8_begins 3 = .ok (.invokevirtual 68, 3) := by decide +kernel
theorem dX8_begins_6 : decode cX8_begins 6 = .ok (.ifCond .eq 36, 3) := by decide +kernel
theorem dX8_begins_9 : decode cX8_begins 9 = .ok (.aload_n 1, 1) := by decide +kernel
theorem dX8_begins_10 : decode cX8_begins 10 = .ok (.getfield 53, 3) := by decide +kernel
theorem dX8_begins_13 : decode cX8_begins 13 = .ok (.iload_n 2, 1) := by decide +kernel
theorem dX8_begins_14 : decode cX8_begins 14 = .ok (.iaload, 1) := by decide +kernel
theorem dX8_begins_15 : decode cX8_begins 15 = .ok (.aload_n 0, 1) := by decide +kernel
theorem dX8_begins_16 : decode cX8_begins 16 = .ok (.aload_n 1, 1) := by decide +kernel
theorem dX8_begins_17 : decode cX8_begins 17 = .ok (.iload_n 2, 1) := by decide +kernel
theorem dX8_begins_18 : decode cX8_begins 18 = .ok (.iload_n 3, 1) := by decide +kernel
theorem dX8_begins_19 : decode cX8_begins 19 = .ok (.invokevirtual 72, 3) := by decide +kernel
theorem dX8_begins_22 : decode cX8_begins 22 = .ok (.iload 4, 2) := by decide +kernel
theorem dX8_begins_24 : decode cX8_begins 24 = .ok (.invokevirtual 60, 3) := by decide +kernel
theorem dX8_begins_27 : decode cX8_begins 27 = .ok (.iadd, 1) := by decide +kernel
theorem dX8_begins_28 : decode cX8_begins 28 = .ok (.aload_n 0, 1) := by decide +kernel
theorem dX8_begins_29 : decode cX8_begins 29 = .ok (.iload_n 3, 1) := by decide +kernel
theorem dX8_begins_30 : decode cX8_begins 30 = .ok (.iload 4, 2) := by decide +kernel
theorem dX8_begins_32 : decode cX8_begins 32 = .ok (.invokevirtual 60, 3) := by decide +kernel
theorem dX8_begins_35 : decode cX8_begins 35 = .ok (.if_icmp .ne 7, 3) := by decide +kernel
theorem dX8_begins_38 : decode cX8_begins 38 = .ok (.iconst 1, 1) := by decide +kernel
theorem dX8_begins_39 : decode cX8_begins 39 = .ok (.goto 4, 3) := by decide +kernel
theorem dX8_begins_42 : decode cX8_begins 42 = .ok (.iconst 0, 1) := by decide +kernel
theorem dX8_begins_43 : decode cX8_begins 43 = .ok (.ireturn, 1) := by decide +kernel
theorem dJ9_max_7cf53_0 : decode cJ9_max_7cf53 0 = .ok (.iload_n 0, 1) := by decide +kernel
theorem dJ9_max_7cf53_1 : decode cJ9_max_7cf53 1 = .ok (.iload_n 1, 1) := by decide +kernel
theorem dJ9_max_7cf53_2 : decode cJ9_max_7cf53 2 = .ok (.if_icmp .lt 7, 3) := by decide +kernel
theorem dJ9_max_7cf53_5 : decode cJ9_max_7cf53 5 = .ok (.iload_n 0, 1) := by decide +kernel
theorem dJ9_max_7cf53_6 : decode cJ9_max_7cf53 6 = .ok (.goto 4, 3) := by decide +kernel
theorem dJ9_max_7cf53_9 : decode cJ9_max_7cf53 9 = .ok (.iload_n 1, 1) := by decide +kernel
theorem dJ9_max_7cf53_10 : decode cJ9_max_7cf53 10 = .ok (.ireturn, 1) := by decide +kernel
theorem dJ9_min_7cf53_0 : decode cJ9_min_7cf53 0 = .ok (.iload_n 0, 1) := by decide +kernel
theorem dJ9_min_7cf53_1 : decode cJ9_min_7cf53 1 = .ok (.iload_n 1, 1) := by decide +kernel
theorem dJ9_min_7cf53_2 : decode cJ9_min_7cf53 2 = .ok (.if_icmp .gt 7, 3) := by decide +kernel
theorem dJ9_min_7cf53_5 : decode cJ9_min_7cf53 5 = .ok (.iload_n 0, 1) := by decide +kernel
theorem dJ9_min_7cf53_6 : decode cJ9_min_7cf53 6 = .ok (.goto 4, 3) := by decide +kernel
theorem dJ9_min_7cf53_9 : decode cJ9_min_7cf53 9 = .ok (.iload_n 1, 1) := by decide +kernel
theorem dJ9_min_7cf53_10 : decode cJ9_min_7cf53 10 = .ok (.ireturn, 1) := by decide +kernel
theorem dJ7_fill_53178_0 : decode cJ7_fill_53178 0 = .ok (.iconst 0, 1) := by decide +kernel
theorem dJ7_fill_53178_1 : decode cJ7_fill_53178 1 = .ok (.istore_n 2, 1) := by decide +kernel
theorem dJ7_fill_53178_2 : decode cJ7_fill_53178 2 = .ok (.aload_n 0, 1) := by decide +kernel
theorem dJ7_fill_53178_3 : decode cJ7_fill_53178 3 = .ok (.arraylength, 1) := by decide +kernel
theorem dJ7_fill_53178_4 : decode cJ7_fill_53178 4 = .ok (.istore_n 3, 1) := by decide +kernel
theorem dJ7_fill_53178_5 : decode cJ7_fill_53178 5 = .ok (.iload_n 2, 1) := by decide +kernel
theorem dJ7_fill_53178_6 : decode cJ7_fill_53178 6 = .ok (.iload_n 3, 1) := by decide +kernel
theorem dJ7_fill_53178_7 : decode cJ7_fill_53178 7 = .ok (.if_icmp .ge 13, 3) := by decide +kernel
theorem dJ7_fill_53178_10 : decode cJ7_fill_53178 10 = .ok (.aload_n 0, 1) := by decide +kernel
theorem dJ7_fill_53178_11 : decode cJ7_fill_53178 11 = .ok (.iload_n 2, 1) := by decide +kernel
theorem dJ7_fill_53178_12 : decode cJ7_fill_53178 12 = .ok (.iload_n 1, 1) := by decide +kernel
theorem dJ7_fill_53178_13 : decode cJ7_fill_53178 13 = .ok (.iastore, 1) := by decide +kernel
theorem dJ7_fill_53178_14 : decode cJ7_fill_53178 14 = .ok (.iinc 2 1, 3) := by decide +kernel
theorem dJ7_fill_53178_17 : decode cJ7_fill_53178 17 = .ok (.goto (-12), 3) := by decide +kernel
theorem dJ7_fill_53178_20 : decode cJ7_fill_53178 20 = .ok (.return_, 1) := by decide +kernel
