theorem dX5_evaluate_5 : decode cX5_evaluate 5 = .ok (.iload_n 2, 1) := by decide +kernel
theorem dX5_evaluate_6 : decode cX5_evaluate 6 = .ok (.invokevirtual 68, 3) := by decide +kernel
theorem dX5_evaluate_9 : decode cX5_evaluate 9 = .ok (.aload_n 0, 1) := by decide +kernel
theorem dX5_evaluate_10 : decode cX5_evaluate 10 = .ok (.iconst 0, 1) := by decide +kernel
theorem dX5_evaluate_11 : decode cX5_evaluate 11 = .ok (.putfield 73, 3) := by decide +kernel
theorem dX5_evaluate_14 : decode cX5_evaluate 14 = .ok (.aload_n 0, 1) := by decide +kernel
theorem dX5_evaluate_15 : decode cX5_evaluate 15 = .ok (.iconst 0, 1) := by decide +kernel
theorem dX5_evaluate_16 : decode cX5_evaluate 16 = .ok (.putfield 76, 3) := by decide +kernel
theorem dX5_evaluate_19 : decode cX5_evaluate 19 = .ok (.iconst 0, 1) := by decide +kernel
theorem dX5_evaluate_20 : decode cX5_evaluate 20 = .ok (.istore 4, 2) := by decide +kernel
theorem dX5_evaluate_22 : decode cX5_evaluate 22 = .ok (.iload 4, 2) := by decide +kernel
theorem dX5_evaluate_24 : decode cX5_evaluate 24 = .ok (.iload_n 2, 1) := by decide +kernel
theorem dX5_evaluate_25 : decode cX5_evaluate 25 = .ok (.if_icmp .ge 61, 3) := by decide +kernel
theorem dX5_evaluate_28 : decode cX5_evaluate 28 = .ok (.aload_n 3, 1) := by decide +kernel
theorem dX5_evaluate_29 : decode cX5_evaluate 29 = .ok (.aload_n 1, 1) := by decide +kernel
theorem dX5_evaluate_30 : decode cX5_evaluate 30 = .ok (.iload 4, 2) := by decide +kernel
theorem dX5_evaluate_32 : decode cX5_evaluate 32 = .ok (.aload_n 0, 1) := by decide +kernel
theorem dX5_evaluate_33 : decode cX5_evaluate 33 = .ok (.getfield 9, 3) := by decide +kernel
theorem dX5_evaluate_36 : decode cX5_evaluate 36 = .ok (.iload 4, 2) := by decide +kernel
theorem dX5_evaluate_38 : decode cX5_evaluate 38 = .ok (.iaload, 1) := by decide +kernel
theorem dX5_evaluate_39 : decode cX5_evaluate 39 = .ok (.aload_n 0, 1) := by decide +kernel
theorem dX5_evaluate_40 : decode cX5_evaluate 40 = .ok (.getfield 24, 3) := by decide +kernel
theorem dX5_evaluate_43 : decode cX5_evaluate 43 = .ok (.invokevirtual 79, 3) := by decide +kernel
theorem dX5_evaluate_46 : decode cX5_evaluate 46 = .ok (.aload_n 0, 1) := by decide +kernel
theorem dX5_evaluate_47 : decode cX5_evaluate 47 = .ok (.aload_n 0, 1) := by decide +kernel
theorem dX5_evaluate_48 : decode cX5_evaluate 48 = .ok (.getfield 73, 3) := by decide +kernel
theorem dX5_evaluate_51 : decode cX5_evaluate 51 = .ok (.aload_n 0, 1) := by decide +kernel
theorem dX5_evaluate_52 : decode cX5_evaluate 52 = .ok (.getfield 24, 3) := by decide +kernel
theorem dX5_evaluate_55 : decode cX5_evaluate 55 = .ok (.invokevirtual 82, 3) := by decide +kernel
theorem dX5_evaluate_58 : decode cX5_evaluate 58 = .ok (.invokestatic 86, 3) := by decide +kernel
theorem dX5_evaluate_61 : decode cX5_evaluate 61 = .ok (.putfield 73, 3) := by decide +kernel
theorem dX5_evaluate_64 : decode cX5_evaluate 64 = .ok (.aload_n 0, 1) := by decide +kernel
theorem dX5_evaluate_65 : decode cX5_evaluate 65 = .ok (.dup, 1) := by decide +kernel
theorem dX5_evaluate_66 : decode cX5_evaluate 66 = .ok (.getfield 76, 3) := by decide +kernel
theorem dX5_evaluate_69 : decode cX5_evaluate 69 = .ok (.aload_n 0, 1) := by decide +kernel
theorem dX5_evaluate_70 : decode cX5_evaluate 70 = .ok (.getfield 24, 3) := by decide +kernel
theorem dX5_evaluate_73 : decode cX5_evaluate 73 = .ok (.invokevirtual 92, 3) := by decide +kernel
theorem dX5_evaluate_76 : decode cX5_evaluate 76 = .ok (.iadd, 1) := by decide +kernel
theorem dX5_evaluate_77 : decode cX5_evaluate 77 = .ok (.putfield 76, 3) := by decide +kernel
theorem dX5_evaluate_80 : decode cX5_evaluate 80 = .ok (.iinc 4 1, 3) := by decide +kernel
theorem dX5_evaluate_83 : decode cX5_evaluate 83 = .ok (.goto (-61), 3) := by decide +kernel
theorem dX5_evaluate_86 : decode cX5_evaluate 86 = .ok (.return_, 1) := by decide +kernel
theorem dX5_note_0 : decode cX5_note 0 = .ok (.aload_n 0, 1) := by decide +kernel
theorem dX5_note_1 : decode cX5_note 1 = .ok (.getfield 73, 3) := by decide +kernel
theorem dX5_note_4 : decode cX5_note 4 = .ok (.bipush 9, 2) := by decide +kernel
theorem dX5_note_6 : decode cX5_note 6 = .ok (.if_icmp .gt 16, 3) := by decide +kernel
theorem dX5_note_9 : decode cX5_note 9 = .ok (.aload_n 0, 1) := by decide +kernel
theorem dX5_note_10 : decode cX5_note 10 = .ok (.getfield 18, 3) := by decide +kernel
theorem dX5_note_13 : decode cX5_note 13 = .ok (.aload_n 0, 1) := by decide +kernel
theorem dX5_note_14 : decode cX5_note 14 = .ok (.getfield 73, 3) := by decide +kernel
theorem dX5_note_17 : decode cX5_note 17 = .ok (.dup2, 1) := by decide +kernel
theorem dX5_note_18 : decode cX5_note 18 = .ok (.iaload, 1) := by decide +kernel
theorem dX5_note_19 : decode cX5_note 19 = .ok (.iconst 1, 1) := by decide +kernel
theorem dX5_note_20 : decode cX5_note 20 = .ok (.iadd, 1) := by decide +kernel
theorem dX5_note_21 : decode cX5_note 21 = .ok (.iastore, 1) := by decide +kernel
theorem dX5_note_22 : decode cX5_note 22 = .ok (.aload_n 0, 1) := by decide +kernel
theorem dX5_note_23 : decode cX5_note 23 = .ok (.getfield 73, 3) := by decide +kernel
theorem dX5_note_26 : decode cX5_note 26 = .ok (.aload_n 0, 1) := by decide +kernel
theorem dX5_note_27 : decode cX5_note 27 = .ok (.getfield 32, 3) := by decide +kernel
theorem dX5_note_30 : decode cX5_note 30 = .ok (.if_icmp .lt 25, 3) := by decide +kernel
theorem dX5_note_33 : decode cX5_note 33 = .ok (.aload_n 0, 1) := by decide +kernel
theorem dX5_note_34 : decode cX5_note 34 = .ok (.getfield 73, 3) := by decide +kernel
theorem dX5_note_37 : decode cX5_note 37 = .ok (.aload_n 0, 1) := by decide +kernel
theorem dX5_note_38 : decode cX5_note 38 = .ok (.getfield 32, 3) := by decide +kernel
theorem dX5_note_41 : decode cX5_note 41 = .ok (.if_icmp .ne 18, 3) := by decide +kernel
theorem dX5_note_44 : decode cX5_note 44 = .ok (.aload_n 0, 1) := by decide +kernel
theorem dX5_note_45 : decode cX5_note 45 = .ok (.getfield 76, 3) := by decide +kernel
theorem dX5_note_48 : decode cX5_note 48 = .ok (.aload_n 0, 1) := by decide +kernel
theorem dX5_note_49 : decode cX5_note 49 = .ok (.getfield 95, 3) := by decide +kernel
theorem dX5_note_52 : decode cX5_note 52 = .ok (.if_icmp .ge 7, 3) := by decide +kernel
theorem dX5_note_55 : decode cX5_note 55 = .ok (.iconst 1, 1) := by decide +kernel
theorem dX5_note_56 : decode cX5_note 56 = .ok (.goto 4, 3) := by decide +kernel
theorem dX5_note_59 : decode cX5_note 59 = .ok (.iconst 0, 1) := by decide +kernel
theorem dX5_note_60 : decode cX5_note 60 = .ok (.istore_n 2, 1) := by decide +kernel
theorem dX5_note_61 : decode cX5_note 61 = .ok (.iload_n 2, 1) := by decide +kernel
theorem dX5_note_62 : decode cX5_note 62 = .ok (.ifCond .eq 33, 3) := by decide +kernel
theorem dX5_note_65 : decode cX5_note 65 = .ok (.aload_n 0, 1) := by decide +kernel
theorem dX5_note_66 : decode cX5_note 66 = .ok (.aload_n 0, 1) := by decide +kernel
theorem dX5_note_67 : decode cX5_note 67 = .ok (.getfield 73, 3) := by decide +kernel
theorem dX5_note_70 : decode cX5_note 70 = .ok (.putfield 32, 3) := by decide +kernel
theorem dX5_note_73 : decode cX5_note 73 = .ok (.aload_n 0, 1) := by decide +kernel
theorem dX5_note_74 : decode cX5_note 74 = .ok (.aload_n 0, 1) := by decide +kernel
theorem dX5_note_75 : decode cX5_note 75 = .ok (.getfield 76, 3) := by decide +kernel
theorem dX5_note_78 : decode cX5_note 78 = .ok (.putfield 95, 3) := by decide +kernel
theorem dX5_note_81 : decode cX5_note 81 = .ok (.aload_n 0, 1) := by decide +kernel
theorem dX5_note_82 : decode cX5_note 82 = .ok (.getfield 9, 3) := by decide +kernel
theorem dX5_note_85 : decode cX5_note 85 = .ok (.iconst 0, 1) := by decide +kernel
theorem dX5_note_86 : decode cX5_note 86 = .ok (.aload_n 0, 1) := by decide +kernel
theorem dX5_note_87 : decode cX5_note 87 = .ok (.getfield 15, 3) := by decide +kernel
theorem dX5_note_90 : decode cX5_note 90 = .ok (.iconst 0, 1) := by decide +kernel
theorem dX5_note_91 : decode cX5_note 91 = .ok (.iload_n 1, 1) := by decide +kernel
theorem dX5_note_92 : decode cX5_note 92 = .ok (.invokestatic 62, 3) := by decide +kernel
theorem dX5_note_95 : decode cX5_note 95 = .ok (.return_, 1) := by decide +kernel
theorem dX5_nextTrial_0 : decode cX5_nextTrial 0 = .ok (.iload_n 1, 1) := by decide +kernel
theorem dX5_nextTrial_1 : decode cX5_nextTrial 1 = .ok (.iconst 2, 1) := by decide +kernel
theorem dX5_nextTrial_2 : decode cX5_nextTrial 2 = .ok (.isub, 1) := by decide +kernel
theorem dX5_nextTrial_3 : decode cX5_nextTrial 3 = .ok (.istore_n 2, 1) := by decide +kernel
theorem dX5_nextTrial_4 : decode cX5_nextTrial 4 = .ok (.iconst 0, 1) := by decide +kernel
theorem dX5_nextTrial_5 : decode cX5_nextTrial 5 = .ok (.istore_n 3, 1) := by decide +kernel
theorem dX5_nextTrial_6 : decode cX5_nextTrial 6 = .ok (.iload_n 3, 1) := by decide +kernel
theorem dX5_nextTrial_7 : decode cX5_nextTrial 7 = .ok (.iload_n 1, 1) := by decide +kernel
theorem dX5_nextTrial_8 : decode cX5_nextTrial 8 = .ok (.if_icmp .ge 33, 3) := by decide +kernel
theorem dX5_nextTrial_11 : decode cX5_nextTrial 11 = .ok (.iload_n 2, 1) := by decide +kernel
theorem dX5_nextTrial_12 : decode cX5_nextTrial 12 = .ok (.ifCond .lt 29, 3) := by decide +kernel
theorem dX5_nextTrial_15 : decode cX5_nextTrial 15 = .ok (.aload_n 0, 1) := by decide +kernel
theorem dX5_nextTrial_16 : decode cX5_nextTrial 16 = .ok (.getfield 9, 3) := by decide +kernel
theorem dX5_nextTrial_19 : decode cX5_nextTrial 19 = .ok (.iload_n 2, 1) := by decide +kernel
theorem dX5_nextTrial_20 : decode cX5_nextTrial 20 = .ok (.iaload, 1) := by decide +kernel
theorem dX5_nextTrial_21 : decode cX5_nextTrial 21 = .ok (.aload_n 0, 1) := by decide +kernel
theorem dX5_nextTrial_22 : decode cX5_nextTrial 22 = .ok (.getfield 9, 3) := by decide +kernel
theorem dX5_nextTrial_25 : decode cX5_nextTrial 25 = .ok (.iload_n 2, 1) := by decide +kernel
theorem dX5_nextTrial_26 : decode cX5_nextTrial 26 = .ok (.iconst 1, 1) := by decide +kernel
theorem dX5_nextTrial_27 : decode cX5_nextTrial 27 = .ok (.iadd, 1) := by decide +kernel
theorem dX5_nextTrial_28 : decode cX5_nextTrial 28 = .ok (.iaload, 1) := by decide +kernel
theorem dX5_nextTrial_29 : decode cX5_nextTrial 29 = .ok (.if_icmp .le 12, 3) := by decide +kernel
theorem dX5_nextTrial_32 : decode cX5_nextTrial 32 = .ok (.iinc 2 (-1), 3) := by decide +kernel
theorem dX5_nextTrial_35 : decode cX5_nextTrial 35 = .ok (.iinc 3 1, 3) := by decide +kernel
theorem dX5_nextTrial_38 : decode cX5_nextTrial 38 = .ok (.goto (-32), 3) := by decide +kernel
theorem dX5_nextTrial_41 : decode cX5_nextTrial 41 = .ok (.iload_n 2, 1) := by decide +kernel
theorem dX5_nextTrial_42 : decode cX5_nextTrial 42 = .ok (.ifCond .ge 5, 3) := by decide +kernel
theorem dX5_nextTrial_45 : decode cX5_nextTrial 45 = .ok (.iconst 0, 1) := by decide +kernel
theorem dX5_nextTrial_46 : decode cX5_nextTrial 46 = .ok (.ireturn, 1) := by decide +kernel
theorem dX5_nextTrial_47 : decode cX5_nextTrial 47 = .ok (.iload_n 2, 1) := by decide +kernel
theorem dX5_nextTrial_48 : decode cX5_nextTrial 48 = .ok (.iconst 1, 1) := by decide +kernel
theorem dX5_nextTrial_49 : decode cX5_nextTrial 49 = .ok (.iadd, 1) := by decide +kernel
theorem dX5_nextTrial_50 : decode cX5_nextTrial 50 = .ok (.istore_n 3, 1) := by decide +kernel
theorem dX5_nextTrial_51 : decode cX5_nextTrial 51 = .ok (.iload_n 2, 1) := by decide +kernel
theorem dX5_nextTrial_52 : decode cX5_nextTrial 52 = .ok (.iconst 2, 1) := by decide +kernel
theorem dX5_nextTrial_53 : decode cX5_nextTrial 53 = .ok (.iadd, 1) := by decide +kernel
theorem dX5_nextTrial_54 : decode cX5_nextTrial 54 = .ok (.istore 4, 2) := by decide +kernel
theorem dX5_nextTrial_56 : decode cX5_nextTrial 56 = .ok (.iload 4, 2) := by decide +kernel
theorem dX5_nextTrial_58 : decode cX5_nextTrial 58 = .ok (.iload_n 1, 1) := by decide +kernel
theorem dX5_nextTrial_59 : decode cX5_nextTrial 59 = .ok (.if_icmp .ge 28, 3) := by decide +kernel
theorem dX5_nextTrial_62 : decode cX5_nextTrial 62 = .ok (.aload_n 0, 1) := by decide +kernel
theorem dX5_nextTrial_63 : decode cX5_nextTrial 63 = .ok (.getfield 9, 3) := by decide +kernel
theorem dX5_nextTrial_66 : decode cX5_nextTrial 66 = .ok (.iload 4, 2) := by decide +kernel
theorem dX5_nextTrial_68 : decode cX5_nextTrial 68 = .ok (.iaload, 1) := by decide +kernel
theorem dX5_nextTrial_69 : decode cX5_nextTrial 69 = .ok (.aload_n 0, 1) := by decide +kernel
theorem dX5_nextTrial_70 : decode cX5_nextTrial 70 = .ok (.getfield 9, 3) := by decide +kernel
theorem dX5_nextTrial_73 : decode cX5_nextTrial 73 = .ok (.iload_n 2, 1) := by decide +kernel
theorem dX5_nextTrial_74 : decode cX5_nextTrial 74 = .ok (.iaload, 1) := by decide +kernel
theorem dX5_nextTrial_75 : decode cX5_nextTrial 75 = .ok (.if_icmp .le 6, 3) := by decide +kernel
theorem dX5_nextTrial_78 : decode cX5_nextTrial 78 = .ok (.iload 4, 2) := by decide +kernel
theorem dX5_nextTrial_80 : decode cX5_nextTrial 80 = .ok (.istore_n 3, 1) := by decide +kernel
theorem dX5_nextTrial_81 : decode cX5_nextTrial 81 = .ok (.iinc 4 1, 3) := by decide +kernel
theorem dX5_nextTrial_84 : decode cX5_nextTrial 84 = .ok (.goto (-28), 3) := by decide +kernel
theorem dX5_nextTrial_87 : decode cX5_nextTrial 87 = .ok (.aload_n 0, 1) := by decide +kernel
theorem dX5_nextTrial_88 : decode cX5_nextTrial 88 = .ok (.iload_n 2, 1) := by decide +kernel
theorem dX5_nextTrial_89 : decode cX5_nextTrial 89 = .ok (.iload_n 3, 1) := by decide +kernel
theorem dX5_nextTrial_90 : decode cX5_nextTrial 90 = .ok (.invokevirtual 98, 3) := by decide +kernel
theorem dX5_nextTrial_93 : decode cX5_nextTrial 93 = .ok (.iload_n 2, 1) := by decide +kernel
theorem dX5_nextTrial_94 : decode cX5_nextTrial 94 = .ok (.iconst 1, 1) := by decide +kernel
theorem dX5_nextTrial_95 : decode cX5_nextTrial 95 = .ok (.iadd, 1) := by decide +kernel
theorem dX5_nextTrial_96 : decode cX5_nextTrial 96 = .ok (.istore 4, 2) := by decide +kernel
theorem dX5_nextTrial_98 : decode cX5_nextTrial 98 = .ok (.iload_n 1, 1) := by decide +kernel
theorem dX5_nextTrial_99 : decode cX5_nextTrial 99 = .ok (.iconst 1, 1) := by decide +kernel
theorem dX5_nextTrial_100 : decode cX5_nextTrial 100 = .ok (.isub, 1) := by decide +kernel
theorem dX5_nextTrial_101 : decode cX5_nextTrial 101 = .ok (.istore 5, 2) := by decide +kernel
theorem dX5_nextTrial_103 : decode cX5_nextTrial 103 = .ok (.iload 4, 2) := by decide +kernel
theorem dX5_nextTrial_105 : decode cX5_nextTrial 105 = .ok (.iload 5, 2) := by decide +kernel
theorem dX5_nextTrial_107 : decode cX5_nextTrial 107 = .ok (.if_icmp .ge 20, 3) := by decide +kernel
theorem dX5_nextTrial_110 : decode cX5_nextTrial 110 = .ok (.aload_n 0, 1) := by decide +kernel
theorem dX5_nextTrial_111 : decode cX5_nextTrial 111 = .ok (.iload 4, 2) := by decide +kernel
theorem dX5_nextTrial_113 : decode cX5_nextTrial 113 = .ok (.iload 5, 2) := by decide +kernel
theorem dX5_nextTrial_115 : decode cX5_nextTrial 115 = .ok (.invokevirtual 98, 3) := by decide +kernel
theorem dX5_nextTrial_118 : decode cX5_nextTrial 118 = .ok (.iinc 4 1, 3) := by decide +kernel
theorem dX5_nextTrial_121 : decode cX5_nextTrial 121 = .ok (.iinc 5 (-1), 3) := by decide +kernel
theorem dX5_nextTrial_124 : decode cX5_nextTrial 124 = .ok (.goto (-21), 3) := by decide +kernel
theorem dX5_nextTrial_127 : decode cX5_nextTrial 127 = .ok (.iconst 1, 1) := by decide +kernel
theorem dX5_nextTrial_128 : decode cX5_nextTrial 128 = .ok (.ireturn, 1) := by decide +kernel
theorem dX5_exchange_0 : decode cX5_exchange 0 = .ok (.aload_n 0, 1) := by decide +kernel
theorem dX5_exchange_1 : decode cX5_exchange 1 = .ok (.getfield 9, 3) := by decide +kernel
theorem dX5_exchange_4 : decode cX5_exchange 4 = .ok (.iload_n 1, 1) := by decide +kernel
theorem dX5_exchange_5 : decode cX5_exchange 5 = .ok (.iaload, 1) := by decide +kernel
theorem dX5_exchange_6 : decode cX5_exchange 6 = .ok (.istore_n 3, 1) := by decide +kernel
theorem dX5_exchange_7 : decode cX5_exchange 7 = .ok (.aload_n 0, 1) := by decide +kernel
theorem dX5_exchange_8 : decode cX5_exchange 8 = .ok (.getfield 9, 3) := by decide +kernel
theorem dX5_exchange_11 : decode cX5_exchange 11 = .ok (.iload_n 1, 1) := by decide +kernel
theorem dX5_exchange_12 : decode cX5_exchange 12 = .ok (.aload_n 0, 1) := by decide +kernel
theorem dX5_exchange_13 : decode cX5_exchange 13 = .ok (.getfield 9, 3) := by decide +kernel
theorem dX5_exchange_16 : decode cX5_exchange 16 = .ok (.iload_n 2, 1) := by decide +kernel
theorem dX5_exchange_17 : decode cX5_exchange 17 = .ok (.iaload, 1) := by decide +kernel
theorem dX5_exchange_18 : decode cX5_exchange 18 = .ok (.iastore, 1) := by decide +kernel
theorem dX5_exchange_19 : decode cX5_exchange 19 = .ok (.aload_n 0, 1) := by decide +kernel
theorem dX5_exchange_20 : decode cX5_exchange 20 = .ok (.getfield 9, 3) := by decide +kernel
theorem dX5_exchange_23 : decode cX5_exchange 23 = .ok (.iload_n 2, 1) := by decide +kernel
theorem dX5_exchange_24 : decode cX5_exchange 24 = .ok (.iload_n 3, 1) := by decide +kernel
theorem dX5_exchange_25 : decode cX5_exchange 25 = .ok (.iastore, 1) := by decide +kernel
theorem dX5_exchange_26 : decode cX5_exchange 26 = .ok (.return_, 1) := by decide +kernel
theorem dX6_init_0 : decode cX6_init 0 = .ok (.aload_n 0, 1) := by decide +kernel
theorem dX6_init_1 : decode cX6_init 1 = .ok (.invokespecial 3, 3) := by decide +kernel
theorem dX6_init_4 : decode cX6_init 4 = .ok (.aload_n 0, 1) := by decide +kernel
theorem dX6_init_5 : decode cX6_init 5 = .ok (.bipush 16, 2) := by decide +kernel
theorem dX6_init_7 : decode cX6_init 7 = .ok (.newarray .int, 2) := by decide +kernel
theorem dX6_init_9 : decode cX6_init 9 = .ok (.putfield 9, 3) := by decide +kernel
theorem dX6_init_12 : decode cX6_init 12 = .ok (.aload_n 0, 1) := by decide +kernel
theorem dX6_init_13 : decode cX6_init 13 = .ok (.bipush 16, 2) := by decide +kernel
theorem dX6_init_15 : decode cX6_init 15 = .ok (.newarray .int, 2) := by decide +kernel
theorem dX6_init_17 : decode cX6_init 17 = .ok (.putfield 15, 3) := by decide +kernel
theorem dX6_init_20 : decode cX6_init 20 = .ok (.aload_n 0, 1) := by decide +kernel
theorem dX6_init_21 : decode cX6_init 21 = .ok (.bipush 16, 2) := by decide +kernel
theorem dX6_init_23 : decode cX6_init 23 = .ok (.newarray .int, 2) := by decide +kernel
theorem dX6_init_25 : decode cX6_init 25 = .ok (.putfield 18, 3) := by decide +kernel
theorem dX6_init_28 : decode cX6_init 28 = .ok (.aload_n 0, 1) := by decide +kernel
theorem dX6_init_29 : decode cX6_init 29 = .ok (.bipush 9, 2) := by decide +kernel
theorem dX6_init_31 : decode cX6_init 31 = .ok (.newarray .int, 2) := by decide +kernel
theorem dX6_init_33 : decode cX6_init 33 = .ok (.putfield 21, 3) := by decide +kernel
theorem dX6_init_36 : decode cX6_init 36 = .ok (.aload_n 0, 1) := by decide +kernel
theorem dX6_init_37 : decode cX6_init 37 = .ok (.bipush 81, 2) := by decide +kernel
theorem dX6_init_39 : decode cX6_init 39 = .ok (.newarray .int, 2) := by decide +kernel
theorem dX6_init_41 : decode cX6_init 41 = .ok (.putfield 24, 3) := by decide +kernel
theorem dX6_init_44 : decode cX6_init 44 = .ok (.aload_n 0, 1) := by decide +kernel
theorem dX6_init_45 : decode cX6_init 45 = .ok (.getfield 24, 3) := by decide +kernel
theorem dX6_init_48 : decode cX6_init 48 = .ok (.iconst (-1), 1) := by decide +kernel
theorem dX6_init_49 : decode cX6_init 49 = .ok (.invokestatic 27, 3) := by decide +kernel
theorem dX6_init_52 : decode cX6_init 52 = .ok (.return_, 1) := by decide +kernel
theorem dX6_start_0 : decode cX6_start 0 = .ok (.aload_n 0, 1) := by decide +kernel
theorem dX6_start_1 : decode cX6_start 1 = .ok (.iload_n 1, 1) := by decide +kernel
theorem dX6_start_2 : decode cX6_start 2 = .ok (.putfield 33, 3) := by decide +kernel
theorem dX6_start_5 : decode cX6_start 5 = .ok (.aload_n 0, 1) := by decide +kernel
theorem dX6_start_6 : decode cX6_start 6 = .ok (.iconst 0, 1) := by decide +kernel
theorem dX6_start_7 : decode cX6_start 7 = .ok (.putfield 37, 3) := by decide +kernel
theorem dX6_start_10 : decode cX6_start 10 = .ok (.aload_n 0, 1) := by decide +kernel
theorem dX6_start_11 : decode cX6_start 11 = .ok (.invokevirtual 40, 3) := by decide +kernel
theorem dX6_start_14 : decode cX6_start 14 = .ok (.aload_n 0, 1) := by decide +kernel
theorem dX6_start_15 : decode cX6_start 15 = .ok (.invokevirtual 43, 3) := by decide +kernel
theorem dX6_start_18 : decode cX6_start 18 = .ok (.return_, 1) := by decide +kernel
theorem dX6_copyFrom_0 : decode cX6_copyFrom 0 = .ok (.aload_n 0, 1) := by decide +kernel
theorem dX6_copyFrom_1 : decode cX6_copyFrom 1 = .ok (.aload_n 1, 1) := by decide +kernel
theorem dX6_copyFrom_2 : decode cX6_copyFrom 2 = .ok (.getfield 33, 3) := by decide +kernel
theorem dX6_copyFrom_5 : decode cX6_copyFrom 5 = .ok (.putfield 33, 3) := by decide +kernel
theorem dX6_copyFrom_8 : decode cX6_copyFrom 8 = .ok (.aload_n 0, 1) := by decide +kernel
theorem dX6_copyFrom_9 : decode cX6_copyFrom 9 = .ok (.aload_n 1, 1) := by decide +kernel
theorem dX6_copyFrom_10 : decode cX6_copyFrom 10 = .ok (.getfield 37, 3) := by decide +kernel
theorem dX6_copyFrom_13 : decode cX6_copyFrom 13 = .ok (.putfield 37, 3) := by decide +kernel
theorem dX6_copyFrom_16 : decode cX6_copyFrom 16 = .ok (.aload_n 1, 1) := by decide +kernel
theorem dX6_copyFrom_17 : decode cX6_copyFrom 17 = .ok (.getfield 9, 3) := by decide +kernel
theorem dX6_copyFrom_20 : decode cX6_copyFrom 20 = .ok (.iconst 0, 1) := by decide +kernel
theorem dX6_copyFrom_21 : decode cX6_copyFrom 21 = .ok (.aload_n 0, 1) := by decide +kernel
theorem dX6_copyFrom_22 : decode cX6_copyFrom 22 = .ok (.getfield 9, 3) := by decide +kernel
theorem dX6_copyFrom_25 : decode cX6_copyFrom 25 = .ok (.iconst 0, 1) := by decide +kernel
theorem dX6_copyFrom_26 : decode cX6_copyFrom 26 = .ok (.bipush 16, 2) := by decide +kernel
theorem dX6_copyFrom_28 : decode cX6_copyFrom 28 = .ok (.invokestatic 46, 3) := by decide +kernel
theorem dX6_copyFrom_31 : decode cX6_copyFrom 31 = .ok (.aload_n 1, 1) := by decide +kernel
theorem dX6_copyFrom_32 : decode cX6_copyFrom 32 = .ok (.getfield 15, 3) := by decide +kernel
theorem dX6_copyFrom_35 : decode cX6_copyFrom 35 = .ok (.iconst 0, 1) := by decide +kernel
theorem dX6_copyFrom_36 : decode cX6_copyFrom 36 = .ok (.aload_n 0, 1) := by decide +kernel
theorem dX6_copyFrom_37 : decode cX6_copyFrom 37 = .ok (.getfield 15, 3) := by decide +kernel
theorem dX6_copyFrom_40 : decode cX6_copyFrom 40 = .ok (.iconst 0, 1) := by decide +kernel
theorem dX6_copyFrom_41 : decode cX6_copyFrom 41 = .ok (.bipush 16, 2) := by decide +kernel
theorem dX6_copyFrom_43 : decode cX6_copyFrom 43 = .ok (.invokestatic 46, 3) := by decide +kernel
theorem dX6_copyFrom_46 : decode cX6_copyFrom 46 = .ok (.aload_n 1, 1) := by decide +kernel
theorem dX6_copyFrom_47 : decode cX6_copyFrom 47 = .ok (.getfield 18, 3) := by decide +kernel
theorem dX6_copyFrom_50 : decode cX6_copyFrom 50 = .ok (.iconst 0, 1) := by decide +kernel
theorem dX6_copyFrom_51 : decode cX6_copyFrom 51 = .ok (.aload_n 0, 1) := by decide +kernel
theorem dX6_copyFrom_52 : decode cX6_copyFrom 52 = .ok (.getfield 18, 3) := by decide +kernel
theorem dX6_copyFrom_55 : decode cX6_copyFrom 55 = .ok (.iconst 0, 1) := by decide +kernel
theorem dX6_copyFrom_56 : decode cX6_copyFrom 56 = .ok (.bipush 16, 2) := by decide +kernel
theorem dX6_copyFrom_58 : decode cX6_copyFrom 58 = .ok (.invokestatic 46, 3) := by decide +kernel
theorem dX6_copyFrom_61 : decode cX6_copyFrom 61 = .ok (.aload_n 1, 1) := by decide +kernel
theorem dX6_copyFrom_62 : decode cX6_copyFrom 62 = .ok (.getfield 21, 3) := by decide +kernel
theorem dX6_copyFrom_65 : decode cX6_copyFrom 65 = .ok (.iconst 0, 1) := by decide +kernel
theorem dX6_copyFrom_66 : decode cX6_copyFrom 66 = .ok (.aload_n 0, 1) := by decide +kernel
theorem dX6_copyFrom_67 : decode cX6_copyFrom 67 = .ok (.getfield 21, 3) := by decide +kernel
theorem dX6_copyFrom_70 : decode cX6_copyFrom 70 = .ok (.iconst 0, 1) := by decide +kernel
theorem dX6_copyFrom_71 : decode cX6_copyFrom 71 = .ok (.bipush 9, 2) := by decide +kernel
theorem dX6_copyFrom_73 : decode cX6_copyFrom 73 = .ok (.invokestatic 46, 3) := by decide +kernel
theorem dX6_copyFrom_76 : decode cX6_copyFrom 76 = .ok (.aload_n 1, 1) := by decide +kernel
theorem dX6_copyFrom_77 : decode cX6_copyFrom 77 = .ok (.getfield 24, 3) := by decide +kernel
theorem dX6_copyFrom_80 : decode cX6_copyFrom 80 = .ok (.iconst 0, 1) := by decide +kernel
theorem dX6_copyFrom_81 : decode cX6_copyFrom 81 = .ok (.aload_n 0, 1) := by decide +kernel
theorem dX6_copyFrom_82 : decode cX6_copyFrom 82 = .ok (.getfield 24, 3) := by decide +kernel
theorem dX6_copyFrom_85 : decode cX6_copyFrom 85 = .ok (.iconst 0, 1) := by decide +kernel
theorem dX6_copyFrom_86 : decode cX6_copyFrom 86 = .ok (.bipush 81, 2) := by decide +kernel
theorem dX6_copyFrom_88 : decode cX6_copyFrom 88 = .ok (.invokestatic 46, 3) := by decide +kernel
theorem dX6_copyFrom_91 : decode cX6_copyFrom 91 = .ok (.return_, 1) := by decide +kernel
theorem dX6_join_0 : decode cX6_join 0 = .ok (.aload_n 0, 1) := by decide +kernel
theorem dX6_join_1 : decode cX6_join 1 = .ok (.getfield 9, 3) := by decide +kernel
theorem dX6_join_4 : decode cX6_join 4 = .ok (.aload_n 0, 1) := by decide +kernel
theorem dX6_join_5 : decode cX6_join 5 = .ok (.getfield 37, 3) := by decide +kernel
theorem dX6_join_8 : decode cX6_join 8 = .ok (.iload_n 1, 1) := by decide +kernel
theorem dX6_join_9 : decode cX6_join 9 = .ok (.iastore, 1) := by decide +kernel
theorem dX6_join_10 : decode cX6_join 10 = .ok (.aload_n 0, 1) := by decide +kernel
theorem dX6_join_11 : decode cX6_join 11 = .ok (.getfield 15, 3) := by decide +kernel
theorem dX6_join_14 : decode cX6_join 14 = .ok (.aload_n 0, 1) := by decide +kernel
theorem dX6_join_15 : decode cX6_join 15 = .ok (.getfield 37, 3) := by decide +kernel
theorem dX6_join_18 : decode cX6_join 18 = .ok (.iload_n 2, 1) := by decide +kernel
theorem dX6_join_19 : decode cX6_join 19 = .ok (.iastore, 1) := by decide +kernel
theorem dX6_join_20 : decode cX6_join 20 = .ok (.aload_n 0, 1) := by decide +kernel
theorem dX6_join_21 : decode cX6_join 21 = .ok (.getfield 18, 3) := by decide +kernel
theorem dX6_join_24 : decode cX6_join 24 = .ok (.aload_n 0, 1) := by decide +kernel
theorem dX6_join_25 : decode cX6_join 25 = .ok (.getfield 37, 3) := by decide +kernel
theorem dX6_join_28 : decode cX6_join 28 = .ok (.iload_n 3, 1) := by decide +kernel
theorem dX6_join_29 : decode cX6_join 29 = .ok (.iastore, 1) := by decide +kernel
theorem dX6_join_30 : decode cX6_join 30 = .ok (.aload_n 0, 1) := by decide +kernel
theorem dX6_join_31 : decode cX6_join 31 = .ok (.dup, 1) := by decide +kernel
theorem dX6_join_32 : decode cX6_join 32 = .ok (.getfield 37, 3) := by decide +kernel
theorem dX6_join_35 : decode cX6_join 35 = .ok (.iconst 1, 1) := by decide +kernel
theorem dX6_join_36 : decode cX6_join 36 = .ok (.iadd, 1) := by decide +kernel
theorem dX6_join_37 : decode cX6_join 37 = .ok (.putfield 37, 3) := by decide +kernel
theorem dX6_join_40 : decode cX6_join 40 = .ok (.return_, 1) := by decide +kernel
theorem dX6_drop_0 : decode cX6_drop 0 = .ok (.iload_n 1, 1) := by decide +kernel
theorem dX6_drop_1 : decode cX6_drop 1 = .ok (.istore_n 2, 1) := by decide +kernel
theorem dX6_drop_2 : decode cX6_drop 2 = .ok (.iload_n 2, 1) := by decide +kernel
theorem dX6_drop_3 : decode cX6_drop 3 = .ok (.iconst 1, 1) := by decide +kernel
theorem dX6_drop_4 : decode cX6_drop 4 = .ok (.iadd, 1) := by decide +kernel
theorem dX6_drop_5 : decode cX6_drop 5 = .ok (.aload_n 0, 1) := by decide +kernel
theorem dX6_drop_6 : decode cX6_drop 6 = .ok (.getfield 37, 3) := by decide +kernel
theorem dX6_drop_9 : decode cX6_drop 9 = .ok (.if_icmp .ge 51, 3) := by decide +kernel
theorem dX6_drop_12 : decode cX6_drop 12 = .ok (.aload_n 0, 1) := by decide +kernel
theorem dX6_drop_13 : decode cX6_drop 13 = .ok (.getfield 9, 3) := by decide +kernel
theorem dX6_drop_16 : decode cX6_drop 16 = .ok (.iload_n 2, 1) := by decide +kernel
theorem dX6_drop_17 : decode cX6_drop 17 = .ok (.aload_n 0, 1) := by decide +kernel
theorem dX6_drop_18 : decode cX6_drop 18 = .ok (.getfield 9, 3) := by decide +kernel
theorem dX6_drop_21 : decode cX6_drop 21 = .ok (.iload_n 2, 1) := by decide +kernel
theorem dX6_drop_22 : decode cX6_drop 22 = .ok (.iconst 1, 1) := by decide +kernel
theorem dX6_drop_23 : decode cX6_drop 23 = .ok (.iadd, 1) := by decide +kernel
theorem dX6_drop_24 : decode cX6_drop 24 = .ok (.iaload, 1) := by decide +kernel
theorem dX6_drop_25 : decode cX6_drop 25 = .ok (.iastore, 1) := by decide +kernel
theorem dX6_drop_26 : decode cX6_drop 26 = .ok (.aload_n 0, 1) := by decide +kernel
theorem dX6_drop_27 : decode cX6_drop 27 = .ok (.getfield 15, 3) := by decide +kernel
theorem dX6_drop_30 : decode cX6_drop 30 = .ok (.iload_n 2, 1) := by decide +kernel
theorem dX6_drop_31 : decode cX6_drop 31 = .ok (.aload_n 0, 1) := by decide +kernel
theorem dX6_drop_32 : decode cX6_drop 32 = .ok (.getfield 15, 3) := by decide +kernel
theorem dX6_drop_35 : decode cX6_drop 35 = .ok (.iload_n 2, 1) := by decide +kernel
theorem dX6_drop_36 : decode cX6_drop 36 = .ok (.iconst 1, 1) := by decide +kernel
theorem dX6_drop_37 : decode cX6_drop 37 = .ok (.iadd, 1) := by decide +kernel
theorem dX6_drop_38 : decode cX6_drop 38 = .ok (.iaload, 1) := by decide +kernel
theorem dX6_drop_39 : decode cX6_drop 39 = .ok (.iastore, 1) := by decide +kernel
theorem dX6_drop_40 : decode cX6_drop 40 = .ok (.aload_n 0, 1) := by decide +kernel
theorem dX6_drop_41 : decode cX6_drop 41 = .ok (.getfield 18, 3) := by decide +kernel
theorem dX6_drop_44 : decode cX6_drop 44 = .ok (.iload_n 2, 1) := by decide +kernel
theorem dX6_drop_45 : decode cX6_drop 45 = .ok (.aload_n 0, 1) := by decide +kernel
theorem dX6_drop_46 : decode cX6_drop 46 = .ok (.getfield 18, 3) := by decide +kernel
theorem dX6_drop_49 : decode cX6_drop 49 = .ok (.iload_n 2, 1) := by decide +kernel
theorem dX6_drop_50 : decode cX6_drop 50 = .ok (.iconst 1, 1) := by decide +kernel
theorem dX6_drop_51 : decode cX6_drop 51 = .ok (.iadd, 1) := by decide +kernel
theorem dX6_drop_52 : decode cX6_drop 52 = .ok (.iaload, 1) := by decide +kernel
theorem dX6_drop_53 : decode cX6_drop 53 = .ok (.iastore, 1) := by decide +kernel
theorem dX6_drop_54 : decode cX6_drop 54 = .ok (.iinc 2 1, 3) := by decide +kernel
theorem dX6_drop_57 : decode cX6_drop 57 = .ok (.goto (-55), 3) := by decide +kernel
theorem dX6_drop_60 : decode cX6_drop 60 = .ok (.aload_n 0, 1) := by decide +kernel
theorem dX6_drop_61 : decode cX6_drop 61 = .ok (.dup, 1) := by decide +kernel
theorem dX6_drop_62 : decode cX6_drop 62 = .ok (.getfield 37, 3) := by decide +kernel
theorem dX6_drop_65 : decode cX6_drop 65 = .ok (.iconst 1, 1) := by decide +kernel
theorem dX6_drop_66 : decode cX6_drop 66 = .ok (.isub, 1) := by decide +kernel
theorem dX6_drop_67 : decode cX6_drop 67 = .ok (.putfield 37, 3) := by decide +kernel
theorem dX6_drop_70 : decode cX6_drop 70 = .ok (.return_, 1) := by decide +kernel
theorem dX6_linkValue_0 : decode cX6_linkValue 0 = .ok (.iload_n 2, 1) := by decide +kernel
theorem dX6_linkValue_1 : decode cX6_linkValue 1 = .ok (.iconst 2, 1) := by decide +kernel
theorem dX6_linkValue_2 : decode cX6_linkValue 2 = .ok (.if_icmp .ne 10, 3) := by decide +kernel
theorem dX6_linkValue_5 : decode cX6_linkValue 5 = .ok (.aload_n 0, 1) := by decide +kernel
theorem dX6_linkValue_6 : decode cX6_linkValue 6 = .ok (.getfield 18, 3) := by decide +kernel
theorem dX6_linkValue_9 : decode cX6_linkValue 9 = .ok (.iload_n 1, 1) := by decide +kernel
theorem dX6_linkValue_10 : decode cX6_linkValue 10 = .ok (.iaload, 1) := by decide +kernel
theorem dX6_linkValue_11 : decode cX6_linkValue 11 = .ok (.ireturn, 1) := by decide +kernel
theorem dX6_linkValue_12 : decode cX6_linkValue 12 = .ok (.iload_n 2, 1) := by decide +kernel
theorem dX6_linkValue_13 : decode cX6_linkValue 13 = .ok (.ifCond .ne 12, 3) := by decide +kernel
theorem dX6_linkValue_16 : decode cX6_linkValue 16 = .ok (.aload_n 0, 1) := by decide +kernel
theorem dX6_linkValue_17 : decode cX6_linkValue 17 = .ok (.getfield 9, 3) := by decide +kernel
theorem dX6_linkValue_20 : decode cX6_linkValue 20 = .ok (.iload_n 1, 1) := by decide +kernel
theorem dX6_linkValue_21 : decode cX6_linkValue 21 = .ok (.iaload, 1) := by decide +kernel
theorem dX6_linkValue_22 : decode cX6_linkValue 22 = .ok (.goto 9, 3) := by decide +kernel
theorem dX6_linkValue_25 : decode cX6_linkValue 25 = .ok (.aload_n 0, 1) := by decide +kernel
theorem dX6_linkValue_26 : decode cX6_linkValue 26 = .ok (.getfield 15, 3) := by decide +kernel
theorem dX6_linkValue_29 : decode cX6_linkValue 29 = .ok (.iload_n 1, 1) := by decide +kernel
theorem dX6_linkValue_30 : decode cX6_linkValue 30 = .ok (.iaload, 1) := by decide +kernel
theorem dX6_linkValue_31 : decode cX6_linkValue 31 = .ok (.ireturn, 1) := by decide +kernel
theorem dX6_touches_0 : decode cX6_touches 0 = .ok (.aload_n 0, 1) := by decide +kernel
theorem dX6_touches_1 : decode cX6_touches 1 = .ok (.getfield 9, 3) := by decide +kernel
theorem dX6_touches_4 : decode cX6_touches 4 = .ok (.iload_n 1, 1) := by decide +kernel
theorem dX6_touches_5 : decode cX6_touches 5 = .ok (.iaload, 1) := by decide +kernel
theorem dX6_touches_6 : decode cX6_touches 6 = .ok (.iload_n 2, 1) := by decide +kernel
theorem dX6_touches_7 : decode cX6_touches 7 = .ok (.if_icmp .eq 13, 3) := by decide +kernel
theorem dX6_touches_10 : decode cX6_touches 10 = .ok (.aload_n 0, 1) := by decide +kernel
theorem dX6_touches_11 : decode cX6_touches 11 = .ok (.getfield 15, 3) := by decide +kernel
theorem dX6_touches_14 : decode cX6_touches 14 = .ok (.iload_n 1, 1) := by decide +kernel
theorem dX6_touches_15 : decode cX6_touches 15 = .ok (.iaload, 1) := by decide +kernel
theorem dX6_touches_16 : decode cX6_touches 16 = .ok (.iload_n 2, 1) := by decide +kernel
theorem dX6_touches_17 : decode cX6_touches 17 = .ok (.if_icmp .ne 7, 3) := by decide +kernel
theorem dX6_touches_20 : decode cX6_touches 20 = .ok (.iconst 1, 1) := by decide +kernel
theorem dX6_touches_21 : decode cX6_touches 21 = .ok (.goto 4, 3) := by decide +kernel
theorem dX6_touches_24 : decode cX6_touches 24 = .ok (.iconst 0, 1) := by decide +kernel
theorem dX6_touches_25 : decode cX6_touches 25 = .ok (.ireturn, 1) := by decide +kernel
theorem dX6_otherEnd_0 : decode cX6_otherEnd 0 = .ok (.aload_n 0, 1) := by decide +kernel
theorem dX6_otherEnd_1 : decode cX6_otherEnd 1 = .ok (.getfield 9, 3) := by decide +kernel
theorem dX6_otherEnd_4 : decode cX6_otherEnd 4 = .ok (.iload_n 1, 1) := by decide +kernel
theorem dX6_otherEnd_5 : decode cX6_otherEnd 5 = .ok (.iaload, 1) := by decide +kernel
theorem dX6_otherEnd_6 : decode cX6_otherEnd 6 = .ok (.iload_n 2, 1) := by decide +kernel
theorem dX6_otherEnd_7 : decode cX6_otherEnd 7 = .ok (.if_icmp .ne 12, 3) := by decide +kernel
theorem dX6_otherEnd_10 : decode cX6_otherEnd 10 = .ok (.aload_n 0, 1) := by decide +kernel
theorem dX6_otherEnd_11 : decode cX6_otherEnd 11 = .ok (.getfield 15, 3) := by decide +kernel
theorem dX6_otherEnd_14 : decode cX6_otherEnd 14 = .ok (.iload_n 1, 1) := by decide +kernel
theorem dX6_otherEnd_15 : decode cX6_otherEnd 15 = .ok (.iaload, 1) := by decide +kernel
theorem dX6_otherEnd_16 : decode cX6_otherEnd 16 = .ok (.goto 9, 3) := by decide +kernel
theorem dX6_otherEnd_19 : decode cX6_otherEnd 19 = .ok (.aload_n 0, 1) := by decide +kernel
theorem dX6_otherEnd_20 : decode cX6_otherEnd 20 = .ok (.getfield 9, 3) := by decide +kernel
theorem dX6_otherEnd_23 : decode cX6_otherEnd 23 = .ok (.iload_n 1, 1) := by decide +kernel
theorem dX6_otherEnd_24 : decode cX6_otherEnd 24 = .ok (.iaload, 1) := by decide +kernel
theorem dX6_otherEnd_25 : decode cX6_otherEnd 25 = .ok (.ireturn, 1) := by decide +kernel
theorem dX6_joined_0 : decode cX6_joined 0 = .ok (.iconst 0, 1) := by decide +kernel
theorem dX6_joined_1 : decode cX6_joined 1 = .ok (.istore_n 3, 1) := by decide +kernel
theorem dX6_joined_2 : decode cX6_joined 2 = .ok (.iload_n 3, 1) := by decide +kernel
theorem dX6_joined_3 : decode cX6_joined 3 = .ok (.aload_n 0, 1) := by decide +kernel
theorem dX6_joined_4 : decode cX6_joined 4 = .ok (.getfield 37, 3) := by decide +kernel
theorem dX6_joined_7 : decode cX6_joined 7 = .ok (.if_icmp .ge 30, 3) := by decide +kernel
theorem dX6_joined_10 : decode cX6_joined 10 = .ok (.aload_n 0, 1) := by decide +kernel
theorem dX6_joined_11 : decode cX6_joined 11 = .ok (.iload_n 3, 1) := by decide +kernel
theorem dX6_joined_12 : decode cX6_joined 12 = .ok (.iload_n 1, 1) := by decide +kernel
theorem dX6_joined_13 : decode cX6_joined 13 = .ok (.invokevirtual 52, 3) := by decide +kernel
theorem dX6_joined_16 : decode cX6_joined 16 = .ok (.ifCond .eq 15, 3) := by decide +kernel
theorem dX6_joined_19 : decode cX6_joined 19 = .ok (.aload_n 0, 1) := by decide +kernel
theorem dX6_joined_20 : decode cX6_joined 20 = .ok (.iload_n 3, 1) := by decide +kernel
theorem dX6_joined_21 : decode cX6_joined 21 = .ok (.iload_n 1, 1) := by decide +kernel
theorem dX6_joined_22 : decode cX6_joined 22 = .ok (.invokevirtual 56, 3) := by decide +kernel
theorem dX6_joined_25 : decode cX6_joined 25 = .ok (.iload_n 2, 1) := by decide +kernel
theorem dX6_joined_26 : decode cX6_joined 26 = .ok (.if_icmp .ne 5, 3) := by decide +kernel
theorem dX6_joined_29 : decode cX6_joined 29 = .ok (.iconst 1, 1) := by decide +kernel
theorem dX6_joined_30 : decode cX6_joined 30 = .ok (.ireturn, 1) := by decide +kernel
theorem dX6_joined_31 : decode cX6_joined 31 = .ok (.iinc 3 1, 3) := by decide +kernel
theorem dX6_joined_34 : decode cX6_joined 34 = .ok (.goto (-32), 3) := by decide +kernel
theorem dX6_joined_37 : decode cX6_joined 37 = .ok (.iconst 0, 1) := by decide +kernel
theorem dX6_joined_38 : decode cX6_joined 38 = .ok (.ireturn, 1) := by decide +kernel
theorem dX6_degree_0 : decode cX6_degree 0 = .ok (.iconst 0, 1) := by decide +kernel
theorem dX6_degree_1 : decode cX6_degree 1 = .ok (.istore_n 2, 1) := by decide +kernel
theorem dX6_degree_2 : decode cX6_degree 2 = .ok (.iconst 0, 1) := by decide +kernel
theorem dX6_degree_3 : decode cX6_degree 3 = .ok (.istore_n 3, 1) := by decide +kernel
theorem dX6_degree_4 : decode cX6_degree 4 = .ok (.iload_n 3, 1) := by decide +kernel
theorem dX6_degree_5 : decode cX6_degree 5 = .ok (.aload_n 0, 1) := by decide +kernel
theorem dX6_degree_6 : decode cX6_degree 6 = .ok (.getfield 37, 3) := by decide +kernel
theorem dX6_degree_9 : decode cX6_degree 9 = .ok (.if_icmp .ge 21, 3) := by decide +kernel
theorem dX6_degree_12 : decode cX6_degree 12 = .ok (.aload_n 0, 1) := by decide +kernel
theorem dX6_degree_13 : decode cX6_degree 13 = .ok (.iload_n 3, 1) := by decide +kernel
theorem dX6_degree_14 : decode cX6_degree 14 = .ok (.iload_n 1, 1) := by decide +kernel
theorem dX6_degree_15 : decode cX6_degree 15 = .ok (.invokevirtual 52, 3) := by decide +kernel
theorem dX6_degree_18 : decode cX6_degree 18 = .ok (.ifCond .eq 6, 3) := by decide +kernel
theorem dX6_degree_21 : decode cX6_degree 21 = .ok (.iinc 2 1, 3) := by decide +kernel
theorem dX6_degree_24 : decode cX6_degree 24 = .ok (.iinc 3 1, 3) := by decide +kernel
theorem dX6_degree_27 : decode cX6_degree 27 = .ok (.goto (-23), 3) := by decide +kernel
theorem dX6_degree_30 : decode cX6_degree 30 = .ok (.iload_n 2, 1) := by decide +kernel
theorem dX6_degree_31 : decode cX6_degree 31 = .ok (.ireturn, 1) := by decide +kernel
theorem dX6_lowestLinkBut_0 : decode cX6_lowestLinkBut 0 = .ok (.iconst 0, 1) := by decide +kernel
theorem dX6_lowestLinkBut_1 : decode cX6_lowestLinkBut 1 = .ok (.istore_n 3, 1) := by decide +kernel
theorem dX6_lowestLinkBut_2 : decode cX6_lowestLinkBut 2 = .ok (.iload_n 3, 1) := by decide +kernel
theorem dX6_lowestLinkBut_3 : decode cX6_lowestLinkBut 3 = .ok (.aload_n 0, 1) := by decide +kernel
theorem dX6_lowestLinkBut_4 : decode cX6_lowestLinkBut 4 = .ok (.getfield 37, 3) := by decide +kernel
theorem dX6_lowestLinkBut_7 : decode cX6_lowestLinkBut 7 = .ok (.if_icmp .ge 25, 3) := by decide +kernel
theorem dX6_lowestLinkBut_10 : decode cX6_lowestLinkBut 10 = .ok (.iload_n 3, 1) := by decide +kernel
theorem dX6_lowestLinkBut_11 : decode cX6_lowestLinkBut 11 = .ok (.iload_n 1, 1) := by decide +kernel
theorem dX6_lowestLinkBut_12 : decode cX6_lowestLinkBut 12 = .ok (.if_icmp .eq 14, 3) := by decide +kernel
theorem dX6_lowestLinkBut_15 : decode cX6_lowestLinkBut 15 = .ok (.aload_n 0, 1) := by decide +kernel
theorem dX6_lowestLinkBut_16 : decode cX6_lowestLinkBut 16 = .ok (.iload_n 3, 1) := by decide +kernel
theorem dX6_lowestLinkBut_17 : decode cX6_lowestLinkBut 17 = .ok (.iload_n 2, 1) := by decide +kernel
theorem dX6_lowestLinkBut_18 : decode cX6_lowestLinkBut 18 = .ok (.invokevirtual 52, 3) := by decide +kernel
theorem dX6_lowestLinkBut_21 : decode cX6_lowestLinkBut 21 = .ok (.ifCond .eq 5, 3) := by decide +kernel
theorem dX6_lowestLinkBut_24 : decode cX6_lowestLinkBut 24 = .ok (.iload_n 3, 1) := by decide +kernel
theorem dX6_lowestLinkBut_25 : decode cX6_lowestLinkBut 25 = .ok (.ireturn, 1) := by decide +kernel
theorem dX6_lowestLinkBut_26 : decode cX6_lowestLinkBut 26 = .ok (.iinc 3 1, 3) := by decide +kernel
theorem dX6_lowestLinkBut_29 : decode cX6_lowestLinkBut 29 = .ok (.goto (-27), 3) := by decide +kernel
theorem dX6_lowestLinkBut_32 : decode cX6_lowestLinkBut 32 = .ok (.iconst (-1), 1) := by decide +kernel
theorem dX6_lowestLinkBut_33 : decode cX6_lowestLinkBut 33 = .ok (.ireturn, 1) := by decide +kernel
theorem dX6_resetLabels_0 : decode cX6_resetLabels 0 = .ok (.iconst 0, 1) := by decide +kernel
theorem dX6_resetLabels_1 : decode cX6_resetLabels 1 = .ok (.istore_n 1, 1) := by decide +kernel
theorem dX6_resetLabels_2 : decode cX6_resetLabels 2 = .ok (.iload_n 1, 1) := by decide +kernel
theorem dX6_resetLabels_3 : decode cX6_resetLabels 3 = .ok (.aload_n 0, 1) := by decide +kernel
theorem dX6_resetLabels_4 : decode cX6_resetLabels 4 = .ok (.getfield 33, 3) := by decide +kernel
theorem dX6_resetLabels_7 : decode cX6_resetLabels 7 = .ok (.if_icmp .ge 16, 3) := by decide +kernel
theorem dX6_resetLabels_10 : decode cX6_resetLabels 10 = .ok (.aload_n 0, 1) := by decide +kernel
theorem dX6_resetLabels_11 : decode cX6_resetLabels 11 = .ok (.getfield 21, 3) := by decide +kernel
theorem dX6_resetLabels_14 : decode cX6_resetLabels 14 = .ok (.iload_n 1, 1) := by decide +kernel
theorem dX6_resetLabels_15 : decode cX6_resetLabels 15 = .ok (.iload_n 1, 1) := by decide +kernel
theorem dX6_resetLabels_16 : decode cX6_resetLabels 16 = .ok (.iastore, 1) := by decide +kernel
theorem dX6_resetLabels_17 : decode cX6_resetLabels 17 = .ok (.iinc 1 1, 3) := by decide +kernel
theorem dX6_resetLabels_20 : decode cX6_resetLabels 20 = .ok (.goto (-18), 3) := by decide +kernel
theorem dX6_resetLabels_23 : decode cX6_resetLabels 23 = .ok (.return_, 1) := by decide +kernel
theorem dX6_exchangeLabels_0 : decode cX6_exchangeLabels 0 = .ok (.aload_n 0, 1) := by decide +kernel
theorem dX6_exchangeLabels_1 : decode cX6_exchangeLabels 1 = .ok (.getfield 21, 3) := by decide +kernel
theorem dX6_exchangeLabels_4 : decode cX6_exchangeLabels 4 = .ok (.iload_n 1, 1) := by decide +kernel
theorem dX6_exchangeLabels_5 : decode cX6_exchangeLabels 5 = .ok (.iaload, 1) := by decide +kernel
theorem dX6_exchangeLabels_6 : decode cX6_exchangeLabels 6 = .ok (.istore_n 3, 1) := by decide +kernel
theorem dX6_exchangeLabels_7 : decode cX6_exchangeLabels 7 = .ok (.aload_n 0, 1) := by decide +kernel
theorem dX6_exchangeLabels_8 : decode cX6_exchangeLabels 8 = .ok (.getfield 21, 3) := by decide +kernel
theorem dX6_exchangeLabels_11 : decode cX6_exchangeLabels 11 = .ok (.iload_n 1, 1) := by decide +kernel
theorem dX6_exchangeLabels_12 : decode cX6_exchangeLabels 12 = .ok (.aload_n 0, 1) := by decide +kernel
theorem dX6_exchangeLabels_13 : decode cX6_exchangeLabels 13 = .ok (.getfield 21, 3) := by decide +kernel
theorem dX6_exchangeLabels_16 : decode cX6_exchangeLabels 16 = .ok (.iload_n 2, 1) := by decide +kernel
theorem dX6_exchangeLabels_17 : decode cX6_exchangeLabels 17 = .ok (.iaload, 1) := by decide +kernel
theorem dX6_exchangeLabels_18 : decode cX6_exchangeLabels 18 = .ok (.iastore, 1) := by decide +kernel
theorem dX6_exchangeLabels_19 : decode cX6_exchangeLabels 19 = .ok (.aload_n 0, 1) := by decide +kernel
theorem dX6_exchangeLabels_20 : decode cX6_exchangeLabels 20 = .ok (.getfield 21, 3) := by decide +kernel
theorem dX6_exchangeLabels_23 : decode cX6_exchangeLabels 23 = .ok (.iload_n 2, 1) := by decide +kernel
theorem dX6_exchangeLabels_24 : decode cX6_exchangeLabels 24 = .ok (.iload_n 3, 1) := by decide +kernel
theorem dX6_exchangeLabels_25 : decode cX6_exchangeLabels 25 = .ok (.iastore, 1) := by decide +kernel
theorem dX6_exchangeLabels_26 : decode cX6_exchangeLabels 26 = .ok (.return_, 1) := by decide +kernel
theorem dX6_holder_0 : decode cX6_holder 0 = .ok (.iconst 0, 1) := by decide +kernel
theorem dX6_holder_1 : decode cX6_holder 1 = .ok (.istore_n 2, 1) := by decide +kernel
theorem dX6_holder_2 : decode cX6_holder 2 = .ok (.iload_n 2, 1) := by decide +kernel
theorem dX6_holder_3 : decode cX6_holder 3 = .ok (.aload_n 0, 1) := by decide +kernel
theorem dX6_holder_4 : decode cX6_holder 4 = .ok (.getfield 33, 3) := by decide +kernel
theorem dX6_holder_7 : decode cX6_holder 7 = .ok (.if_icmp .ge 21, 3) := by decide +kernel
theorem dX6_holder_10 : decode cX6_holder 10 = .ok (.aload_n 0, 1) := by decide +kernel
theorem dX6_holder_11 : decode cX6_holder 11 = .ok (.getfield 21, 3) := by decide +kernel
theorem dX6_holder_14 : decode cX6_holder 14 = .ok (.iload_n 2, 1) := by decide +kernel
theorem dX6_holder_15 : decode cX6_holder 15 = .ok (.iaload, 1) := by decide +kernel
theorem dX6_holder_16 : decode cX6_holder 16 = .ok (.iload_n 1, 1) := by decide +kernel
theorem dX6_holder_17 : decode cX6_holder 17 = .ok (.if_icmp .ne 5, 3) := by decide +kernel
theorem dX6_holder_20 : decode cX6_holder 20 = .ok (.iload_n 2, 1) := by decide +kernel
theorem dX6_holder_21 : decode cX6_holder 21 = .ok (.ireturn, 1) := by decide +kernel
theorem dX6_holder_22 : decode cX6_holder 22 = .ok (.iinc 2 1, 3) := by decide +kernel
theorem dX6_holder_25 : decode cX6_holder 25 = .ok (.goto (-23), 3) := by decide +kernel
theorem dX6_holder_28 : decode cX6_holder 28 = .ok (.iconst (-1), 1) := by decide +kernel
theorem dX6_holder_29 : decode cX6_holder 29 = .ok (.ireturn, 1) := by decide +kernel
theorem dX6_clearEntries_0 : decode cX6_clearEntries 0 = .ok (.aload_n 0, 1) := by decide +kernel
theorem dX6_clearEntries_1 : decode cX6_clearEntries 1 = .ok (.getfield 24, 3) := by decide +kernel
theorem dX6_clearEntries_4 : decode cX6_clearEntries 4 = .ok (.iconst (-1), 1) := by decide +kernel
theorem dX6_clearEntries_5 : decode cX6_clearEntries 5 = .ok (.invokestatic 27, 3) := by decide +kernel
theorem dX6_clearEntries_8 : decode cX6_clearEntries 8 = .ok (.return_, 1) := by decide +kernel
theorem dX6_entryAt_0 : decode cX6_entryAt 0 = .ok (.aload_n 0, 1) := by decide +kernel
theorem dX6_entryAt_1 : decode cX6_entryAt 1 = .ok (.getfield 24, 3) := by decide +kernel
theorem dX6_entryAt_4 : decode cX6_entryAt 4 = .ok (.iload_n 1, 1) := by decide +kernel
theorem dX6_entryAt_5 : decode cX6_entryAt 5 = .ok (.bipush 9, 2) := by decide +kernel
theorem dX6_entryAt_7 : decode cX6_entryAt 7 = .ok (.imul, 1) := by decide +kernel
theorem dX6_entryAt_8 : decode cX6_entryAt 8 = .ok (.iload_n 2, 1) := by decide +kernel
theorem dX6_entryAt_9 : decode cX6_entryAt 9 = .ok (.iadd, 1) := by decide +kernel
theorem dX6_entryAt_10 : decode cX6_entryAt 10 = .ok (.iaload, 1) := by decide +kernel
theorem dX6_entryAt_11 : decode cX6_entryAt 11 = .ok (.ireturn, 1) := by decide +kernel
theorem dX6_storeTable_0 : decode cX6_storeTable 0 = .ok (.iconst 0, 1) := by decide +kernel
theorem dX6_storeTable_1 : decode cX6_storeTable 1 = .ok (.istore_n 3, 1) := by decide +kernel
theorem dX6_storeTable_2 : decode cX6_storeTable 2 = .ok (.iload_n 3, 1) := by decide +kernel
theorem dX6_storeTable_3 : decode cX6_storeTable 3 = .ok (.aload_n 2, 1) := by decide +kernel
theorem dX6_storeTable_4 : decode cX6_storeTable 4 = .ok (.getfield 60, 3) := by decide +kernel
theorem dX6_storeTable_7 : decode cX6_storeTable 7 = .ok (.if_icmp .ge 35, 3) := by decide +kernel
theorem dX6_storeTable_10 : decode cX6_storeTable 10 = .ok (.aload_n 0, 1) := by decide +kernel
theorem dX6_storeTable_11 : decode cX6_storeTable 11 = .ok (.getfield 24, 3) := by decide +kernel
theorem dX6_storeTable_14 : decode cX6_storeTable 14 = .ok (.iload_n 1, 1) := by decide +kernel
theorem dX6_storeTable_15 : decode cX6_storeTable 15 = .ok (.bipush 9, 2) := by decide +kernel
theorem dX6_storeTable_17 : decode cX6_storeTable 17 = .ok (.imul, 1) := by decide +kernel
theorem dX6_storeTable_18 : decode cX6_storeTable 18 = .ok (.iload_n 3, 1) := by decide +kernel
theorem dX6_storeTable_19 : decode cX6_storeTable 19 = .ok (.aload_n 0, 1) := by decide +kernel
theorem dX6_storeTable_20 : decode cX6_storeTable 20 = .ok (.getfield 21, 3) := by decide +kernel
theorem dX6_storeTable_23 : decode cX6_storeTable 23 = .ok (.iload_n 1, 1) := by decide +kernel
theorem dX6_storeTable_24 : decode cX6_storeTable 24 = .ok (.iaload, 1) := by decide +kernel
theorem dX6_storeTable_25 : decode cX6_storeTable 25 = .ok (.invokestatic 65, 3) := by decide +kernel
theorem dX6_storeTable_28 : decode cX6_storeTable 28 = .ok (.iadd, 1) := by decide +kernel
theorem dX6_storeTable_29 : decode cX6_storeTable 29 = .ok (.aload_n 2, 1) := by decide +kernel
theorem dX6_storeTable_30 : decode cX6_storeTable 30 = .ok (.getfield 68, 3) := by decide +kernel
theorem dX6_storeTable_33 : decode cX6_storeTable 33 = .ok (.iload_n 3, 1) := by decide +kernel
theorem dX6_storeTable_34 : decode cX6_storeTable 34 = .ok (.iaload, 1) := by decide +kernel
theorem dX6_storeTable_35 : decode cX6_storeTable 35 = .ok (.iastore, 1) := by decide +kernel
theorem dX6_storeTable_36 : decode cX6_storeTable 36 = .ok (.iinc 3 1, 3) := by decide +kernel
theorem dX6_storeTable_39 : decode cX6_storeTable 39 = .ok (.goto (-37), 3) := by decide +kernel
theorem dX6_storeTable_42 : decode cX6_storeTable 42 = .ok (.return_, 1) := by decide +kernel
theorem dX6_setInterval_0 : decode cX6_setInterval 0 = .ok (.iload 4, 2) := by decide +kernel
theorem dX6_setInterval_2 : decode cX6_setInterval 2 = .ok (.iload_n 3, 1) := by decide +kernel
theorem dX6_setInterval_3 : decode cX6_setInterval 3 = .ok (.if_icmp .lt 10, 3) := by decide +kernel
theorem dX6_setInterval_6 : decode cX6_setInterval 6 = .ok (.iload 4, 2) := by decide +kernel
theorem dX6_setInterval_8 : decode cX6_setInterval 8 = .ok (.iload_n 3, 1) := by decide +kernel
theorem dX6_setInterval_9 : decode cX6_setInterval 9 = .ok (.isub, 1) := by decide +kernel
theorem dX6_setInterval_10 : decode cX6_setInterval 10 = .ok (.goto 12, 3) := by decide +kernel
theorem dX6_setInterval_13 : decode cX6_setInterval 13 = .ok (.iload 4, 2) := by decide +kernel
theorem dX6_setInterval_15 : decode cX6_setInterval 15 = .ok (.iload_n 3, 1) := by decide +kernel
theorem dX6_setInterval_16 : decode cX6_setInterval 16 = .ok (.isub, 1) := by decide +kernel
theorem dX6_setInterval_17 : decode cX6_setInterval 17 = .ok (.aload_n 0, 1) := by decide +kernel
theorem dX6_setInterval_18 : decode cX6_setInterval 18 = .ok (.getfield 33, 3) := by decide +kernel
theorem dX6_setInterval_21 : decode cX6_setInterval 21 = .ok (.iadd, 1) := by decide +kernel
theorem dX6_setInterval_22 : decode cX6_setInterval 22 = .ok (.istore 5, 2) := by decide +kernel
theorem dX6_setInterval_24 : decode cX6_setInterval 24 = .ok (.iconst 0, 1) := by decide +kernel
theorem dX6_setInterval_25 : decode cX6_setInterval 25 = .ok (.istore 6, 2) := by decide +kernel
theorem dX6_setInterval_27 : decode cX6_setInterval 27 = .ok (.iconst 0, 1) := by decide +kernel
theorem dX6_setInterval_28 : decode cX6_setInterval 28 = .ok (.istore 7, 2) := by decide +kernel
theorem dX6_setInterval_30 : decode cX6_setInterval 30 = .ok (.iload 7, 2) := by decide +kernel
theorem dX6_setInterval_32 : decode cX6_setInterval 32 = .ok (.iload 5, 2) := by decide +kernel
theorem dX6_setInterval_34 : decode cX6_setInterval 34 = .ok (.if_icmp .gt 80, 3) := by decide +kernel
theorem dX6_setInterval_37 : decode cX6_setInterval 37 = .ok (.iload_n 3, 1) := by decide +kernel
theorem dX6_setInterval_38 : decode cX6_setInterval 38 = .ok (.iload 7, 2) := by decide +kernel
theorem dX6_setInterval_40 : decode cX6_setInterval 40 = .ok (.iadd, 1) := by decide +kernel
theorem dX6_setInterval_41 : decode cX6_setInterval 41 = .ok (.aload_n 0, 1) := by decide +kernel
theorem dX6_setInterval_42 : decode cX6_setInterval 42 = .ok (.getfield 33, 3) := by decide +kernel
theorem dX6_setInterval_45 : decode cX6_setInterval 45 = .ok (.if_icmp .ge 10, 3) := by decide +kernel
theorem dX6_setInterval_48 : decode cX6_setInterval 48 = .ok (.iload_n 3, 1) := by decide +kernel
theorem dX6_setInterval_49 : decode cX6_setInterval 49 = .ok (.iload 7, 2) := by decide +kernel
theorem dX6_setInterval_51 : decode cX6_setInterval 51 = .ok (.iadd, 1) := by decide +kernel
theorem dX6_setInterval_52 : decode cX6_setInterval 52 = .ok (.goto 12, 3) := by decide +kernel
theorem dX6_setInterval_55 : decode cX6_setInterval 55 = .ok (.iload_n 3, 1) := by decide +kernel
theorem dX6_setInterval_56 : decode cX6_setInterval 56 = .ok (.iload 7, 2) := by decide +kernel
theorem dX6_setInterval_58 : decode cX6_setInterval 58 = .ok (.iadd, 1) := by decide +kernel
theorem dX6_setInterval_59 : decode cX6_setInterval 59 = .ok (.aload_n 0, 1) := by decide +kernel
theorem dX6_setInterval_60 : decode cX6_setInterval 60 = .ok (.getfield 33, 3) := by decide +kernel
theorem dX6_setInterval_63 : decode cX6_setInterval 63 = .ok (.isub, 1) := by decide +kernel
theorem dX6_setInterval_64 : decode cX6_setInterval 64 = .ok (.istore 8, 2) := by decide +kernel
theorem dX6_setInterval_66 : decode cX6_setInterval 66 = .ok (.iload_n 1, 1) := by decide +kernel
theorem dX6_setInterval_67 : decode cX6_setInterval 67 = .ok (.bipush 9, 2) := by decide +kernel
theorem dX6_setInterval_69 : decode cX6_setInterval 69 = .ok (.imul, 1) := by decide +kernel
theorem dX6_setInterval_70 : decode cX6_setInterval 70 = .ok (.iload 8, 2) := by decide +kernel
theorem dX6_setInterval_72 : decode cX6_setInterval 72 = .ok (.iadd, 1) := by decide +kernel
theorem dX6_setInterval_73 : decode cX6_setInterval 73 = .ok (.istore 9, 2) := by decide +kernel
theorem dX6_setInterval_75 : decode cX6_setInterval 75 = .ok (.iload 8, 2) := by decide +kernel
theorem dX6_setInterval_77 : decode cX6_setInterval 77 = .ok (.aload_n 0, 1) := by decide +kernel
theorem dX6_setInterval_78 : decode cX6_setInterval 78 = .ok (.getfield 21, 3) := by decide +kernel
theorem dX6_setInterval_81 : decode cX6_setInterval 81 = .ok (.iload_n 1, 1) := by decide +kernel
theorem dX6_setInterval_82 : decode cX6_setInterval 82 = .ok (.iaload, 1) := by decide +kernel
theorem dX6_setInterval_83 : decode cX6_setInterval 83 = .ok (.if_icmp .eq 25, 3) := by decide +kernel
theorem dX6_setInterval_86 : decode cX6_setInterval 86 = .ok (.aload_n 0, 1) := by decide +kernel
theorem dX6_setInterval_87 : decode cX6_setInterval 87 = .ok (.getfield 24, 3) := by decide +kernel
theorem dX6_setInterval_90 : decode cX6_setInterval 90 = .ok (.iload 9, 2) := by decide +kernel
theorem dX6_setInterval_92 : decode cX6_setInterval 92 = .ok (.iaload, 1) := by decide +kernel
theorem dX6_setInterval_93 : decode cX6_setInterval 93 = .ok (.iload_n 2, 1) := by decide +kernel
theorem dX6_setInterval_94 : decode cX6_setInterval 94 = .ok (.if_icmp .eq 14, 3) := by decide +kernel
theorem dX6_setInterval_97 : decode cX6_setInterval 97 = .ok (.aload_n 0, 1) := by decide +kernel
theorem dX6_setInterval_98 : decode cX6_setInterval 98 = .ok (.getfield 24, 3) := by decide +kernel
theorem dX6_setInterval_101 : decode cX6_setInterval 101 = .ok (.iload 9, 2) := by decide +kernel
theorem dX6_setInterval_103 : decode cX6_setInterval 103 = .ok (.iload_n 2, 1) := by decide +kernel
theorem dX6_setInterval_104 : decode cX6_setInterval 104 = .ok (.iastore, 1) := by decide +kernel
theorem dX6_setInterval_105 : decode cX6_setInterval 105 = .ok (.iinc 6 1, 3) := by decide +kernel
theorem dX6_setInterval_108 : decode cX6_setInterval 108 = .ok (.iinc 7 1, 3) := by decide +kernel
theorem dX6_setInterval_111 : decode cX6_setInterval 111 = .ok (.goto (-81), 3) := by decide +kernel
theorem dX6_setInterval_114 : decode cX6_setInterval 114 = .ok (.iload 6, 2) := by decide +kernel
theorem dX6_setInterval_116 : decode cX6_setInterval 116 = .ok (.ireturn, 1) := by decide +kernel
theorem dX6_mixInto_0 : decode cX6_mixInto 0 = .ok (.ldc2_w 69, 3) := by decide +kernel
theorem dX6_mixInto_3 : decode cX6_mixInto 3 = .ok (.lload_n 1, 1) := by decide +kernel
theorem dX6_mixInto_4 : decode cX6_mixInto 4 = .ok (.lmul, 1) := by decide +kernel
theorem dX6_mixInto_5 : decode cX6_mixInto 5 = .ok (.aload_n 0, 1) := by decide +kernel
theorem dX6_mixInto_6 : decode cX6_mixInto 6 = .ok (.getfield 33, 3) := by decide +kernel
theorem dX6_mixInto_9 : decode cX6_mixInto 9 = .ok (.i2l, 1) := by decide +kernel
theorem dX6_mixInto_10 : decode cX6_mixInto 10 = .ok (.ladd, 1) := by decide +kernel
theorem dX6_mixInto_11 : decode cX6_mixInto 11 = .ok (.lstore_n 3, 1) := by decide +kernel
theorem dX6_mixInto_12 : decode cX6_mixInto 12 = .ok (.ldc2_w 69, 3) := by decide +kernel
theorem dX6_mixInto_15 : decode cX6_mixInto 15 = .ok (.lload_n 3, 1) := by decide +kernel
theorem dX6_mixInto_16 : decode cX6_mixInto 16 = .ok (.lmul, 1) := by decide +kernel
theorem dX6_mixInto_17 : decode cX6_mixInto 17 = .ok (.aload_n 0, 1) := by decide +kernel
theorem dX6_mixInto_18 : decode cX6_mixInto 18 = .ok (.getfield 37, 3) := by decide +kernel
theorem dX6_mixInto_21 : decode cX6_mixInto 21 = .ok (.i2l, 1) := by decide +kernel
theorem dX6_mixInto_22 : decode cX6_mixInto 22 = .ok (.ladd, 1) := by decide +kernel
theorem dX6_mixInto_23 : decode cX6_mixInto 23 = .ok (.lstore_n 3, 1) := by decide +kernel
theorem dX6_mixInto_24 : decode cX6_mixInto 24 = .ok (.iconst 0, 1) := by decide +kernel
theorem dX6_mixInto_25 : decode cX6_mixInto 25 = .ok (.istore 5, 2) := by decide +kernel
theorem dX6_mixInto_27 : decode cX6_mixInto 27 = .ok (.iload 5, 2) := by decide +kernel
theorem dX6_mixInto_29 : decode cX6_mixInto 29 = .ok (.aload_n 0, 1) := by decide +kernel
theorem dX6_mixInto_30 : decode cX6_mixInto 30 = .ok (.getfield 37, 3) := by decide +kernel
theorem dX6_mixInto_33 : decode cX6_mixInto 33 = .ok (.if_icmp .ge 40, 3) := by decide +kernel
theorem dX6_mixInto_36 : decode cX6_mixInto 36 = .ok (.iconst 0, 1) := by decide +kernel
theorem dX6_mixInto_37 : decode cX6_mixInto 37 = .ok (.istore 6, 2) := by decide +kernel
theorem dX6_mixInto_39 : decode cX6_mixInto 39 = .ok (.iload 6, 2) := by decide +kernel
theorem dX6_mixInto_41 : decode cX6_mixInto 41 = .ok (.iconst 2, 1) := by decide +kernel
theorem dX6_mixInto_42 : decode cX6_mixInto 42 = .ok (.if_icmp .gt 25, 3) := by decide +kernel
theorem dX6_mixInto_45 : decode cX6_mixInto 45 = .ok (.ldc2_w 69, 3) := by decide +kernel
theorem dX6_mixInto_48 : decode cX6_mixInto 48 = .ok (.lload_n 3, 1) := by decide +kernel
theorem dX6_mixInto_49 : decode cX6_mixInto 49 = .ok (.lmul, 1) := by decide +kernel
theorem dX6_mixInto_50 : decode cX6_mixInto 50 = .ok (.aload_n 0, 1) := by decide +kernel
theorem dX6_mixInto_51 : decode cX6_mixInto 51 = .ok (.iload 5, 2) := by decide +kernel
theorem dX6_mixInto_53 : decode cX6_mixInto 53 = .ok (.iload 6, 2) := by decide +kernel
theorem dX6_mixInto_55 : decode cX6_mixInto 55 = .ok (.invokevirtual 71, 3) := by decide +kernel
theorem dX6_mixInto_58 : decode cX6_mixInto 58 = .ok (.i2l, 1) := by decide +kernel
theorem dX6_mixInto_59 : decode cX6_mixInto 59 = .ok (.ladd, 1) := by decide +kernel
theorem dX6_mixInto_60 : decode cX6_mixInto 60 = .ok (.lstore_n 3, 1) := by decide +kernel
theorem dX6_mixInto_61 : decode cX6_mixInto 61 = .ok (.iinc 6 1, 3) := by decide +kernel
theorem dX6_mixInto_64 : decode cX6_mixInto 64 = .ok (.goto (-25), 3) := by decide +kernel
theorem dX6_mixInto_67 : decode cX6_mixInto 67 = .ok (.iinc 5 1, 3) := by decide +kernel
theorem dX6_mixInto_70 : decode cX6_mixInto 70 = .ok (.goto (-43), 3) := by decide +kernel
theorem dX6_mixInto_73 : decode cX6_mixInto 73 = .ok (.iconst 0, 1) := by decide +kernel
theorem dX6_mixInto_74 : decode cX6_mixInto 74 = .ok (.istore 5, 2) := by decide +kernel
theorem dX6_mixInto_76 : decode cX6_mixInto 76 = .ok (.iload 5, 2) := by decide +kernel
theorem dX6_mixInto_78 : decode cX6_mixInto 78 = .ok (.aload_n 0, 1) := by decide +kernel
theorem dX6_mixInto_79 : decode cX6_mixInto 79 = .ok (.getfield 33, 3) := by decide +kernel
theorem dX6_mixInto_82 : decode cX6_mixInto 82 = .ok (.if_icmp .ge 24, 3) := by decide +kernel
theorem dX6_mixInto_85 : decode cX6_mixInto 85 = .ok (.ldc2_w 69, 3) := by decide +kernel
theorem dX6_mixInto_88 : decode cX6_mixInto 88 = .ok (.lload_n 3, 1) := by decide +kernel
theorem dX6_mixInto_89 : decode cX6_mixInto 89 = .ok (.lmul, 1) := by decide +kernel
theorem dX6_mixInto_90 : decode cX6_mixInto 90 = .ok (.aload_n 0, 1) := by decide +kernel
theorem dX6_mixInto_91 : decode cX6_mixInto 91 = .ok (.getfield 21, 3) := by decide +kernel
theorem dX6_mixInto_94 : decode cX6_mixInto 94 = .ok (.iload 5, 2) := by decide +kernel
theorem dX6_mixInto_96 : decode cX6_mixInto 96 = .ok (.iaload, 1) := by decide +kernel
theorem dX6_mixInto_97 : decode cX6_mixInto 97 = .ok (.i2l, 1) := by decide +kernel
theorem dX6_mixInto_98 : decode cX6_mixInto 98 = .ok (.ladd, 1) := by decide +kernel
theorem dX6_mixInto_99 : decode cX6_mixInto 99 = .ok (.lstore_n 3, 1) := by decide +kernel
theorem dX6_mixInto_100 : decode cX6_mixInto 100 = .ok (.iinc 5 1, 3) := by decide +kernel
theorem dX6_mixInto_103 : decode cX6_mixInto 103 = .ok (.goto (-27), 3) := by decide +kernel
theorem dX6_mixInto_106 : decode cX6_mixInto 106 = .ok (.iconst 0, 1) := by decide +kernel
theorem dX6_mixInto_107 : decode cX6_mixInto 107 = .ok (.istore 5, 2) := by decide +kernel
theorem dX6_mixInto_109 : decode cX6_mixInto 109 = .ok (.iload 5, 2) := by decide +kernel
theorem dX6_mixInto_111 : decode cX6_mixInto 111 = .ok (.aload_n 0, 1) := by decide +kernel
theorem dX6_mixInto_112 : decode cX6_mixInto 112 = .ok (.getfield 33, 3) := by decide +kernel
theorem dX6_mixInto_115 : decode cX6_mixInto 115 = .ok (.if_icmp .ge 43, 3) := by decide +kernel
theorem dX6_mixInto_118 : decode cX6_mixInto 118 = .ok (.iconst 0, 1) := by decide +kernel
theorem dX6_mixInto_119 : decode cX6_mixInto 119 = .ok (.istore 6, 2) := by decide +kernel
theorem dX6_mixInto_121 : decode cX6_mixInto 121 = .ok (.iload 6, 2) := by decide +kernel
theorem dX6_mixInto_123 : decode cX6_mixInto 123 = .ok (.aload_n 0, 1) := by decide +kernel
theorem dX6_mixInto_124 : decode cX6_mixInto 124 = .ok (.getfield 33, 3) := by decide +kernel
theorem dX6_mixInto_127 : decode cX6_mixInto 127 = .ok (.if_icmp .ge 25, 3) := by decide +kernel
theorem dX6_mixInto_130 : decode cX6_mixInto 130 = .ok (.ldc2_w 69, 3) := by decide +kernel
theorem dX6_mixInto_133 : decode cX6_mixInto 133 = .ok (.lload_n 3, 1) := by decide +kernel
theorem dX6_mixInto_134 : decode cX6_mixInto 134 = .ok (.lmul, 1) := by decide +kernel
theorem dX6_mixInto_135 : decode cX6_mixInto 135 = .ok (.aload_n 0, 1) := by decide +kernel
theorem dX6_mixInto_136 : decode cX6_mixInto 136 = .ok (.iload 5, 2) := by decide +kernel
theorem dX6_mixInto_138 : decode cX6_mixInto 138 = .ok (.iload 6, 2) := by decide +kernel
theorem dX6_mixInto_140 : decode cX6_mixInto 140 = .ok (.invokevirtual 74, 3) := by decide +kernel
theorem dX6_mixInto_143 : decode cX6_mixInto 143 = .ok (.i2l, 1) := by decide +kernel
theorem dX6_mixInto_144 : decode cX6_mixInto 144 = .ok (.ladd, 1) := by decide +kernel
theorem dX6_mixInto_145 : decode cX6_mixInto 145 = .ok (.lstore_n 3, 1) := by decide +kernel
theorem dX6_mixInto_146 : decode cX6_mixInto 146 = .ok (.iinc 6 1, 3) := by decide +kernel
theorem dX6_mixInto_149 : decode cX6_mixInto 149 = .ok (.goto (-28), 3) := by decide +kernel
theorem dX6_mixInto_152 : decode cX6_mixInto 152 = .ok (.iinc 5 1, 3) := by decide +kernel
theorem dX6_mixInto_155 : decode cX6_mixInto 155 = .ok (.goto (-46), 3) := by decide +kernel
theorem dX6_mixInto_158 : decode cX6_mixInto 158 = .ok (.lload_n 3, 1) := by decide +kernel
theorem dX6_mixInto_159 : decode cX6_mixInto 159 = .ok (.lreturn, 1) := by decide +kernel
theorem dX7_init_0 : decode cX7_init 0 = .ok (.aload_n 0, 1) := by decide +kernel
theorem dX7_init_1 : decode cX7_init 1 = .ok (.invokespecial 3, 3) := by decide +kernel
theorem dX7_init_4 : decode cX7_init 4 = .ok (.aload_n 0, 1) := by decide +kernel
theorem dX7_init_5 : decode cX7_init 5 = .ok (.bipush 9, 2) := by decide +kernel
theorem dX7_init_7 : decode cX7_init 7 = .ok (.newarray .int, 2) := by decide +kernel
theorem dX7_init_9 : decode cX7_init 9 = .ok (.putfield 9, 3) := by decide +kernel
theorem dX7_init_12 : decode cX7_init 12 = .ok (.aload_n 0, 1) := by decide +kernel
theorem dX7_init_13 : decode cX7_init 13 = .ok (.bipush 9, 2) := by decide +kernel
theorem dX7_init_15 : decode cX7_init 15 = .ok (.newarray .int, 2) := by decide +kernel
theorem dX7_init_17 : decode cX7_init 17 = .ok (.putfield 15, 3) := by decide +kernel
theorem dX7_init_20 : decode cX7_init 20 = .ok (.aload_n 0, 1) := by decide +kernel
theorem dX7_init_21 : decode cX7_init 21 = .ok (.bipush 72, 2) := by decide +kernel
theorem dX7_init_23 : decode cX7_init 23 = .ok (.newarray .int, 2) := by decide +kernel
theorem dX7_init_25 : decode cX7_init 25 = .ok (.putfield 18, 3) := by decide +kernel
theorem dX7_init_28 : decode cX7_init 28 = .ok (.aload_n 0, 1) := by decide +kernel
theorem dX7_init_29 : decode cX7_init 29 = .ok (.bipush 72, 2) := by decide +kernel
theorem dX7_init_31 : decode cX7_init 31 = .ok (.newarray .int, 2) := by decide +kernel
theorem dX7_init_33 : decode cX7_init 33 = .ok (.putfield 21, 3) := by decide +kernel
theorem dX7_init_36 : decode cX7_init 36 = .ok (.return_, 1) := by decide +kernel
theorem dX7_seat_0 : decode cX7_seat 0 = .ok (.aload_n 0, 1) := by decide +kernel
theorem dX7_seat_1 : decode cX7_seat 1 = .ok (.iload_n 2, 1) := by decide +kernel
theorem dX7_seat_2 : decode cX7_seat 2 = .ok (.putfield 24, 3) := by decide +kernel
theorem dX7_seat_5 : decode cX7_seat 5 = .ok (.iconst 0, 1) := by decide +kernel
theorem dX7_seat_6 : decode cX7_seat 6 = .ok (.istore_n 3, 1) := by decide +kernel
theorem dX7_seat_7 : decode cX7_seat 7 = .ok (.iload_n 3, 1) := by decide +kernel
theorem dX7_seat_8 : decode cX7_seat 8 = .ok (.iload_n 2, 1) := by decide +kernel
theorem dX7_seat_9 : decode cX7_seat 9 = .ok (.if_icmp .ge 18, 3) := by decide +kernel
theorem dX7_seat_12 : decode cX7_seat 12 = .ok (.aload_n 0, 1) := by decide +kernel
theorem dX7_seat_13 : decode cX7_seat 13 = .ok (.getfield 9, 3) := by decide +kernel
theorem dX7_seat_16 : decode cX7_seat 16 = .ok (.aload_n 1, 1) := by decide +kernel
theorem dX7_seat_17 : decode cX7_seat 17 = .ok (.iload_n 3, 1) := by decide +kernel
theorem dX7_seat_18 : decode cX7_seat 18 = .ok (.iaload, 1) := by decide +kernel
theorem dX7_seat_19 : decode cX7_seat 19 = .ok (.iload_n 3, 1) := by decide +kernel
theorem dX7_seat_20 : decode cX7_seat 20 = .ok (.iastore, 1) := by decide +kernel
theorem dX7_seat_21 : decode cX7_seat 21 = .ok (.iinc 3 1, 3) := by decide +kernel
theorem dX7_seat_24 : decode cX7_seat 24 = .ok (.goto (-17), 3) := by decide +kernel
theorem dX7_seat_27 : decode cX7_seat 27 = .ok (.return_, 1) := by decide +kernel
theorem dX7_fill_0 : decode cX7_fill 0 = .ok (.aload 4, 2) := by decide +kernel
theorem dX7_fill_2 : decode cX7_fill 2 = .ok (.aload_n 0, 1) := by decide +kernel
theorem dX7_fill_3 : decode cX7_fill 3 = .ok (.getfield 24, 3) := by decide +kernel
theorem dX7_fill_6 : decode cX7_fill 6 = .ok (.iconst 1, 1) := by decide +kernel
theorem dX7_fill_7 : decode cX7_fill 7 = .ok (.isub, 1) := by decide +kernel
theorem dX7_fill_8 : decode cX7_fill 8 = .ok (.putfield 28, 3) := by decide +kernel
theorem dX7_fill_11 : decode cX7_fill 11 = .ok (.aload 4, 2) := by decide +kernel
theorem dX7_fill_13 : decode cX7_fill 13 = .ok (.getfield 28, 3) := by decide +kernel
theorem dX7_fill_16 : decode cX7_fill 16 = .ok (.ifCond .gt 4, 3) := by decide +kernel
theorem dX7_fill_19 : decode cX7_fill 19 = .ok (.return_, 1) := by decide +kernel
theorem dX7_fill_20 : decode cX7_fill 20 = .ok (.iconst 0, 1) := by decide +kernel
theorem dX7_fill_21 : decode cX7_fill 21 = .ok (.istore 5, 2) := by decide +kernel
theorem dX7_fill_23 : decode cX7_fill 23 = .ok (.iload 5, 2) := by decide +kernel
theorem dX7_fill_25 : decode cX7_fill 25 = .ok (.aload 4, 2) := by decide +kernel
theorem dX7_fill_27 : decode cX7_fill 27 = .ok (.getfield 28, 3) := by decide +kernel
theorem dX7_fill_30 : decode cX7_fill 30 = .ok (.if_icmp .ge 45, 3) := by decide +kernel
theorem dX7_fill_33 : decode cX7_fill 33 = .ok (.aload_n 0, 1) := by decide +kernel
theorem dX7_fill_34 : decode cX7_fill 34 = .ok (.getfield 9, 3) := by decide +kernel
theorem dX7_fill_37 : decode cX7_fill 37 = .ok (.iload 5, 2) := by decide +kernel
theorem dX7_fill_39 : decode cX7_fill 39 = .ok (.iload_n 3, 1) := by decide +kernel
theorem dX7_fill_40 : decode cX7_fill 40 = .ok (.invokestatic 33, 3) := by decide +kernel
theorem dX7_fill_43 : decode cX7_fill 43 = .ok (.iaload, 1) := by decide +kernel
theorem dX7_fill_44 : decode cX7_fill 44 = .ok (.istore 6, 2) := by decide +kernel
theorem dX7_fill_46 : decode cX7_fill 46 = .ok (.aload_n 0, 1) := by decide +kernel
theorem dX7_fill_47 : decode cX7_fill 47 = .ok (.getfield 15, 3) := by decide +kernel
theorem dX7_fill_50 : decode cX7_fill 50 = .ok (.iload 5, 2) := by decide +kernel
theorem dX7_fill_52 : decode cX7_fill 52 = .ok (.aload_n 1, 1) := by decide +kernel
theorem dX7_fill_53 : decode cX7_fill 53 = .ok (.iload_n 2, 1) := by decide +kernel
theorem dX7_fill_54 : decode cX7_fill 54 = .ok (.iload 6, 2) := by decide +kernel
theorem dX7_fill_56 : decode cX7_fill 56 = .ok (.aload_n 0, 1) := by decide +kernel
theorem dX7_fill_57 : decode cX7_fill 57 = .ok (.getfield 18, 3) := by decide +kernel
theorem dX7_fill_60 : decode cX7_fill 60 = .ok (.iload 5, 2) := by decide +kernel
theorem dX7_fill_62 : decode cX7_fill 62 = .ok (.bipush 8, 2) := by decide +kernel
theorem dX7_fill_64 : decode cX7_fill 64 = .ok (.imul, 1) := by decide +kernel
theorem dX7_fill_65 : decode cX7_fill 65 = .ok (.invokevirtual 37, 3) := by decide +kernel
theorem dX7_fill_68 : decode cX7_fill 68 = .ok (.iastore, 1) := by decide +kernel
theorem dX7_fill_69 : decode cX7_fill 69 = .ok (.iinc 5 1, 3) := by decide +kernel
theorem dX7_fill_72 : decode cX7_fill 72 = .ok (.goto (-49), 3) := by decide +kernel
theorem dX7_fill_75 : decode cX7_fill 75 = .ok (.sipush 1000, 3) := by decide +kernel
theorem dX7_fill_78 : decode cX7_fill 78 = .ok (.istore 5, 2) := by decide +kernel
theorem dX7_fill_80 : decode cX7_fill 80 = .ok (.iconst 0, 1) := by decide +kernel
theorem dX7_fill_81 : decode cX7_fill 81 = .ok (.istore 6, 2) := by decide +kernel
theorem dX7_fill_83 : decode cX7_fill 83 = .ok (.iload 6, 2) := by decide +kernel
theorem dX7_fill_85 : decode cX7_fill 85 = .ok (.aload_n 0, 1) := by decide +kernel
theorem dX7_fill_86 : decode cX7_fill 86 = .ok (.getfield 15, 3) := by decide +kernel
theorem dX7_fill_89 : decode cX7_fill 89 = .ok (.iconst 0, 1) := by decide +kernel
theorem dX7_fill_90 : decode cX7_fill 90 = .ok (.iaload, 1) := by decide +kernel
theorem dX7_fill_91 : decode cX7_fill 91 = .ok (.if_icmp .ge 54, 3) := by decide +kernel
theorem dX7_fill_94 : decode cX7_fill 94 = .ok (.aload_n 0, 1) := by decide +kernel
theorem dX7_fill_95 : decode cX7_fill 95 = .ok (.aload_n 0, 1) := by decide +kernel
theorem dX7_fill_96 : decode cX7_fill 96 = .ok (.getfield 18, 3) := by decide +kernel
theorem dX7_fill_99 : decode cX7_fill 99 = .ok (.iload 6, 2) := by decide +kernel
theorem dX7_fill_101 : decode cX7_fill 101 = .ok (.iaload, 1) := by decide +kernel
theorem dX7_fill_102 : decode cX7_fill 102 = .ok (.aload 4, 2) := by decide +kernel
theorem dX7_fill_104 : decode cX7_fill 104 = .ok (.getfield 28, 3) := by decide +kernel
theorem dX7_fill_107 : decode cX7_fill 107 = .ok (.invokevirtual 43, 3) := by decide +kernel
theorem dX7_fill_110 : decode cX7_fill 110 = .ok (.aload_n 0, 1) := by decide +kernel
theorem dX7_fill_111 : decode cX7_fill 111 = .ok (.getfield 21, 3) := by decide +kernel
theorem dX7_fill_114 : decode cX7_fill 114 = .ok (.iload 6, 2) := by decide +kernel
theorem dX7_fill_116 : decode cX7_fill 116 = .ok (.iaload, 1) := by decide +kernel
theorem dX7_fill_117 : decode cX7_fill 117 = .ok (.iload 5, 2) := by decide +kernel
theorem dX7_fill_119 : decode cX7_fill 119 = .ok (.if_icmp .ge 20, 3) := by decide +kernel
theorem dX7_fill_122 : decode cX7_fill 122 = .ok (.aload_n 0, 1) := by decide +kernel
theorem dX7_fill_123 : decode cX7_fill 123 = .ok (.getfield 21, 3) := by decide +kernel
theorem dX7_fill_126 : decode cX7_fill 126 = .ok (.iload 6, 2) := by decide +kernel
theorem dX7_fill_128 : decode cX7_fill 128 = .ok (.iaload, 1) := by decide +kernel
theorem dX7_fill_129 : decode cX7_fill 129 = .ok (.istore 5, 2) := by decide +kernel
theorem dX7_fill_131 : decode cX7_fill 131 = .ok (.aload_n 0, 1) := by decide +kernel
theorem dX7_fill_132 : decode cX7_fill 132 = .ok (.iload 6, 2) := by decide +kernel
theorem dX7_fill_134 : decode cX7_fill 134 = .ok (.aload 4, 2) := by decide +kernel
theorem dX7_fill_136 : decode cX7_fill 136 = .ok (.invokevirtual 47, 3) := by decide +kernel
theorem dX7_fill_139 : decode cX7_fill 139 = .ok (.iinc 6 1, 3) := by decide +kernel
theorem dX7_fill_142 : decode cX7_fill 142 = .ok (.goto (-59), 3) := by decide +kernel
theorem dX7_fill_145 : decode cX7_fill 145 = .ok (.return_, 1) := by decide +kernel
theorem dX7_priceBeginningWith_0 : decode cX7_priceBeginningWith 0 = .ok (.iload_n 2, 1) := by decide +kernel
theorem dX7_priceBeginningWith_1 : decode cX7_priceBeginningWith 1 = .ok (.iconst 1, 1) := by decide +kernel
theorem dX7_priceBeginningWith_2 : decode cX7_priceBeginningWith 2 = .ok (.isub, 1) := by decide +kernel
theorem dX7_priceBeginningWith_3 : decode cX7_priceBeginningWith 3 = .ok (.istore_n 3, 1) := by decide +kernel
theorem dX7_priceBeginningWith_4 : decode cX7_priceBeginningWith 4 = .ok (.iload_n 3, 1) := by decide +kernel
theorem dX7_priceBeginningWith_5 : decode cX7_priceBeginningWith 5 = .ok (.ifCond .lt 80, 3) := by decide +kernel
theorem dX7_priceBeginningWith_8 : decode cX7_priceBeginningWith 8 = .ok (.iconst 0, 1) := by decide +kernel
theorem dX7_priceBeginningWith_9 : decode cX7_priceBeginningWith 9 = .ok (.istore 4, 2) := by decide +kernel
theorem dX7_priceBeginningWith_11 : decode cX7_priceBeginningWith 11 = .ok (.iload 4, 2) := by decide +kernel
theorem dX7_priceBeginningWith_13 : decode cX7_priceBeginningWith 13 = .ok (.aload_n 0, 1) := by decide +kernel
theorem dX7_priceBeginningWith_14 : decode cX7_priceBeginningWith 14 = .ok (.getfield 15, 3) := by decide +kernel
theorem dX7_priceBeginningWith_17 : decode cX7_priceBeginningWith 17 = .ok (.iload_n 3, 1) := by decide +kernel
theorem dX7_priceBeginningWith_18 : decode cX7_priceBeginningWith 18 = .ok (.iaload, 1) := by decide +kernel
theorem dX7_priceBeginningWith_19 : decode cX7_priceBeginningWith 19 = .ok (.if_icmp .ge 60, 3) := by decide +kernel
theorem dX7_priceBeginningWith_22 : decode cX7_priceBeginningWith 22 = .ok (.iload_n 3, 1) := by decide +kernel
theorem dX7_priceBeginningWith_23 : decode cX7_priceBeginningWith 23 = .ok (.bipush 8, 2) := by decide +kernel
theorem dX7_priceBeginningWith_25 : decode cX7_priceBeginningWith 25 = .ok (.imul, 1) := by decide +kernel
theorem dX7_priceBeginningWith_26 : decode cX7_priceBeginningWith 26 = .ok (.iload 4, 2) := by decide +kernel
theorem dX7_priceBeginningWith_28 : decode cX7_priceBeginningWith 28 = .ok (.iadd, 1) := by decide +kernel
theorem dX7_priceBeginningWith_29 : decode cX7_priceBeginningWith 29 = .ok (.istore 5, 2) := by decide +kernel
theorem dX7_priceBeginningWith_31 : decode cX7_priceBeginningWith 31 = .ok (.aload_n 0, 1) := by decide +kernel
theorem dX7_priceBeginningWith_32 : decode cX7_priceBeginningWith 32 = .ok (.getfield 21, 3) := by decide +kernel
theorem dX7_priceBeginningWith_35 : decode cX7_priceBeginningWith 35 = .ok (.iload 5, 2) := by decide +kernel
theorem dX7_priceBeginningWith_37 : decode cX7_priceBeginningWith 37 = .ok (.iload_n 3, 1) := by decide +kernel
theorem dX7_priceBeginningWith_38 : decode cX7_priceBeginningWith 38 = .ok (.iload_n 2, 1) := by decide +kernel
theorem dX7_priceBeginningWith_39 : decode cX7_priceBeginningWith 39 = .ok (.iconst 1, 1) := by decide +kernel
theorem dX7_priceBeginningWith_40 : decode cX7_priceBeginningWith 40 = .ok (.isub, 1) := by decide +kernel
theorem dX7_priceBeginningWith_41 : decode cX7_priceBeginningWith 41 = .ok (.if_icmp .ne 17, 3) := by decide +kernel
theorem dX7_priceBeginningWith_44 : decode cX7_priceBeginningWith 44 = .ok (.aload_n 0, 1) := by decide +kernel
theorem dX7_priceBeginningWith_45 : decode cX7_priceBeginningWith 45 = .ok (.getfield 18, 3) := by decide +kernel
theorem dX7_priceBeginningWith_48 : decode cX7_priceBeginningWith 48 = .ok (.iload 5, 2) := by decide +kernel
theorem dX7_priceBeginningWith_50 : decode cX7_priceBeginningWith 50 = .ok (.iaload, 1) := by decide +kernel
theorem dX7_priceBeginningWith_51 : decode cX7_priceBeginningWith 51 = .ok (.iload_n 1, 1) := by decide +kernel
theorem dX7_priceBeginningWith_52 : decode cX7_priceBeginningWith 52 = .ok (.invokestatic 51, 3) := by decide +kernel
theorem dX7_priceBeginningWith_55 : decode cX7_priceBeginningWith 55 = .ok (.goto 17, 3) := by decide +kernel
theorem dX7_priceBeginningWith_58 : decode cX7_priceBeginningWith 58 = .ok (.aload_n 0, 1) := by decide +kernel
theorem dX7_priceBeginningWith_59 : decode cX7_priceBeginningWith 59 = .ok (.iload_n 3, 1) := by decide +kernel
theorem dX7_priceBeginningWith_60 : decode cX7_priceBeginningWith 60 = .ok (.iconst 1, 1) := by decide +kernel
theorem dX7_priceBeginningWith_61 : decode cX7_priceBeginningWith 61 = .ok (.iadd, 1) := by decide +kernel
theorem dX7_priceBeginningWith_62 : decode cX7_priceBeginningWith 62 = .ok (.aload_n 0, 1) := by decide +kernel
theorem dX7_priceBeginningWith_63 : decode cX7_priceBeginningWith 63 = .ok (.getfield 18, 3) := by decide +kernel
theorem dX7_priceBeginningWith_66 : decode cX7_priceBeginningWith 66 = .ok (.iload 5, 2) := by decide +kernel
theorem dX7_priceBeginningWith_68 : decode cX7_priceBeginningWith 68 = .ok (.iaload, 1) := by decide +kernel
theorem dX7_priceBeginningWith_69 : decode cX7_priceBeginningWith 69 = .ok (.invokevirtual 54, 3) := by decide +kernel
theorem dX7_priceBeginningWith_72 : decode cX7_priceBeginningWith 72 = .ok (.iastore, 1) := by decide +kernel
theorem dX7_priceBeginningWith_73 : decode cX7_priceBeginningWith 73 = .ok (.iinc 4 1, 3) := by decide +kernel
theorem dX7_priceBeginningWith_76 : decode cX7_priceBeginningWith 76 = .ok (.goto (-65), 3) := by decide +kernel
theorem dX7_priceBeginningWith_79 : decode cX7_priceBeginningWith 79 = .ok (.iinc 3 (-1), 3) := by decide +kernel
theorem dX7_priceBeginningWith_82 : decode cX7_priceBeginningWith 82 = .ok (.goto (-78), 3) := by decide +kernel
theorem dX7_priceBeginningWith_85 : decode cX7_priceBeginningWith 85 = .ok (.return_, 1) := by decide +kernel
theorem dX7_cheapestAt_0 : decode cX7_cheapestAt 0 = .ok (.sipush 1000, 3) := by decide +kernel
theorem dX7_cheapestAt_3 : decode cX7_cheapestAt 3 = .ok (.istore_n 3, 1) := by decide +kernel
theorem dX7_cheapestAt_4 : decode cX7_cheapestAt 4 = .ok (.iconst 0, 1) := by decide +kernel
theorem dX7_cheapestAt_5 : decode cX7_cheapestAt 5 = .ok (.istore 4, 2) := by decide +kernel
theorem dX7_cheapestAt_7 : decode cX7_cheapestAt 7 = .ok (.iload 4, 2) := by decide +kernel
theorem dX7_cheapestAt_9 : decode cX7_cheapestAt 9 = .ok (.aload_n 0, 1) := by decide +kernel
theorem dX7_cheapestAt_10 : decode cX7_cheapestAt 10 = .ok (.getfield 15, 3) := by decide +kernel
theorem dX7_cheapestAt_13 : decode cX7_cheapestAt 13 = .ok (.iload_n 1, 1) := by decide +kernel
theorem dX7_cheapestAt_14 : decode cX7_cheapestAt 14 = .ok (.iaload, 1) := by decide +kernel
theorem dX7_cheapestAt_15 : decode cX7_cheapestAt 15 = .ok (.if_icmp .ge 42, 3) := by decide +kernel
theorem dX7_cheapestAt_18 : decode cX7_cheapestAt 18 = .ok (.iload_n 1, 1) := by decide +kernel
theorem dX7_cheapestAt_19 : decode cX7_cheapestAt 19 = .ok (.bipush 8, 2) := by decide +kernel
theorem dX7_cheapestAt_21 : decode cX7_cheapestAt 21 = .ok (.imul, 1) := by decide +kernel
theorem dX7_cheapestAt_22 : decode cX7_cheapestAt 22 = .ok (.iload 4, 2) := by decide +kernel
theorem dX7_cheapestAt_24 : decode cX7_cheapestAt 24 = .ok (.iadd, 1) := by decide +kernel
theorem dX7_cheapestAt_25 : decode cX7_cheapestAt 25 = .ok (.istore 5, 2) := by decide +kernel
theorem dX7_cheapestAt_27 : decode cX7_cheapestAt 27 = .ok (.iload_n 3, 1) := by decide +kernel
theorem dX7_cheapestAt_28 : decode cX7_cheapestAt 28 = .ok (.iload_n 2, 1) := by decide +kernel
theorem dX7_cheapestAt_29 : decode cX7_cheapestAt 29 = .ok (.aload_n 0, 1) := by decide +kernel
theorem dX7_cheapestAt_30 : decode cX7_cheapestAt 30 = .ok (.getfield 18, 3) := by decide +kernel
theorem dX7_cheapestAt_33 : decode cX7_cheapestAt 33 = .ok (.iload 5, 2) := by decide +kernel
theorem dX7_cheapestAt_35 : decode cX7_cheapestAt 35 = .ok (.iaload, 1) := by decide +kernel
theorem dX7_cheapestAt_36 : decode cX7_cheapestAt 36 = .ok (.invokestatic 51, 3) := by decide +kernel
theorem dX7_cheapestAt_39 : decode cX7_cheapestAt 39 = .ok (.aload_n 0, 1) := by decide +kernel
theorem dX7_cheapestAt_40 : decode cX7_cheapestAt 40 = .ok (.getfield 21, 3) := by decide +kernel
theorem dX7_cheapestAt_43 : decode cX7_cheapestAt 43 = .ok (.iload 5, 2) := by decide +kernel
theorem dX7_cheapestAt_45 : decode cX7_cheapestAt 45 = .ok (.iaload, 1) := by decide +kernel
theorem dX7_cheapestAt_46 : decode cX7_cheapestAt 46 = .ok (.iadd, 1) := by decide +kernel
theorem dX7_cheapestAt_47 : decode cX7_cheapestAt 47 = .ok (.invokestatic 57, 3) := by decide +kernel
theorem dX7_cheapestAt_50 : decode cX7_cheapestAt 50 = .ok (.istore_n 3, 1) := by decide +kernel
theorem dX7_cheapestAt_51 : decode cX7_cheapestAt 51 = .ok (.iinc 4 1, 3) := by decide +kernel
theorem dX7_cheapestAt_54 : decode cX7_cheapestAt 54 = .ok (.goto (-47), 3) := by decide +kernel
theorem dX7_cheapestAt_57 : decode cX7_cheapestAt 57 = .ok (.iload_n 3, 1) := by decide +kernel
theorem dX7_cheapestAt_58 : decode cX7_cheapestAt 58 = .ok (.ireturn, 1) := by decide +kernel
