theorem dX10_init_0 : decode cX10_init 0 = .ok (.aload_n 0, 1) := by decide +kernel
theorem dX10_init_1 : decode cX10_init 1 = .ok (.invokespecial 1, 3) := by decide +kernel
theorem dX10_init_4 : decode cX10_init 4 = .ok (.aload_n 0, 1) := by decide +kernel
theorem dX10_init_5 : decode cX10_init 5 = .ok (.sipush 140, 3) := by decide +kernel
theorem dX10_init_8 : decode cX10_init 8 = .ok (.newarray .int, 2) := by decide +kernel
theorem dX10_init_10 : decode cX10_init 10 = .ok (.putfield 7, 3) := by decide +kernel
theorem dX10_init_13 : decode cX10_init 13 = .ok (.aload_n 0, 1) := by decide +kernel
theorem dX10_init_14 : decode cX10_init 14 = .ok (.sipush 560, 3) := by decide +kernel
theorem dX10_init_17 : decode cX10_init 17 = .ok (.newarray .int, 2) := by decide +kernel
theorem dX10_init_19 : decode cX10_init 19 = .ok (.putfield 13, 3) := by decide +kernel
theorem dX10_init_22 : decode cX10_init 22 = .ok (.aload_n 0, 1) := by decide +kernel
theorem dX10_init_23 : decode cX10_init 23 = .ok (.bipush 100, 2) := by decide +kernel
theorem dX10_init_25 : decode cX10_init 25 = .ok (.newarray .int, 2) := by decide +kernel
theorem dX10_init_27 : decode cX10_init 27 = .ok (.putfield 16, 3) := by decide +kernel
theorem dX10_init_30 : decode cX10_init 30 = .ok (.aload_n 0, 1) := by decide +kernel
theorem dX10_init_31 : decode cX10_init 31 = .ok (.bipush 81, 2) := by decide +kernel
theorem dX10_init_33 : decode cX10_init 33 = .ok (.newarray .int, 2) := by decide +kernel
theorem dX10_init_35 : decode cX10_init 35 = .ok (.putfield 19, 3) := by decide +kernel
theorem dX10_init_38 : decode cX10_init 38 = .ok (.aload_n 0, 1) := by decide +kernel
theorem dX10_init_39 : decode cX10_init 39 = .ok (.bipush 9, 2) := by decide +kernel
theorem dX10_init_41 : decode cX10_init 41 = .ok (.newarray .int, 2) := by decide +kernel
theorem dX10_init_43 : decode cX10_init 43 = .ok (.putfield 22, 3) := by decide +kernel
theorem dX10_init_46 : decode cX10_init 46 = .ok (.aload_n 0, 1) := by decide +kernel
theorem dX10_init_47 : decode cX10_init 47 = .ok (.bipush 8, 2) := by decide +kernel
theorem dX10_init_49 : decode cX10_init 49 = .ok (.newarray .int, 2) := by decide +kernel
theorem dX10_init_51 : decode cX10_init 51 = .ok (.putfield 25, 3) := by decide +kernel
theorem dX10_init_54 : decode cX10_init 54 = .ok (.aload_n 0, 1) := by decide +kernel
theorem dX10_init_55 : decode cX10_init 55 = .ok (.bipush 8, 2) := by decide +kernel
theorem dX10_init_57 : decode cX10_init 57 = .ok (.newarray .int, 2) := by decide +kernel
theorem dX10_init_59 : decode cX10_init 59 = .ok (.putfield 28, 3) := by decide +kernel
theorem dX10_init_62 : decode cX10_init 62 = .ok (.aload_n 0, 1) := by decide +kernel
theorem dX10_init_63 : decode cX10_init 63 = .ok (.bipush 8, 2) := by decide +kernel
theorem dX10_init_65 : decode cX10_init 65 = .ok (.newarray .int, 2) := by decide +kernel
theorem dX10_init_67 : decode cX10_init 67 = .ok (.putfield 31, 3) := by decide +kernel
theorem dX10_init_70 : decode cX10_init 70 = .ok (.aload_n 0, 1) := by decide +kernel
theorem dX10_init_71 : decode cX10_init 71 = .ok (.sipush 153, 3) := by decide +kernel
theorem dX10_init_74 : decode cX10_init 74 = .ok (.newarray .int, 2) := by decide +kernel
theorem dX10_init_76 : decode cX10_init 76 = .ok (.putfield 34, 3) := by decide +kernel
theorem dX10_init_79 : decode cX10_init 79 = .ok (.aload_n 0, 1) := by decide +kernel
theorem dX10_init_80 : decode cX10_init 80 = .ok (.bipush 10, 2) := by decide +kernel
theorem dX10_init_82 : decode cX10_init 82 = .ok (.newarray .int, 2) := by decide +kernel
theorem dX10_init_84 : decode cX10_init 84 = .ok (.putfield 37, 3) := by decide +kernel
theorem dX10_init_87 : decode cX10_init 87 = .ok (.aload_n 0, 1) := by decide +kernel
theorem dX10_init_88 : decode cX10_init 88 = .ok (.bipush 9, 2) := by decide +kernel
theorem dX10_init_90 : decode cX10_init 90 = .ok (.newarray .int, 2) := by decide +kernel
theorem dX10_init_92 : decode cX10_init 92 = .ok (.putfield 40, 3) := by decide +kernel
theorem dX10_init_95 : decode cX10_init 95 = .ok (.aload_n 0, 1) := by decide +kernel
theorem dX10_init_96 : decode cX10_init 96 = .ok (.bipush 9, 2) := by decide +kernel
theorem dX10_init_98 : decode cX10_init 98 = .ok (.newarray .int, 2) := by decide +kernel
theorem dX10_init_100 : decode cX10_init 100 = .ok (.putfield 43, 3) := by decide +kernel
theorem dX10_init_103 : decode cX10_init 103 = .ok (.aload_n 0, 1) := by decide +kernel
theorem dX10_init_104 : decode cX10_init 104 = .ok (.bipush 10, 2) := by decide +kernel
theorem dX10_init_106 : decode cX10_init 106 = .ok (.newarray .int, 2) := by decide +kernel
theorem dX10_init_108 : decode cX10_init 108 = .ok (.putfield 46, 3) := by decide +kernel
theorem dX10_init_111 : decode cX10_init 111 = .ok (.aload_n 0, 1) := by decide +kernel
theorem dX10_init_112 : decode cX10_init 112 = .ok (.sipush 140, 3) := by decide +kernel
theorem dX10_init_115 : decode cX10_init 115 = .ok (.newarray .int, 2) := by decide +kernel
theorem dX10_init_117 : decode cX10_init 117 = .ok (.putfield 49, 3) := by decide +kernel
theorem dX10_init_120 : decode cX10_init 120 = .ok (.return_, 1) := by decide +kernel
theorem dX10_thrown_0 : decode cX10_thrown 0 = .ok (.aload_n 0, 1) := by decide +kernel
theorem dX10_thrown_1 : decode cX10_thrown 1 = .ok (.getfield 52, 3) := by decide +kernel
theorem dX10_thrown_4 : decode cX10_thrown 4 = .ok (.ireturn, 1) := by decide +kernel
theorem dX10_refused_0 : decode cX10_refused 0 = .ok (.aload_n 0, 1) := by decide +kernel
theorem dX10_refused_1 : decode cX10_refused 1 = .ok (.iload_n 1, 1) := by decide +kernel
theorem dX10_refused_2 : decode cX10_refused 2 = .ok (.putfield 52, 3) := by decide +kernel
theorem dX10_refused_5 : decode cX10_refused 5 = .ok (.iload_n 1, 1) := by decide +kernel
theorem dX10_refused_6 : decode cX10_refused 6 = .ok (.ifCond .le 7, 3) := by decide +kernel
theorem dX10_refused_9 : decode cX10_refused 9 = .ok (.iconst 1, 1) := by decide +kernel
theorem dX10_refused_10 : decode cX10_refused 10 = .ok (.goto 4, 3) := by decide +kernel
theorem dX10_refused_13 : decode cX10_refused 13 = .ok (.iconst 0, 1) := by decide +kernel
theorem dX10_refused_14 : decode cX10_refused 14 = .ok (.ireturn, 1) := by decide +kernel
theorem dX10_within_0 : decode cX10_within 0 = .ok (.iload_n 0, 1) := by decide +kernel
theorem dX10_within_1 : decode cX10_within 1 = .ok (.iload_n 1, 1) := by decide +kernel
theorem dX10_within_2 : decode cX10_within 2 = .ok (.if_icmp .lt 12, 3) := by decide +kernel
theorem dX10_within_5 : decode cX10_within 5 = .ok (.iload_n 0, 1) := by decide +kernel
theorem dX10_within_6 : decode cX10_within 6 = .ok (.iload_n 2, 1) := by decide +kernel
theorem dX10_within_7 : decode cX10_within 7 = .ok (.if_icmp .gt 7, 3) := by decide +kernel
theorem dX10_within_10 : decode cX10_within 10 = .ok (.iconst 1, 1) := by decide +kernel
theorem dX10_within_11 : decode cX10_within 11 = .ok (.goto 4, 3) := by decide +kernel
theorem dX10_within_14 : decode cX10_within 14 = .ok (.iconst 0, 1) := by decide +kernel
theorem dX10_within_15 : decode cX10_within 15 = .ok (.ireturn, 1) := by decide +kernel
theorem dX10_has_0 : decode cX10_has 0 = .ok (.iload_n 0, 1) := by decide +kernel
theorem dX10_has_1 : decode cX10_has 1 = .ok (.iload_n 1, 1) := by decide +kernel
theorem dX10_has_2 : decode cX10_has 2 = .ok (.ishr, 1) := by decide +kernel
theorem dX10_has_3 : decode cX10_has 3 = .ok (.iconst 1, 1) := by decide +kernel
theorem dX10_has_4 : decode cX10_has 4 = .ok (.iand, 1) := by decide +kernel
theorem dX10_has_5 : decode cX10_has 5 = .ok (.iconst 1, 1) := by decide +kernel
theorem dX10_has_6 : decode cX10_has 6 = .ok (.if_icmp .ne 7, 3) := by decide +kernel
theorem dX10_has_9 : decode cX10_has 9 = .ok (.iconst 1, 1) := by decide +kernel
theorem dX10_has_10 : decode cX10_has 10 = .ok (.goto 4, 3) := by decide +kernel
theorem dX10_has_13 : decode cX10_has 13 = .ok (.iconst 0, 1) := by decide +kernel
theorem dX10_has_14 : decode cX10_has 14 = .ok (.ireturn, 1) := by decide +kernel
theorem dX10_isNode_0 : decode cX10_isNode 0 = .ok (.iload_n 1, 1) := by decide +kernel
theorem dX10_isNode_1 : decode cX10_isNode 1 = .ok (.iconst 0, 1) := by decide +kernel
theorem dX10_isNode_2 : decode cX10_isNode 2 = .ok (.aload_n 0, 1) := by decide +kernel
theorem dX10_isNode_3 : decode cX10_isNode 3 = .ok (.getfield 7, 3) := by decide +kernel
theorem dX10_isNode_6 : decode cX10_isNode 6 = .ok (.iconst 0, 1) := by decide +kernel
theorem dX10_isNode_7 : decode cX10_isNode 7 = .ok (.iaload, 1) := by decide +kernel
theorem dX10_isNode_8 : decode cX10_isNode 8 = .ok (.iconst 1, 1) := by decide +kernel
theorem dX10_isNode_9 : decode cX10_isNode 9 = .ok (.isub, 1) := by decide +kernel
theorem dX10_isNode_10 : decode cX10_isNode 10 = .ok (.invokestatic 56, 3) := by decide +kernel
theorem dX10_isNode_13 : decode cX10_isNode 13 = .ok (.ireturn, 1) := by decide +kernel
theorem dX10_isLink_0 : decode cX10_isLink 0 = .ok (.iload_n 1, 1) := by decide +kernel
theorem dX10_isLink_1 : decode cX10_isLink 1 = .ok (.iconst 0, 1) := by decide +kernel
theorem dX10_isLink_2 : decode cX10_isLink 2 = .ok (.aload_n 0, 1) := by decide +kernel
theorem dX10_isLink_3 : decode cX10_isLink 3 = .ok (.getfield 7, 3) := by decide +kernel
theorem dX10_isLink_6 : decode cX10_isLink 6 = .ok (.iconst 1, 1) := by decide +kernel
theorem dX10_isLink_7 : decode cX10_isLink 7 = .ok (.iaload, 1) := by decide +kernel
theorem dX10_isLink_8 : decode cX10_isLink 8 = .ok (.iconst 1, 1) := by decide +kernel
theorem dX10_isLink_9 : decode cX10_isLink 9 = .ok (.isub, 1) := by decide +kernel
theorem dX10_isLink_10 : decode cX10_isLink 10 = .ok (.invokestatic 56, 3) := by decide +kernel
theorem dX10_isLink_13 : decode cX10_isLink 13 = .ok (.ireturn, 1) := by decide +kernel
theorem dX10_part_0 : decode cX10_part 0 = .ok (.aload_n 0, 1) := by decide +kernel
theorem dX10_part_1 : decode cX10_part 1 = .ok (.getfield 7, 3) := by decide +kernel
theorem dX10_part_4 : decode cX10_part 4 = .ok (.iconst 2, 1) := by decide +kernel
theorem dX10_part_5 : decode cX10_part 5 = .ok (.iconst 3, 1) := by decide +kernel
theorem dX10_part_6 : decode cX10_part 6 = .ok (.iload_n 1, 1) := by decide +kernel
theorem dX10_part_7 : decode cX10_part 7 = .ok (.imul, 1) := by decide +kernel
theorem dX10_part_8 : decode cX10_part 8 = .ok (.iadd, 1) := by decide +kernel
theorem dX10_part_9 : decode cX10_part 9 = .ok (.iload_n 2, 1) := by decide +kernel
theorem dX10_part_10 : decode cX10_part 10 = .ok (.iadd, 1) := by decide +kernel
theorem dX10_part_11 : decode cX10_part 11 = .ok (.iaload, 1) := by decide +kernel
theorem dX10_part_12 : decode cX10_part 12 = .ok (.ireturn, 1) := by decide +kernel
theorem dX10_isOf_0 : decode cX10_isOf 0 = .ok (.aload_n 0, 1) := by decide +kernel
theorem dX10_isOf_1 : decode cX10_isOf 1 = .ok (.iload_n 1, 1) := by decide +kernel
theorem dX10_isOf_2 : decode cX10_isOf 2 = .ok (.iconst 0, 1) := by decide +kernel
theorem dX10_isOf_3 : decode cX10_isOf 3 = .ok (.invokevirtual 60, 3) := by decide +kernel
theorem dX10_isOf_6 : decode cX10_isOf 6 = .ok (.iload_n 2, 1) := by decide +kernel
theorem dX10_isOf_7 : decode cX10_isOf 7 = .ok (.if_icmp .eq 13, 3) := by decide +kernel
theorem dX10_isOf_10 : decode cX10_isOf 10 = .ok (.aload_n 0, 1) := by decide +kernel
theorem dX10_isOf_11 : decode cX10_isOf 11 = .ok (.iload_n 1, 1) := by decide +kernel
theorem dX10_isOf_12 : decode cX10_isOf 12 = .ok (.iconst 1, 1) := by decide +kernel
theorem dX10_isOf_13 : decode cX10_isOf 13 = .ok (.invokevirtual 60, 3) := by decide +kernel
theorem dX10_isOf_16 : decode cX10_isOf 16 = .ok (.iload_n 2, 1) := by decide +kernel
theorem dX10_isOf_17 : decode cX10_isOf 17 = .ok (.if_icmp .ne 7, 3) := by decide +kernel
theorem dX10_isOf_20 : decode cX10_isOf 20 = .ok (.iconst 1, 1) := by decide +kernel
theorem dX10_isOf_21 : decode cX10_isOf 21 = .ok (.goto 4, 3) := by decide +kernel
theorem dX10_isOf_24 : decode cX10_isOf 24 = .ok (.iconst 0, 1) := by decide +kernel
theorem dX10_isOf_25 : decode cX10_isOf 25 = .ok (.ireturn, 1) := by decide +kernel
theorem dX10_otherEnd_0 : decode cX10_otherEnd 0 = .ok (.aload_n 0, 1) := by decide +kernel
theorem dX10_otherEnd_1 : decode cX10_otherEnd 1 = .ok (.iload_n 1, 1) := by decide +kernel
theorem dX10_otherEnd_2 : decode cX10_otherEnd 2 = .ok (.iconst 0, 1) := by decide +kernel
theorem dX10_otherEnd_3 : decode cX10_otherEnd 3 = .ok (.invokevirtual 60, 3) := by decide +kernel
theorem dX10_otherEnd_6 : decode cX10_otherEnd 6 = .ok (.iload_n 2, 1) := by decide +kernel
theorem dX10_otherEnd_7 : decode cX10_otherEnd 7 = .ok (.if_icmp .ne 12, 3) := by decide +kernel
theorem dX10_otherEnd_10 : decode cX10_otherEnd 10 = .ok (.aload_n 0, 1) := by decide +kernel
theorem dX10_otherEnd_11 : decode cX10_otherEnd 11 = .ok (.iload_n 1, 1) := by decide +kernel
theorem dX10_otherEnd_12 : decode cX10_otherEnd 12 = .ok (.iconst 1, 1) := by decide +kernel
theorem dX10_otherEnd_13 : decode cX10_otherEnd 13 = .ok (.invokevirtual 60, 3) := by decide +kernel
theorem dX10_otherEnd_16 : decode cX10_otherEnd 16 = .ok (.goto 9, 3) := by decide +kernel
theorem dX10_otherEnd_19 : decode cX10_otherEnd 19 = .ok (.aload_n 0, 1) := by decide +kernel
theorem dX10_otherEnd_20 : decode cX10_otherEnd 20 = .ok (.iload_n 1, 1) := by decide +kernel
theorem dX10_otherEnd_21 : decode cX10_otherEnd 21 = .ok (.iconst 0, 1) := by decide +kernel
theorem dX10_otherEnd_22 : decode cX10_otherEnd 22 = .ok (.invokevirtual 60, 3) := by decide +kernel
theorem dX10_otherEnd_25 : decode cX10_otherEnd 25 = .ok (.ireturn, 1) := by decide +kernel
theorem dX10_entryAt_0 : decode cX10_entryAt 0 = .ok (.aload_n 0, 1) := by decide +kernel
theorem dX10_entryAt_1 : decode cX10_entryAt 1 = .ok (.getfield 7, 3) := by decide +kernel
theorem dX10_entryAt_4 : decode cX10_entryAt 4 = .ok (.bipush 59, 2) := by decide +kernel
theorem dX10_entryAt_6 : decode cX10_entryAt 6 = .ok (.bipush 9, 2) := by decide +kernel
theorem dX10_entryAt_8 : decode cX10_entryAt 8 = .ok (.iload_n 1, 1) := by decide +kernel
theorem dX10_entryAt_9 : decode cX10_entryAt 9 = .ok (.imul, 1) := by decide +kernel
theorem dX10_entryAt_10 : decode cX10_entryAt 10 = .ok (.iadd, 1) := by decide +kernel
theorem dX10_entryAt_11 : decode cX10_entryAt 11 = .ok (.iload_n 2, 1) := by decide +kernel
theorem dX10_entryAt_12 : decode cX10_entryAt 12 = .ok (.iadd, 1) := by decide +kernel
theorem dX10_entryAt_13 : decode cX10_entryAt 13 = .ok (.iaload, 1) := by decide +kernel
theorem dX10_entryAt_14 : decode cX10_entryAt 14 = .ok (.iconst 1, 1) := by decide +kernel
theorem dX10_entryAt_15 : decode cX10_entryAt 15 = .ok (.isub, 1) := by decide +kernel
theorem dX10_entryAt_16 : decode cX10_entryAt 16 = .ok (.ireturn, 1) := by decide +kernel
theorem dX10_saves_0 : decode cX10_saves 0 = .ok (.aload_n 0, 1) := by decide +kernel
theorem dX10_saves_1 : decode cX10_saves 1 = .ok (.getfield 64, 3) := by decide +kernel
theorem dX10_saves_4 : decode cX10_saves 4 = .ok (.iconst 4, 1) := by decide +kernel
theorem dX10_saves_5 : decode cX10_saves 5 = .ok (.if_icmp .ne 44, 3) := by decide +kernel
theorem dX10_saves_8 : decode cX10_saves 8 = .ok (.iconst 0, 1) := by decide +kernel
theorem dX10_saves_9 : decode cX10_saves 9 = .ok (.istore_n 1, 1) := by decide +kernel
theorem dX10_saves_10 : decode cX10_saves 10 = .ok (.iload_n 1, 1) := by decide +kernel
theorem dX10_saves_11 : decode cX10_saves 11 = .ok (.sipush 420, 3) := by decide +kernel
theorem dX10_saves_14 : decode cX10_saves 14 = .ok (.if_icmp .ge 25, 3) := by decide +kernel
theorem dX10_saves_17 : decode cX10_saves 17 = .ok (.aload_n 0, 1) := by decide +kernel
theorem dX10_saves_18 : decode cX10_saves 18 = .ok (.getfield 13, 3) := by decide +kernel
theorem dX10_saves_21 : decode cX10_saves 21 = .ok (.iload_n 1, 1) := by decide +kernel
theorem dX10_saves_22 : decode cX10_saves 22 = .ok (.aload_n 0, 1) := by decide +kernel
theorem dX10_saves_23 : decode cX10_saves 23 = .ok (.getfield 13, 3) := by decide +kernel
theorem dX10_saves_26 : decode cX10_saves 26 = .ok (.iload_n 1, 1) := by decide +kernel
theorem dX10_saves_27 : decode cX10_saves 27 = .ok (.sipush 140, 3) := by decide +kernel
theorem dX10_saves_30 : decode cX10_saves 30 = .ok (.iadd, 1) := by decide +kernel
theorem dX10_saves_31 : decode cX10_saves 31 = .ok (.iaload, 1) := by decide +kernel
theorem dX10_saves_32 : decode cX10_saves 32 = .ok (.iastore, 1) := by decide +kernel
theorem dX10_saves_33 : decode cX10_saves 33 = .ok (.iinc 1 1, 3) := by decide +kernel
theorem dX10_saves_36 : decode cX10_saves 36 = .ok (.goto (-26), 3) := by decide +kernel
theorem dX10_saves_39 : decode cX10_saves 39 = .ok (.aload_n 0, 1) := by decide +kernel
theorem dX10_saves_40 : decode cX10_saves 40 = .ok (.dup, 1) := by decide +kernel
theorem dX10_saves_41 : decode cX10_saves 41 = .ok (.getfield 64, 3) := by decide +kernel
theorem dX10_saves_44 : decode cX10_saves 44 = .ok (.iconst 1, 1) := by decide +kernel
theorem dX10_saves_45 : decode cX10_saves 45 = .ok (.isub, 1) := by decide +kernel
theorem dX10_saves_46 : decode cX10_saves 46 = .ok (.putfield 64, 3) := by decide +kernel
theorem dX10_saves_49 : decode cX10_saves 49 = .ok (.iconst 0, 1) := by decide +kernel
theorem dX10_saves_50 : decode cX10_saves 50 = .ok (.istore_n 1, 1) := by decide +kernel
theorem dX10_saves_51 : decode cX10_saves 51 = .ok (.iload_n 1, 1) := by decide +kernel
theorem dX10_saves_52 : decode cX10_saves 52 = .ok (.sipush 140, 3) := by decide +kernel
theorem dX10_saves_55 : decode cX10_saves 55 = .ok (.if_icmp .ge 30, 3) := by decide +kernel
theorem dX10_saves_58 : decode cX10_saves 58 = .ok (.aload_n 0, 1) := by decide +kernel
theorem dX10_saves_59 : decode cX10_saves 59 = .ok (.getfield 13, 3) := by decide +kernel
theorem dX10_saves_62 : decode cX10_saves 62 = .ok (.sipush 140, 3) := by decide +kernel
theorem dX10_saves_65 : decode cX10_saves 65 = .ok (.aload_n 0, 1) := by decide +kernel
theorem dX10_saves_66 : decode cX10_saves 66 = .ok (.getfield 64, 3) := by decide +kernel
theorem dX10_saves_69 : decode cX10_saves 69 = .ok (.imul, 1) := by decide +kernel
theorem dX10_saves_70 : decode cX10_saves 70 = .ok (.iload_n 1, 1) := by decide +kernel
theorem dX10_saves_71 : decode cX10_saves 71 = .ok (.iadd, 1) := by decide +kernel
theorem dX10_saves_72 : decode cX10_saves 72 = .ok (.aload_n 0, 1) := by decide +kernel
theorem dX10_saves_73 : decode cX10_saves 73 = .ok (.getfield 7, 3) := by decide +kernel
theorem dX10_saves_76 : decode cX10_saves 76 = .ok (.iload_n 1, 1) := by decide +kernel
theorem dX10_saves_77 : decode cX10_saves 77 = .ok (.iaload, 1) := by decide +kernel
theorem dX10_saves_78 : decode cX10_saves 78 = .ok (.iastore, 1) := by decide +kernel
theorem dX10_saves_79 : decode cX10_saves 79 = .ok (.iinc 1 1, 3) := by decide +kernel
theorem dX10_saves_82 : decode cX10_saves 82 = .ok (.goto (-31), 3) := by decide +kernel
theorem dX10_saves_85 : decode cX10_saves 85 = .ok (.aload_n 0, 1) := by decide +kernel
theorem dX10_saves_86 : decode cX10_saves 86 = .ok (.dup, 1) := by decide +kernel
theorem dX10_saves_87 : decode cX10_saves 87 = .ok (.getfield 64, 3) := by decide +kernel
theorem dX10_saves_90 : decode cX10_saves 90 = .ok (.iconst 1, 1) := by decide +kernel
theorem dX10_saves_91 : decode cX10_saves 91 = .ok (.iadd, 1) := by decide +kernel
theorem dX10_saves_92 : decode cX10_saves 92 = .ok (.putfield 64, 3) := by decide +kernel
theorem dX10_saves_95 : decode cX10_saves 95 = .ok (.return_, 1) := by decide +kernel
theorem dX10_undo_0 : decode cX10_undo 0 = .ok (.aload_n 0, 1) := by decide +kernel
theorem dX10_undo_1 : decode cX10_undo 1 = .ok (.aload_n 0, 1) := by decide +kernel
theorem dX10_undo_2 : decode cX10_undo 2 = .ok (.getfield 64, 3) := by decide +kernel
theorem dX10_undo_5 : decode cX10_undo 5 = .ok (.ifCond .ne 7, 3) := by decide +kernel
theorem dX10_undo_8 : decode cX10_undo 8 = .ok (.iconst 1, 1) := by decide +kernel
theorem dX10_undo_9 : decode cX10_undo 9 = .ok (.goto 4, 3) := by decide +kernel
theorem dX10_undo_12 : decode cX10_undo 12 = .ok (.iconst 0, 1) := by decide +kernel
theorem dX10_undo_13 : decode cX10_undo 13 = .ok (.invokevirtual 67, 3) := by decide +kernel
theorem dX10_undo_16 : decode cX10_undo 16 = .ok (.ifCond .eq 5, 3) := by decide +kernel
theorem dX10_undo_19 : decode cX10_undo 19 = .ok (.iconst 0, 1) := by decide +kernel
theorem dX10_undo_20 : decode cX10_undo 20 = .ok (.ireturn, 1) := by decide +kernel
theorem dX10_undo_21 : decode cX10_undo 21 = .ok (.aload_n 0, 1) := by decide +kernel
theorem dX10_undo_22 : decode cX10_undo 22 = .ok (.dup, 1) := by decide +kernel
theorem dX10_undo_23 : decode cX10_undo 23 = .ok (.getfield 64, 3) := by decide +kernel
theorem dX10_undo_26 : decode cX10_undo 26 = .ok (.iconst 1, 1) := by decide +kernel
theorem dX10_undo_27 : decode cX10_undo 27 = .ok (.isub, 1) := by decide +kernel
theorem dX10_undo_28 : decode cX10_undo 28 = .ok (.putfield 64, 3) := by decide +kernel
theorem dX10_undo_31 : decode cX10_undo 31 = .ok (.iconst 0, 1) := by decide +kernel
theorem dX10_undo_32 : decode cX10_undo 32 = .ok (.istore_n 1, 1) := by decide +kernel
theorem dX10_undo_33 : decode cX10_undo 33 = .ok (.iload_n 1, 1) := by decide +kernel
theorem dX10_undo_34 : decode cX10_undo 34 = .ok (.sipush 140, 3) := by decide +kernel
theorem dX10_undo_37 : decode cX10_undo 37 = .ok (.if_icmp .ge 30, 3) := by decide +kernel
theorem dX10_undo_40 : decode cX10_undo 40 = .ok (.aload_n 0, 1) := by decide +kernel
theorem dX10_undo_41 : decode cX10_undo 41 = .ok (.getfield 7, 3) := by decide +kernel
theorem dX10_undo_44 : decode cX10_undo 44 = .ok (.iload_n 1, 1) := by decide +kernel
theorem dX10_undo_45 : decode cX10_undo 45 = .ok (.aload_n 0, 1) := by decide +kernel
theorem dX10_undo_46 : decode cX10_undo 46 = .ok (.getfield 13, 3) := by decide +kernel
theorem dX10_undo_49 : decode cX10_undo 49 = .ok (.sipush 140, 3) := by decide +kernel
theorem dX10_undo_52 : decode cX10_undo 52 = .ok (.aload_n 0, 1) := by decide +kernel
theorem dX10_undo_53 : decode cX10_undo 53 = .ok (.getfield 64, 3) := by decide +kernel
theorem dX10_undo_56 : decode cX10_undo 56 = .ok (.imul, 1) := by decide +kernel
theorem dX10_undo_57 : decode cX10_undo 57 = .ok (.iload_n 1, 1) := by decide +kernel
theorem dX10_undo_58 : decode cX10_undo 58 = .ok (.iadd, 1) := by decide +kernel
theorem dX10_undo_59 : decode cX10_undo 59 = .ok (.iaload, 1) := by decide +kernel
theorem dX10_undo_60 : decode cX10_undo 60 = .ok (.iastore, 1) := by decide +kernel
theorem dX10_undo_61 : decode cX10_undo 61 = .ok (.iinc 1 1, 3) := by decide +kernel
theorem dX10_undo_64 : decode cX10_undo 64 = .ok (.goto (-31), 3) := by decide +kernel
theorem dX10_undo_67 : decode cX10_undo 67 = .ok (.aload_n 0, 1) := by decide +kernel
theorem dX10_undo_68 : decode cX10_undo 68 = .ok (.getfield 64, 3) := by decide +kernel
theorem dX10_undo_71 : decode cX10_undo 71 = .ok (.ireturn, 1) := by decide +kernel
theorem dX10_empties_0 : decode cX10_empties 0 = .ok (.bipush 59, 2) := by decide +kernel
theorem dX10_empties_2 : decode cX10_empties 2 = .ok (.istore_n 1, 1) := by decide +kernel
theorem dX10_empties_3 : decode cX10_empties 3 = .ok (.iload_n 1, 1) := by decide +kernel
theorem dX10_empties_4 : decode cX10_empties 4 = .ok (.sipush 140, 3) := by decide +kernel
theorem dX10_empties_7 : decode cX10_empties 7 = .ok (.if_icmp .ge 16, 3) := by decide +kernel
theorem dX10_empties_10 : decode cX10_empties 10 = .ok (.aload_n 0, 1) := by decide +kernel
theorem dX10_empties_11 : decode cX10_empties 11 = .ok (.getfield 7, 3) := by decide +kernel
theorem dX10_empties_14 : decode cX10_empties 14 = .ok (.iload_n 1, 1) := by decide +kernel
theorem dX10_empties_15 : decode cX10_empties 15 = .ok (.iconst 0, 1) := by decide +kernel
theorem dX10_empties_16 : decode cX10_empties 16 = .ok (.iastore, 1) := by decide +kernel
theorem dX10_empties_17 : decode cX10_empties 17 = .ok (.iinc 1 1, 3) := by decide +kernel
theorem dX10_empties_20 : decode cX10_empties 20 = .ok (.goto (-17), 3) := by decide +kernel
theorem dX10_empties_23 : decode cX10_empties 23 = .ok (.return_, 1) := by decide +kernel
theorem dX10_begins_0 : decode cX10_begins 0 = .ok (.aload_n 0, 1) := by decide +kernel
theorem dX10_begins_1 : decode cX10_begins 1 = .ok (.getfield 7, 3) := by decide +kernel
theorem dX10_begins_4 : decode cX10_begins 4 = .ok (.iconst 0, 1) := by decide +kernel
theorem dX10_begins_5 : decode cX10_begins 5 = .ok (.iload_n 1, 1) := by decide +kernel
theorem dX10_begins_6 : decode cX10_begins 6 = .ok (.iastore, 1) := by decide +kernel
theorem dX10_begins_7 : decode cX10_begins 7 = .ok (.aload_n 0, 1) := by decide +kernel
theorem dX10_begins_8 : decode cX10_begins 8 = .ok (.getfield 7, 3) := by decide +kernel
theorem dX10_begins_11 : decode cX10_begins 11 = .ok (.iconst 1, 1) := by decide +kernel
theorem dX10_begins_12 : decode cX10_begins 12 = .ok (.iconst 0, 1) := by decide +kernel
theorem dX10_begins_13 : decode cX10_begins 13 = .ok (.iastore, 1) := by decide +kernel
theorem dX10_begins_14 : decode cX10_begins 14 = .ok (.iconst 0, 1) := by decide +kernel
theorem dX10_begins_15 : decode cX10_begins 15 = .ok (.istore_n 2, 1) := by decide +kernel
theorem dX10_begins_16 : decode cX10_begins 16 = .ok (.iload_n 2, 1) := by decide +kernel
theorem dX10_begins_17 : decode cX10_begins 17 = .ok (.bipush 9, 2) := by decide +kernel
theorem dX10_begins_19 : decode cX10_begins 19 = .ok (.if_icmp .ge 19, 3) := by decide +kernel
theorem dX10_begins_22 : decode cX10_begins 22 = .ok (.aload_n 0, 1) := by decide +kernel
theorem dX10_begins_23 : decode cX10_begins 23 = .ok (.getfield 7, 3) := by decide +kernel
theorem dX10_begins_26 : decode cX10_begins 26 = .ok (.bipush 50, 2) := by decide +kernel
theorem dX10_begins_28 : decode cX10_begins 28 = .ok (.iload_n 2, 1) := by decide +kernel
theorem dX10_begins_29 : decode cX10_begins 29 = .ok (.iadd, 1) := by decide +kernel
theorem dX10_begins_30 : decode cX10_begins 30 = .ok (.iload_n 2, 1) := by decide +kernel
theorem dX10_begins_31 : decode cX10_begins 31 = .ok (.iastore, 1) := by decide +kernel
theorem dX10_begins_32 : decode cX10_begins 32 = .ok (.iinc 2 1, 3) := by decide +kernel
theorem dX10_begins_35 : decode cX10_begins 35 = .ok (.goto (-19), 3) := by decide +kernel
theorem dX10_begins_38 : decode cX10_begins 38 = .ok (.aload_n 0, 1) := by decide +kernel
theorem dX10_begins_39 : decode cX10_begins 39 = .ok (.invokevirtual 71, 3) := by decide +kernel
theorem dX10_begins_42 : decode cX10_begins 42 = .ok (.return_, 1) := by decide +kernel
theorem dX10_begin_0 : decode cX10_begin 0 = .ok (.aload_n 0, 1) := by decide +kernel
theorem dX10_begin_1 : decode cX10_begin 1 = .ok (.iload_n 1, 1) := by decide +kernel
theorem dX10_begin_2 : decode cX10_begin 2 = .ok (.iconst 0, 1) := by decide +kernel
theorem dX10_begin_3 : decode cX10_begin 3 = .ok (.bipush 9, 2) := by decide +kernel
theorem dX10_begin_5 : decode cX10_begin 5 = .ok (.invokestatic 56, 3) := by decide +kernel
theorem dX10_begin_8 : decode cX10_begin 8 = .ok (.ifCond .eq 7, 3) := by decide +kernel
theorem dX10_begin_11 : decode cX10_begin 11 = .ok (.iconst 0, 1) := by decide +kernel
theorem dX10_begin_12 : decode cX10_begin 12 = .ok (.goto 4, 3) := by decide +kernel
theorem dX10_begin_15 : decode cX10_begin 15 = .ok (.iconst 1, 1) := by decide +kernel
theorem dX10_begin_16 : decode cX10_begin 16 = .ok (.invokevirtual 67, 3) := by decide +kernel
theorem dX10_begin_19 : decode cX10_begin 19 = .ok (.ifCond .eq 5, 3) := by decide +kernel
theorem dX10_begin_22 : decode cX10_begin 22 = .ok (.iconst 0, 1) := by decide +kernel
theorem dX10_begin_23 : decode cX10_begin 23 = .ok (.ireturn, 1) := by decide +kernel
theorem dX10_begin_24 : decode cX10_begin 24 = .ok (.aload_n 0, 1) := by decide +kernel
theorem dX10_begin_25 : decode cX10_begin 25 = .ok (.invokevirtual 74, 3) := by decide +kernel
theorem dX10_begin_28 : decode cX10_begin 28 = .ok (.aload_n 0, 1) := by decide +kernel
theorem dX10_begin_29 : decode cX10_begin 29 = .ok (.getfield 7, 3) := by decide +kernel
theorem dX10_begin_32 : decode cX10_begin 32 = .ok (.iconst 1, 1) := by decide +kernel
theorem dX10_begin_33 : decode cX10_begin 33 = .ok (.iaload, 1) := by decide +kernel
theorem dX10_begin_34 : decode cX10_begin 34 = .ok (.istore_n 2, 1) := by decide +kernel
theorem dX10_begin_35 : decode cX10_begin 35 = .ok (.aload_n 0, 1) := by decide +kernel
theorem dX10_begin_36 : decode cX10_begin 36 = .ok (.iload_n 1, 1) := by decide +kernel
theorem dX10_begin_37 : decode cX10_begin 37 = .ok (.invokevirtual 77, 3) := by decide +kernel
theorem dX10_begin_40 : decode cX10_begin 40 = .ok (.iload_n 2, 1) := by decide +kernel
theorem dX10_begin_41 : decode cX10_begin 41 = .ok (.ireturn, 1) := by decide +kernel
theorem dX10_areJoined_0 : decode cX10_areJoined 0 = .ok (.iconst 0, 1) := by decide +kernel
theorem dX10_areJoined_1 : decode cX10_areJoined 1 = .ok (.istore_n 3, 1) := by decide +kernel
theorem dX10_areJoined_2 : decode cX10_areJoined 2 = .ok (.iconst 0, 1) := by decide +kernel
theorem dX10_areJoined_3 : decode cX10_areJoined 3 = .ok (.istore 4, 2) := by decide +kernel
theorem dX10_areJoined_5 : decode cX10_areJoined 5 = .ok (.iload 4, 2) := by decide +kernel
theorem dX10_areJoined_7 : decode cX10_areJoined 7 = .ok (.aload_n 0, 1) := by decide +kernel
theorem dX10_areJoined_8 : decode cX10_areJoined 8 = .ok (.getfield 7, 3) := by decide +kernel
theorem dX10_areJoined_11 : decode cX10_areJoined 11 = .ok (.iconst 1, 1) := by decide +kernel
theorem dX10_areJoined_12 : decode cX10_areJoined 12 = .ok (.iaload, 1) := by decide +kernel
theorem dX10_areJoined_13 : decode cX10_areJoined 13 = .ok (.if_icmp .ge 39, 3) := by decide +kernel
theorem dX10_areJoined_16 : decode cX10_areJoined 16 = .ok (.iload_n 3, 1) := by decide +kernel
theorem dX10_areJoined_17 : decode cX10_areJoined 17 = .ok (.ifCond .ne 23, 3) := by decide +kernel
theorem dX10_areJoined_20 : decode cX10_areJoined 20 = .ok (.aload_n 0, 1) := by decide +kernel
theorem dX10_areJoined_21 : decode cX10_areJoined 21 = .ok (.iload 4, 2) := by decide +kernel
theorem dX10_areJoined_23 : decode cX10_areJoined 23 = .ok (.iload_n 1, 1) := by decide +kernel
theorem dX10_areJoined_24 : decode cX10_areJoined 24 = .ok (.invokevirtual 81, 3) := by decide +kernel
theorem dX10_areJoined_27 : decode cX10_areJoined 27 = .ok (.ifCond .eq 17, 3) := by decide +kernel
theorem dX10_areJoined_30 : decode cX10_areJoined 30 = .ok (.aload_n 0, 1) := by decide +kernel
theorem dX10_areJoined_31 : decode cX10_areJoined 31 = .ok (.iload 4, 2) := by decide +kernel
theorem dX10_areJoined_33 : decode cX10_areJoined 33 = .ok (.iload_n 2, 1) := by decide +kernel
theorem dX10_areJoined_34 : decode cX10_areJoined 34 = .ok (.invokevirtual 81, 3) := by decide +kernel
theorem dX10_areJoined_37 : decode cX10_areJoined 37 = .ok (.ifCond .eq 7, 3) := by decide +kernel
theorem dX10_areJoined_40 : decode cX10_areJoined 40 = .ok (.iconst 1, 1) := by decide +kernel
theorem dX10_areJoined_41 : decode cX10_areJoined 41 = .ok (.goto 4, 3) := by decide +kernel
theorem dX10_areJoined_44 : decode cX10_areJoined 44 = .ok (.iconst 0, 1) := by decide +kernel
theorem dX10_areJoined_45 : decode cX10_areJoined 45 = .ok (.istore_n 3, 1) := by decide +kernel
theorem dX10_areJoined_46 : decode cX10_areJoined 46 = .ok (.iinc 4 1, 3) := by decide +kernel
theorem dX10_areJoined_49 : decode cX10_areJoined 49 = .ok (.goto (-44), 3) := by decide +kernel
theorem dX10_areJoined_52 : decode cX10_areJoined 52 = .ok (.iload_n 3, 1) := by decide +kernel
theorem dX10_areJoined_53 : decode cX10_areJoined 53 = .ok (.ireturn, 1) := by decide +kernel
theorem dX10_joins_0 : decode cX10_joins 0 = .ok (.iconst 2, 1) := by decide +kernel
theorem dX10_joins_1 : decode cX10_joins 1 = .ok (.iconst 3, 1) := by decide +kernel
theorem dX10_joins_2 : decode cX10_joins 2 = .ok (.aload_n 0, 1) := by decide +kernel
theorem dX10_joins_3 : decode cX10_joins 3 = .ok (.getfield 7, 3) := by decide +kernel
theorem dX10_joins_6 : decode cX10_joins 6 = .ok (.iconst 1, 1) := by decide +kernel
theorem dX10_joins_7 : decode cX10_joins 7 = .ok (.iaload, 1) := by decide +kernel
theorem dX10_joins_8 : decode cX10_joins 8 = .ok (.imul, 1) := by decide +kernel
theorem dX10_joins_9 : decode cX10_joins 9 = .ok (.iadd, 1) := by decide +kernel
theorem dX10_joins_10 : decode cX10_joins 10 = .ok (.istore 4, 2) := by decide +kernel
theorem dX10_joins_12 : decode cX10_joins 12 = .ok (.aload_n 0, 1) := by decide +kernel
theorem dX10_joins_13 : decode cX10_joins 13 = .ok (.getfield 7, 3) := by decide +kernel
theorem dX10_joins_16 : decode cX10_joins 16 = .ok (.iload 4, 2) := by decide +kernel
theorem dX10_joins_18 : decode cX10_joins 18 = .ok (.iload_n 1, 1) := by decide +kernel
theorem dX10_joins_19 : decode cX10_joins 19 = .ok (.iastore, 1) := by decide +kernel
theorem dX10_joins_20 : decode cX10_joins 20 = .ok (.aload_n 0, 1) := by decide +kernel
theorem dX10_joins_21 : decode cX10_joins 21 = .ok (.getfield 7, 3) := by decide +kernel
theorem dX10_joins_24 : decode cX10_joins 24 = .ok (.iload 4, 2) := by decide +kernel
theorem dX10_joins_26 : decode cX10_joins 26 = .ok (.iconst 1, 1) := by decide +kernel
theorem dX10_joins_27 : decode cX10_joins 27 = .ok (.iadd, 1) := by decide +kernel
theorem dX10_joins_28 : decode cX10_joins 28 = .ok (.iload_n 2, 1) := by decide +kernel
theorem dX10_joins_29 : decode cX10_joins 29 = .ok (.iastore, 1) := by decide +kernel
theorem dX10_joins_30 : decode cX10_joins 30 = .ok (.aload_n 0, 1) := by decide +kernel
theorem dX10_joins_31 : decode cX10_joins 31 = .ok (.getfield 7, 3) := by decide +kernel
theorem dX10_joins_34 : decode cX10_joins 34 = .ok (.iload 4, 2) := by decide +kernel
theorem dX10_joins_36 : decode cX10_joins 36 = .ok (.iconst 2, 1) := by decide +kernel
theorem dX10_joins_37 : decode cX10_joins 37 = .ok (.iadd, 1) := by decide +kernel
theorem dX10_joins_38 : decode cX10_joins 38 = .ok (.iload_n 3, 1) := by decide +kernel
theorem dX10_joins_39 : decode cX10_joins 39 = .ok (.iastore, 1) := by decide +kernel
theorem dX10_joins_40 : decode cX10_joins 40 = .ok (.aload_n 0, 1) := by decide +kernel
theorem dX10_joins_41 : decode cX10_joins 41 = .ok (.getfield 7, 3) := by decide +kernel
theorem dX10_joins_44 : decode cX10_joins 44 = .ok (.iconst 1, 1) := by decide +kernel
theorem dX10_joins_45 : decode cX10_joins 45 = .ok (.dup2, 1) := by decide +kernel
theorem dX10_joins_46 : decode cX10_joins 46 = .ok (.iaload, 1) := by decide +kernel
theorem dX10_joins_47 : decode cX10_joins 47 = .ok (.iconst 1, 1) := by decide +kernel
theorem dX10_joins_48 : decode cX10_joins 48 = .ok (.iadd, 1) := by decide +kernel
theorem dX10_joins_49 : decode cX10_joins 49 = .ok (.iastore, 1) := by decide +kernel
theorem dX10_joins_50 : decode cX10_joins 50 = .ok (.return_, 1) := by decide +kernel
theorem dX10_addLink_0 : decode cX10_addLink 0 = .ok (.aload_n 0, 1) := by decide +kernel
theorem dX10_addLink_1 : decode cX10_addLink 1 = .ok (.iload_n 1, 1) := by decide +kernel
theorem dX10_addLink_2 : decode cX10_addLink 2 = .ok (.invokevirtual 85, 3) := by decide +kernel
theorem dX10_addLink_5 : decode cX10_addLink 5 = .ok (.ifCond .eq 15, 3) := by decide +kernel
theorem dX10_addLink_8 : decode cX10_addLink 8 = .ok (.aload_n 0, 1) := by decide +kernel
theorem dX10_addLink_9 : decode cX10_addLink 9 = .ok (.iload_n 2, 1) := by decide +kernel
theorem dX10_addLink_10 : decode cX10_addLink 10 = .ok (.invokevirtual 85, 3) := by decide +kernel
theorem dX10_addLink_13 : decode cX10_addLink 13 = .ok (.ifCond .eq 7, 3) := by decide +kernel
theorem dX10_addLink_16 : decode cX10_addLink 16 = .ok (.iconst 1, 1) := by decide +kernel
theorem dX10_addLink_17 : decode cX10_addLink 17 = .ok (.goto 4, 3) := by decide +kernel
theorem dX10_addLink_20 : decode cX10_addLink 20 = .ok (.iconst 0, 1) := by decide +kernel
theorem dX10_addLink_21 : decode cX10_addLink 21 = .ok (.istore 4, 2) := by decide +kernel
theorem dX10_addLink_23 : decode cX10_addLink 23 = .ok (.iload 4, 2) := by decide +kernel
theorem dX10_addLink_25 : decode cX10_addLink 25 = .ok (.ifCond .eq 31, 3) := by decide +kernel
theorem dX10_addLink_28 : decode cX10_addLink 28 = .ok (.iload_n 1, 1) := by decide +kernel
theorem dX10_addLink_29 : decode cX10_addLink 29 = .ok (.iload_n 2, 1) := by decide +kernel
theorem dX10_addLink_30 : decode cX10_addLink 30 = .ok (.if_icmp .eq 26, 3) := by decide +kernel
theorem dX10_addLink_33 : decode cX10_addLink 33 = .ok (.iload_n 3, 1) := by decide +kernel
theorem dX10_addLink_34 : decode cX10_addLink 34 = .ok (.iconst 1, 1) := by decide +kernel
theorem dX10_addLink_35 : decode cX10_addLink 35 = .ok (.bipush 9, 2) := by decide +kernel
theorem dX10_addLink_37 : decode cX10_addLink 37 = .ok (.invokestatic 56, 3) := by decide +kernel
theorem dX10_addLink_40 : decode cX10_addLink 40 = .ok (.ifCond .eq 16, 3) := by decide +kernel
theorem dX10_addLink_43 : decode cX10_addLink 43 = .ok (.aload_n 0, 1) := by decide +kernel
theorem dX10_addLink_44 : decode cX10_addLink 44 = .ok (.iload_n 1, 1) := by decide +kernel
theorem dX10_addLink_45 : decode cX10_addLink 45 = .ok (.iload_n 2, 1) := by decide +kernel
theorem dX10_addLink_46 : decode cX10_addLink 46 = .ok (.invokevirtual 88, 3) := by decide +kernel
theorem dX10_addLink_49 : decode cX10_addLink 49 = .ok (.ifCond .ne 7, 3) := by decide +kernel
theorem dX10_addLink_52 : decode cX10_addLink 52 = .ok (.iconst 1, 1) := by decide +kernel
theorem dX10_addLink_53 : decode cX10_addLink 53 = .ok (.goto 4, 3) := by decide +kernel
theorem dX10_addLink_56 : decode cX10_addLink 56 = .ok (.iconst 0, 1) := by decide +kernel
theorem dX10_addLink_57 : decode cX10_addLink 57 = .ok (.istore 5, 2) := by decide +kernel
theorem dX10_addLink_59 : decode cX10_addLink 59 = .ok (.aload_n 0, 1) := by decide +kernel
theorem dX10_addLink_60 : decode cX10_addLink 60 = .ok (.iload 4, 2) := by decide +kernel
theorem dX10_addLink_62 : decode cX10_addLink 62 = .ok (.ifCond .ne 7, 3) := by decide +kernel
theorem dX10_addLink_65 : decode cX10_addLink 65 = .ok (.iconst 1, 1) := by decide +kernel
theorem dX10_addLink_66 : decode cX10_addLink 66 = .ok (.goto 28, 3) := by decide +kernel
theorem dX10_addLink_69 : decode cX10_addLink 69 = .ok (.iload 5, 2) := by decide +kernel
theorem dX10_addLink_71 : decode cX10_addLink 71 = .ok (.ifCond .ne 7, 3) := by decide +kernel
theorem dX10_addLink_74 : decode cX10_addLink 74 = .ok (.iconst 2, 1) := by decide +kernel
theorem dX10_addLink_75 : decode cX10_addLink 75 = .ok (.goto 19, 3) := by decide +kernel
theorem dX10_addLink_78 : decode cX10_addLink 78 = .ok (.aload_n 0, 1) := by decide +kernel
theorem dX10_addLink_79 : decode cX10_addLink 79 = .ok (.getfield 7, 3) := by decide +kernel
theorem dX10_addLink_82 : decode cX10_addLink 82 = .ok (.iconst 1, 1) := by decide +kernel
theorem dX10_addLink_83 : decode cX10_addLink 83 = .ok (.iaload, 1) := by decide +kernel
theorem dX10_addLink_84 : decode cX10_addLink 84 = .ok (.bipush 16, 2) := by decide +kernel
theorem dX10_addLink_86 : decode cX10_addLink 86 = .ok (.if_icmp .ne 7, 3) := by decide +kernel
theorem dX10_addLink_89 : decode cX10_addLink 89 = .ok (.iconst 3, 1) := by decide +kernel
theorem dX10_addLink_90 : decode cX10_addLink 90 = .ok (.goto 4, 3) := by decide +kernel
theorem dX10_addLink_93 : decode cX10_addLink 93 = .ok (.iconst 0, 1) := by decide +kernel
theorem dX10_addLink_94 : decode cX10_addLink 94 = .ok (.invokevirtual 67, 3) := by decide +kernel
theorem dX10_addLink_97 : decode cX10_addLink 97 = .ok (.ifCond .eq 5, 3) := by decide +kernel
theorem dX10_addLink_100 : decode cX10_addLink 100 = .ok (.iconst 0, 1) := by decide +kernel
theorem dX10_addLink_101 : decode cX10_addLink 101 = .ok (.ireturn, 1) := by decide +kernel
theorem dX10_addLink_102 : decode cX10_addLink 102 = .ok (.aload_n 0, 1) := by decide +kernel
theorem dX10_addLink_103 : decode cX10_addLink 103 = .ok (.invokevirtual 74, 3) := by decide +kernel
theorem dX10_addLink_106 : decode cX10_addLink 106 = .ok (.aload_n 0, 1) := by decide +kernel
theorem dX10_addLink_107 : decode cX10_addLink 107 = .ok (.iload_n 1, 1) := by decide +kernel
theorem dX10_addLink_108 : decode cX10_addLink 108 = .ok (.iload_n 2, 1) := by decide +kernel
theorem dX10_addLink_109 : decode cX10_addLink 109 = .ok (.iload_n 3, 1) := by decide +kernel
theorem dX10_addLink_110 : decode cX10_addLink 110 = .ok (.invokevirtual 91, 3) := by decide +kernel
theorem dX10_addLink_113 : decode cX10_addLink 113 = .ok (.aload_n 0, 1) := by decide +kernel
theorem dX10_addLink_114 : decode cX10_addLink 114 = .ok (.invokevirtual 71, 3) := by decide +kernel
theorem dX10_addLink_117 : decode cX10_addLink 117 = .ok (.aload_n 0, 1) := by decide +kernel
theorem dX10_addLink_118 : decode cX10_addLink 118 = .ok (.getfield 7, 3) := by decide +kernel
theorem dX10_addLink_121 : decode cX10_addLink 121 = .ok (.iconst 1, 1) := by decide +kernel
theorem dX10_addLink_122 : decode cX10_addLink 122 = .ok (.iaload, 1) := by decide +kernel
theorem dX10_addLink_123 : decode cX10_addLink 123 = .ok (.iconst 1, 1) := by decide +kernel
theorem dX10_addLink_124 : decode cX10_addLink 124 = .ok (.isub, 1) := by decide +kernel
theorem dX10_addLink_125 : decode cX10_addLink 125 = .ok (.ireturn, 1) := by decide +kernel
theorem dX10_removeLink_0 : decode cX10_removeLink 0 = .ok (.aload_n 0, 1) := by decide +kernel
theorem dX10_removeLink_1 : decode cX10_removeLink 1 = .ok (.aload_n 0, 1) := by decide +kernel
theorem dX10_removeLink_2 : decode cX10_removeLink 2 = .ok (.iload_n 1, 1) := by decide +kernel
theorem dX10_removeLink_3 : decode cX10_removeLink 3 = .ok (.invokevirtual 95, 3) := by decide +kernel
theorem dX10_removeLink_6 : decode cX10_removeLink 6 = .ok (.ifCond .eq 7, 3) := by decide +kernel
theorem dX10_removeLink_9 : decode cX10_removeLink 9 = .ok (.iconst 0, 1) := by decide +kernel
theorem dX10_removeLink_10 : decode cX10_removeLink 10 = .ok (.goto 4, 3) := by decide +kernel
theorem dX10_removeLink_13 : decode cX10_removeLink 13 = .ok (.iconst 1, 1) := by decide +kernel
theorem dX10_removeLink_14 : decode cX10_removeLink 14 = .ok (.invokevirtual 67, 3) := by decide +kernel
theorem dX10_removeLink_17 : decode cX10_removeLink 17 = .ok (.ifCond .eq 5, 3) := by decide +kernel
theorem dX10_removeLink_20 : decode cX10_removeLink 20 = .ok (.iconst 0, 1) := by decide +kernel
theorem dX10_removeLink_21 : decode cX10_removeLink 21 = .ok (.ireturn, 1) := by decide +kernel
theorem dX10_removeLink_22 : decode cX10_removeLink 22 = .ok (.aload_n 0, 1) := by decide +kernel
theorem dX10_removeLink_23 : decode cX10_removeLink 23 = .ok (.invokevirtual 74, 3) := by decide +kernel
theorem dX10_removeLink_26 : decode cX10_removeLink 26 = .ok (.aload_n 0, 1) := by decide +kernel
theorem dX10_removeLink_27 : decode cX10_removeLink 27 = .ok (.getfield 7, 3) := by decide +kernel
theorem dX10_removeLink_30 : decode cX10_removeLink 30 = .ok (.iconst 1, 1) := by decide +kernel
theorem dX10_removeLink_31 : decode cX10_removeLink 31 = .ok (.dup2, 1) := by decide +kernel
theorem dX10_removeLink_32 : decode cX10_removeLink 32 = .ok (.iaload, 1) := by decide +kernel
theorem dX10_removeLink_33 : decode cX10_removeLink 33 = .ok (.iconst 1, 1) := by decide +kernel
theorem dX10_removeLink_34 : decode cX10_removeLink 34 = .ok (.isub, 1) := by decide +kernel
theorem dX10_removeLink_35 : decode cX10_removeLink 35 = .ok (.iastore, 1) := by decide +kernel
theorem dX10_removeLink_36 : decode cX10_removeLink 36 = .ok (.iconst 2, 1) := by decide +kernel
theorem dX10_removeLink_37 : decode cX10_removeLink 37 = .ok (.iconst 3, 1) := by decide +kernel
theorem dX10_removeLink_38 : decode cX10_removeLink 38 = .ok (.iload_n 1, 1) := by decide +kernel
theorem dX10_removeLink_39 : decode cX10_removeLink 39 = .ok (.imul, 1) := by decide +kernel
theorem dX10_removeLink_40 : decode cX10_removeLink 40 = .ok (.iadd, 1) := by decide +kernel
theorem dX10_removeLink_41 : decode cX10_removeLink 41 = .ok (.istore_n 2, 1) := by decide +kernel
theorem dX10_removeLink_42 : decode cX10_removeLink 42 = .ok (.iload_n 2, 1) := by decide +kernel
theorem dX10_removeLink_43 : decode cX10_removeLink 43 = .ok (.iconst 2, 1) := by decide +kernel
theorem dX10_removeLink_44 : decode cX10_removeLink 44 = .ok (.iconst 3, 1) := by decide +kernel
theorem dX10_removeLink_45 : decode cX10_removeLink 45 = .ok (.aload_n 0, 1) := by decide +kernel
theorem dX10_removeLink_46 : decode cX10_removeLink 46 = .ok (.getfield 7, 3) := by decide +kernel
theorem dX10_removeLink_49 : decode cX10_removeLink 49 = .ok (.iconst 1, 1) := by decide +kernel
theorem dX10_removeLink_50 : decode cX10_removeLink 50 = .ok (.iaload, 1) := by decide +kernel
theorem dX10_removeLink_51 : decode cX10_removeLink 51 = .ok (.imul, 1) := by decide +kernel
theorem dX10_removeLink_52 : decode cX10_removeLink 52 = .ok (.iadd, 1) := by decide +kernel
theorem dX10_removeLink_53 : decode cX10_removeLink 53 = .ok (.if_icmp .ge 23, 3) := by decide +kernel
theorem dX10_removeLink_56 : decode cX10_removeLink 56 = .ok (.aload_n 0, 1) := by decide +kernel
theorem dX10_removeLink_57 : decode cX10_removeLink 57 = .ok (.getfield 7, 3) := by decide +kernel
theorem dX10_removeLink_60 : decode cX10_removeLink 60 = .ok (.iload_n 2, 1) := by decide +kernel
theorem dX10_removeLink_61 : decode cX10_removeLink 61 = .ok (.aload_n 0, 1) := by decide +kernel
theorem dX10_removeLink_62 : decode cX10_removeLink 62 = .ok (.getfield 7, 3) := by decide +kernel
theorem dX10_removeLink_65 : decode cX10_removeLink 65 = .ok (.iload_n 2, 1) := by decide +kernel
theorem dX10_removeLink_66 : decode cX10_removeLink 66 = .ok (.iconst 3, 1) := by decide +kernel
theorem dX10_removeLink_67 : decode cX10_removeLink 67 = .ok (.iadd, 1) := by decide +kernel
theorem dX10_removeLink_68 : decode cX10_removeLink 68 = .ok (.iaload, 1) := by decide +kernel
theorem dX10_removeLink_69 : decode cX10_removeLink 69 = .ok (.iastore, 1) := by decide +kernel
theorem dX10_removeLink_70 : decode cX10_removeLink 70 = .ok (.iinc 2 1, 3) := by decide +kernel
theorem dX10_removeLink_73 : decode cX10_removeLink 73 = .ok (.goto (-31), 3) := by decide +kernel
theorem dX10_removeLink_76 : decode cX10_removeLink 76 = .ok (.aload_n 0, 1) := by decide +kernel
theorem dX10_removeLink_77 : decode cX10_removeLink 77 = .ok (.invokevirtual 71, 3) := by decide +kernel
theorem dX10_removeLink_80 : decode cX10_removeLink 80 = .ok (.aload_n 0, 1) := by decide +kernel
theorem dX10_removeLink_81 : decode cX10_removeLink 81 = .ok (.getfield 7, 3) := by decide +kernel
theorem dX10_removeLink_84 : decode cX10_removeLink 84 = .ok (.iconst 1, 1) := by decide +kernel
theorem dX10_removeLink_85 : decode cX10_removeLink 85 = .ok (.iaload, 1) := by decide +kernel
theorem dX10_removeLink_86 : decode cX10_removeLink 86 = .ok (.ireturn, 1) := by decide +kernel
theorem dX10_setLength_0 : decode cX10_setLength 0 = .ok (.aload_n 0, 1) := by decide +kernel
theorem dX10_setLength_1 : decode cX10_setLength 1 = .ok (.aload_n 0, 1) := by decide +kernel
theorem dX10_setLength_2 : decode cX10_setLength 2 = .ok (.iload_n 1, 1) := by decide +kernel
theorem dX10_setLength_3 : decode cX10_setLength 3 = .ok (.invokevirtual 95, 3) := by decide +kernel
theorem dX10_setLength_6 : decode cX10_setLength 6 = .ok (.ifCond .ne 7, 3) := by decide +kernel
theorem dX10_setLength_9 : decode cX10_setLength 9 = .ok (.iconst 1, 1) := by decide +kernel
theorem dX10_setLength_10 : decode cX10_setLength 10 = .ok (.goto 18, 3) := by decide +kernel
theorem dX10_setLength_13 : decode cX10_setLength 13 = .ok (.iload_n 2, 1) := by decide +kernel
theorem dX10_setLength_14 : decode cX10_setLength 14 = .ok (.iconst 1, 1) := by decide +kernel
theorem dX10_setLength_15 : decode cX10_setLength 15 = .ok (.bipush 9, 2) := by decide +kernel
theorem dX10_setLength_17 : decode cX10_setLength 17 = .ok (.invokestatic 56, 3) := by decide +kernel
theorem dX10_setLength_20 : decode cX10_setLength 20 = .ok (.ifCond .eq 7, 3) := by decide +kernel
theorem dX10_setLength_23 : decode cX10_setLength 23 = .ok (.iconst 0, 1) := by decide +kernel
theorem dX10_setLength_24 : decode cX10_setLength 24 = .ok (.goto 4, 3) := by decide +kernel
theorem dX10_setLength_27 : decode cX10_setLength 27 = .ok (.iconst 2, 1) := by decide +kernel
theorem dX10_setLength_28 : decode cX10_setLength 28 = .ok (.invokevirtual 67, 3) := by decide +kernel
theorem dX10_setLength_31 : decode cX10_setLength 31 = .ok (.ifCond .eq 5, 3) := by decide +kernel
theorem dX10_setLength_34 : decode cX10_setLength 34 = .ok (.iconst 0, 1) := by decide +kernel
theorem dX10_setLength_35 : decode cX10_setLength 35 = .ok (.ireturn, 1) := by decide +kernel
theorem dX10_setLength_36 : decode cX10_setLength 36 = .ok (.aload_n 0, 1) := by decide +kernel
theorem dX10_setLength_37 : decode cX10_setLength 37 = .ok (.invokevirtual 74, 3) := by decide +kernel
theorem dX10_setLength_40 : decode cX10_setLength 40 = .ok (.aload_n 0, 1) := by decide +kernel
theorem dX10_setLength_41 : decode cX10_setLength 41 = .ok (.iload_n 1, 1) := by decide +kernel
theorem dX10_setLength_42 : decode cX10_setLength 42 = .ok (.iconst 2, 1) := by decide +kernel
theorem dX10_setLength_43 : decode cX10_setLength 43 = .ok (.invokevirtual 60, 3) := by decide +kernel
theorem dX10_setLength_46 : decode cX10_setLength 46 = .ok (.istore_n 3, 1) := by decide +kernel
theorem dX10_setLength_47 : decode cX10_setLength 47 = .ok (.aload_n 0, 1) := by decide +kernel
theorem dX10_setLength_48 : decode cX10_setLength 48 = .ok (.getfield 7, 3) := by decide +kernel
theorem dX10_setLength_51 : decode cX10_setLength 51 = .ok (.iconst 2, 1) := by decide +kernel
theorem dX10_setLength_52 : decode cX10_setLength 52 = .ok (.iconst 3, 1) := by decide +kernel
theorem dX10_setLength_53 : decode cX10_setLength 53 = .ok (.iload_n 1, 1) := by decide +kernel
theorem dX10_setLength_54 : decode cX10_setLength 54 = .ok (.imul, 1) := by decide +kernel
theorem dX10_setLength_55 : decode cX10_setLength 55 = .ok (.iadd, 1) := by decide +kernel
theorem dX10_setLength_56 : decode cX10_setLength 56 = .ok (.iconst 2, 1) := by decide +kernel
theorem dX10_setLength_57 : decode cX10_setLength 57 = .ok (.iadd, 1) := by decide +kernel
theorem dX10_setLength_58 : decode cX10_setLength 58 = .ok (.iload_n 2, 1) := by decide +kernel
theorem dX10_setLength_59 : decode cX10_setLength 59 = .ok (.iastore, 1) := by decide +kernel
theorem dX10_setLength_60 : decode cX10_setLength 60 = .ok (.aload_n 0, 1) := by decide +kernel
theorem dX10_setLength_61 : decode cX10_setLength 61 = .ok (.invokevirtual 71, 3) := by decide +kernel
theorem dX10_setLength_64 : decode cX10_setLength 64 = .ok (.iload_n 3, 1) := by decide +kernel
theorem dX10_setLength_65 : decode cX10_setLength 65 = .ok (.ireturn, 1) := by decide +kernel
theorem dX10_size_0 : decode cX10_size 0 = .ok (.aload_n 0, 1) := by decide +kernel
theorem dX10_size_1 : decode cX10_size 1 = .ok (.iconst 0, 1) := by decide +kernel
theorem dX10_size_2 : decode cX10_size 2 = .ok (.putfield 52, 3) := by decide +kernel
theorem dX10_size_5 : decode cX10_size 5 = .ok (.iload_n 1, 1) := by decide +kernel
theorem dX10_size_6 : decode cX10_size 6 = .ok (.ifCond .eq 12, 3) := by decide +kernel
theorem dX10_size_9 : decode cX10_size 9 = .ok (.aload_n 0, 1) := by decide +kernel
theorem dX10_size_10 : decode cX10_size 10 = .ok (.getfield 7, 3) := by decide +kernel
theorem dX10_size_13 : decode cX10_size 13 = .ok (.iconst 1, 1) := by decide +kernel
theorem dX10_size_14 : decode cX10_size 14 = .ok (.iaload, 1) := by decide +kernel
theorem dX10_size_15 : decode cX10_size 15 = .ok (.goto 9, 3) := by decide +kernel
theorem dX10_size_18 : decode cX10_size 18 = .ok (.aload_n 0, 1) := by decide +kernel
theorem dX10_size_19 : decode cX10_size 19 = .ok (.getfield 7, 3) := by decide +kernel
theorem dX10_size_22 : decode cX10_size 22 = .ok (.iconst 0, 1) := by decide +kernel
theorem dX10_size_23 : decode cX10_size 23 = .ok (.iaload, 1) := by decide +kernel
theorem dX10_size_24 : decode cX10_size 24 = .ok (.ireturn, 1) := by decide +kernel
theorem dX10_link_0 : decode cX10_link 0 = .ok (.aload_n 0, 1) := by decide +kernel
theorem dX10_link_1 : decode cX10_link 1 = .ok (.aload_n 0, 1) := by decide +kernel
theorem dX10_link_2 : decode cX10_link 2 = .ok (.iload_n 1, 1) := by decide +kernel
theorem dX10_link_3 : decode cX10_link 3 = .ok (.invokevirtual 95, 3) := by decide +kernel
theorem dX10_link_6 : decode cX10_link 6 = .ok (.ifCond .ne 7, 3) := by decide +kernel
theorem dX10_link_9 : decode cX10_link 9 = .ok (.iconst 1, 1) := by decide +kernel
theorem dX10_link_10 : decode cX10_link 10 = .ok (.goto 17, 3) := by decide +kernel
theorem dX10_link_13 : decode cX10_link 13 = .ok (.iload_n 2, 1) := by decide +kernel
theorem dX10_link_14 : decode cX10_link 14 = .ok (.iconst 0, 1) := by decide +kernel
theorem dX10_link_15 : decode cX10_link 15 = .ok (.iconst 2, 1) := by decide +kernel
theorem dX10_link_16 : decode cX10_link 16 = .ok (.invokestatic 56, 3) := by decide +kernel
theorem dX10_link_19 : decode cX10_link 19 = .ok (.ifCond .eq 7, 3) := by decide +kernel
theorem dX10_link_22 : decode cX10_link 22 = .ok (.iconst 0, 1) := by decide +kernel
theorem dX10_link_23 : decode cX10_link 23 = .ok (.goto 4, 3) := by decide +kernel
theorem dX10_link_26 : decode cX10_link 26 = .ok (.iconst 2, 1) := by decide +kernel
theorem dX10_link_27 : decode cX10_link 27 = .ok (.invokevirtual 67, 3) := by decide +kernel
theorem dX10_link_30 : decode cX10_link 30 = .ok (.ifCond .eq 7, 3) := by decide +kernel
theorem dX10_link_33 : decode cX10_link 33 = .ok (.iconst 0, 1) := by decide +kernel
theorem dX10_link_34 : decode cX10_link 34 = .ok (.goto 9, 3) := by decide +kernel
theorem dX10_link_37 : decode cX10_link 37 = .ok (.aload_n 0, 1) := by decide +kernel
theorem dX10_link_38 : decode cX10_link 38 = .ok (.iload_n 1, 1) := by decide +kernel
theorem dX10_link_39 : decode cX10_link 39 = .ok (.iload_n 2, 1) := by decide +kernel
theorem dX10_link_40 : decode cX10_link 40 = .ok (.invokevirtual 60, 3) := by decide +kernel
theorem dX10_link_43 : decode cX10_link 43 = .ok (.ireturn, 1) := by decide +kernel
theorem dX10_laysFar_0 : decode cX10_laysFar 0 = .ok (.iconst 0, 1) := by decide +kernel
theorem dX10_laysFar_1 : decode cX10_laysFar 1 = .ok (.istore_n 1, 1) := by decide +kernel
theorem dX10_laysFar_2 : decode cX10_laysFar 2 = .ok (.iload_n 1, 1) := by decide +kernel
theorem dX10_laysFar_3 : decode cX10_laysFar 3 = .ok (.bipush 81, 2) := by decide +kernel
theorem dX10_laysFar_5 : decode cX10_laysFar 5 = .ok (.if_icmp .ge 33, 3) := by decide +kernel
theorem dX10_laysFar_8 : decode cX10_laysFar 8 = .ok (.aload_n 0, 1) := by decide +kernel
theorem dX10_laysFar_9 : decode cX10_laysFar 9 = .ok (.getfield 19, 3) := by decide +kernel
theorem dX10_laysFar_12 : decode cX10_laysFar 12 = .ok (.iload_n 1, 1) := by decide +kernel
theorem dX10_laysFar_13 : decode cX10_laysFar 13 = .ok (.iload_n 1, 1) := by decide +kernel
theorem dX10_laysFar_14 : decode cX10_laysFar 14 = .ok (.bipush 9, 2) := by decide +kernel
theorem dX10_laysFar_16 : decode cX10_laysFar 16 = .ok (.idiv, 1) := by decide +kernel
theorem dX10_laysFar_17 : decode cX10_laysFar 17 = .ok (.iload_n 1, 1) := by decide +kernel
theorem dX10_laysFar_18 : decode cX10_laysFar 18 = .ok (.bipush 9, 2) := by decide +kernel
theorem dX10_laysFar_20 : decode cX10_laysFar 20 = .ok (.irem, 1) := by decide +kernel
theorem dX10_laysFar_21 : decode cX10_laysFar 21 = .ok (.if_icmp .ne 7, 3) := by decide +kernel
theorem dX10_laysFar_24 : decode cX10_laysFar 24 = .ok (.iconst 0, 1) := by decide +kernel
theorem dX10_laysFar_25 : decode cX10_laysFar 25 = .ok (.goto 6, 3) := by decide +kernel
theorem dX10_laysFar_28 : decode cX10_laysFar 28 = .ok (.sipush 1000, 3) := by decide +kernel
theorem dX10_laysFar_31 : decode cX10_laysFar 31 = .ok (.iastore, 1) := by decide +kernel
theorem dX10_laysFar_32 : decode cX10_laysFar 32 = .ok (.iinc 1 1, 3) := by decide +kernel
theorem dX10_laysFar_35 : decode cX10_laysFar 35 = .ok (.goto (-33), 3) := by decide +kernel
theorem dX10_laysFar_38 : decode cX10_laysFar 38 = .ok (.iconst 1, 1) := by decide +kernel
theorem dX10_laysFar_39 : decode cX10_laysFar 39 = .ok (.istore_n 1, 1) := by decide +kernel
theorem dX10_laysFar_40 : decode cX10_laysFar 40 = .ok (.iload_n 1, 1) := by decide +kernel
theorem dX10_laysFar_41 : decode cX10_laysFar 41 = .ok (.ifCond .eq 134, 3) := by decide +kernel
theorem dX10_laysFar_44 : decode cX10_laysFar 44 = .ok (.iconst 0, 1) := by decide +kernel
theorem dX10_laysFar_45 : decode cX10_laysFar 45 = .ok (.istore_n 1, 1) := by decide +kernel
theorem dX10_laysFar_46 : decode cX10_laysFar 46 = .ok (.iconst 0, 1) := by decide +kernel
theorem dX10_laysFar_47 : decode cX10_laysFar 47 = .ok (.istore_n 2, 1) := by decide +kernel
theorem dX10_laysFar_48 : decode cX10_laysFar 48 = .ok (.iload_n 2, 1) := by decide +kernel
theorem dX10_laysFar_49 : decode cX10_laysFar 49 = .ok (.aload_n 0, 1) := by decide +kernel
theorem dX10_laysFar_50 : decode cX10_laysFar 50 = .ok (.getfield 7, 3) := by decide +kernel
theorem dX10_laysFar_53 : decode cX10_laysFar 53 = .ok (.iconst 1, 1) := by decide +kernel
theorem dX10_laysFar_54 : decode cX10_laysFar 54 = .ok (.iaload, 1) := by decide +kernel
theorem dX10_laysFar_55 : decode cX10_laysFar 55 = .ok (.if_icmp .ge 117, 3) := by decide +kernel
theorem dX10_laysFar_58 : decode cX10_laysFar 58 = .ok (.iconst 0, 1) := by decide +kernel
theorem dX10_laysFar_59 : decode cX10_laysFar 59 = .ok (.istore_n 3, 1) := by decide +kernel
theorem dX10_laysFar_60 : decode cX10_laysFar 60 = .ok (.iload_n 3, 1) := by decide +kernel
theorem dX10_laysFar_61 : decode cX10_laysFar 61 = .ok (.aload_n 0, 1) := by decide +kernel
theorem dX10_laysFar_62 : decode cX10_laysFar 62 = .ok (.getfield 7, 3) := by decide +kernel
theorem dX10_laysFar_65 : decode cX10_laysFar 65 = .ok (.iconst 0, 1) := by decide +kernel
theorem dX10_laysFar_66 : decode cX10_laysFar 66 = .ok (.iaload, 1) := by decide +kernel
theorem dX10_laysFar_67 : decode cX10_laysFar 67 = .ok (.if_icmp .ge 99, 3) := by decide +kernel
theorem dX10_laysFar_70 : decode cX10_laysFar 70 = .ok (.aload_n 0, 1) := by decide +kernel
theorem dX10_laysFar_71 : decode cX10_laysFar 71 = .ok (.bipush 9, 2) := by decide +kernel
theorem dX10_laysFar_73 : decode cX10_laysFar 73 = .ok (.iload_n 3, 1) := by decide +kernel
theorem dX10_laysFar_74 : decode cX10_laysFar 74 = .ok (.imul, 1) := by decide +kernel
theorem dX10_laysFar_75 : decode cX10_laysFar 75 = .ok (.aload_n 0, 1) := by decide +kernel
theorem dX10_laysFar_76 : decode cX10_laysFar 76 = .ok (.iload_n 2, 1) := by decide +kernel
theorem dX10_laysFar_77 : decode cX10_laysFar 77 = .ok (.iconst 0, 1) := by decide +kernel
theorem dX10_laysFar_78 : decode cX10_laysFar 78 = .ok (.invokevirtual 60, 3) := by decide +kernel
theorem dX10_laysFar_81 : decode cX10_laysFar 81 = .ok (.iadd, 1) := by decide +kernel
theorem dX10_laysFar_82 : decode cX10_laysFar 82 = .ok (.bipush 9, 2) := by decide +kernel
theorem dX10_laysFar_84 : decode cX10_laysFar 84 = .ok (.iload_n 3, 1) := by decide +kernel
theorem dX10_laysFar_85 : decode cX10_laysFar 85 = .ok (.imul, 1) := by decide +kernel
theorem dX10_laysFar_86 : decode cX10_laysFar 86 = .ok (.aload_n 0, 1) := by decide +kernel
theorem dX10_laysFar_87 : decode cX10_laysFar 87 = .ok (.iload_n 2, 1) := by decide +kernel
theorem dX10_laysFar_88 : decode cX10_laysFar 88 = .ok (.iconst 1, 1) := by decide +kernel
theorem dX10_laysFar_89 : decode cX10_laysFar 89 = .ok (.invokevirtual 60, 3) := by decide +kernel
theorem dX10_laysFar_92 : decode cX10_laysFar 92 = .ok (.iadd, 1) := by decide +kernel
theorem dX10_laysFar_93 : decode cX10_laysFar 93 = .ok (.aload_n 0, 1) := by decide +kernel
theorem dX10_laysFar_94 : decode cX10_laysFar 94 = .ok (.iload_n 2, 1) := by decide +kernel
theorem dX10_laysFar_95 : decode cX10_laysFar 95 = .ok (.iconst 2, 1) := by decide +kernel
theorem dX10_laysFar_96 : decode cX10_laysFar 96 = .ok (.invokevirtual 60, 3) := by decide +kernel
theorem dX10_laysFar_99 : decode cX10_laysFar 99 = .ok (.invokevirtual 98, 3) := by decide +kernel
theorem dX10_laysFar_102 : decode cX10_laysFar 102 = .ok (.ifCond .ne 7, 3) := by decide +kernel
theorem dX10_laysFar_105 : decode cX10_laysFar 105 = .ok (.iload_n 1, 1) := by decide +kernel
theorem dX10_laysFar_106 : decode cX10_laysFar 106 = .ok (.ifCond .eq 7, 3) := by decide +kernel
theorem dX10_laysFar_109 : decode cX10_laysFar 109 = .ok (.iconst 1, 1) := by decide +kernel
theorem dX10_laysFar_110 : decode cX10_laysFar 110 = .ok (.goto 4, 3) := by decide +kernel
theorem dX10_laysFar_113 : decode cX10_laysFar 113 = .ok (.iconst 0, 1) := by decide +kernel
theorem dX10_laysFar_114 : decode cX10_laysFar 114 = .ok (.istore_n 1, 1) := by decide +kernel
theorem dX10_laysFar_115 : decode cX10_laysFar 115 = .ok (.aload_n 0, 1) := by decide +kernel
theorem dX10_laysFar_116 : decode cX10_laysFar 116 = .ok (.bipush 9, 2) := by decide +kernel
theorem dX10_laysFar_118 : decode cX10_laysFar 118 = .ok (.iload_n 3, 1) := by decide +kernel
theorem dX10_laysFar_119 : decode cX10_laysFar 119 = .ok (.imul, 1) := by decide +kernel
theorem dX10_laysFar_120 : decode cX10_laysFar 120 = .ok (.aload_n 0, 1) := by decide +kernel
theorem dX10_laysFar_121 : decode cX10_laysFar 121 = .ok (.iload_n 2, 1) := by decide +kernel
theorem dX10_laysFar_122 : decode cX10_laysFar 122 = .ok (.iconst 1, 1) := by decide +kernel
theorem dX10_laysFar_123 : decode cX10_laysFar 123 = .ok (.invokevirtual 60, 3) := by decide +kernel
theorem dX10_laysFar_126 : decode cX10_laysFar 126 = .ok (.iadd, 1) := by decide +kernel
theorem dX10_laysFar_127 : decode cX10_laysFar 127 = .ok (.bipush 9, 2) := by decide +kernel
theorem dX10_laysFar_129 : decode cX10_laysFar 129 = .ok (.iload_n 3, 1) := by decide +kernel
theorem dX10_laysFar_130 : decode cX10_laysFar 130 = .ok (.imul, 1) := by decide +kernel
theorem dX10_laysFar_131 : decode cX10_laysFar 131 = .ok (.aload_n 0, 1) := by decide +kernel
theorem dX10_laysFar_132 : decode cX10_laysFar 132 = .ok (.iload_n 2, 1) := by decide +kernel
theorem dX10_laysFar_133 : decode cX10_laysFar 133 = .ok (.iconst 0, 1) := by decide +kernel
theorem dX10_laysFar_134 : decode cX10_laysFar 134 = .ok (.invokevirtual 60, 3) := by decide +kernel
theorem dX10_laysFar_137 : decode cX10_laysFar 137 = .ok (.iadd, 1) := by decide +kernel
theorem dX10_laysFar_138 : decode cX10_laysFar 138 = .ok (.aload_n 0, 1) := by decide +kernel
theorem dX10_laysFar_139 : decode cX10_laysFar 139 = .ok (.iload_n 2, 1) := by decide +kernel
theorem dX10_laysFar_140 : decode cX10_laysFar 140 = .ok (.iconst 2, 1) := by decide +kernel
theorem dX10_laysFar_141 : decode cX10_laysFar 141 = .ok (.invokevirtual 60, 3) := by decide +kernel
theorem dX10_laysFar_144 : decode cX10_laysFar 144 = .ok (.invokevirtual 98, 3) := by decide +kernel
theorem dX10_laysFar_147 : decode cX10_laysFar 147 = .ok (.ifCond .ne 7, 3) := by decide +kernel
theorem dX10_laysFar_150 : decode cX10_laysFar 150 = .ok (.iload_n 1, 1) := by decide +kernel
theorem dX10_laysFar_151 : decode cX10_laysFar 151 = .ok (.ifCond .eq 7, 3) := by decide +kernel
theorem dX10_laysFar_154 : decode cX10_laysFar 154 = .ok (.iconst 1, 1) := by decide +kernel
theorem dX10_laysFar_155 : decode cX10_laysFar 155 = .ok (.goto 4, 3) := by decide +kernel
theorem dX10_laysFar_158 : decode cX10_laysFar 158 = .ok (.iconst 0, 1) := by decide +kernel
theorem dX10_laysFar_159 : decode cX10_laysFar 159 = .ok (.istore_n 1, 1) := by decide +kernel
theorem dX10_laysFar_160 : decode cX10_laysFar 160 = .ok (.iinc 3 1, 3) := by decide +kernel
theorem dX10_laysFar_163 : decode cX10_laysFar 163 = .ok (.goto (-103), 3) := by decide +kernel
theorem dX10_laysFar_166 : decode cX10_laysFar 166 = .ok (.iinc 2 1, 3) := by decide +kernel
theorem dX10_laysFar_169 : decode cX10_laysFar 169 = .ok (.goto (-121), 3) := by decide +kernel
theorem dX10_laysFar_172 : decode cX10_laysFar 172 = .ok (.goto (-132), 3) := by decide +kernel
theorem dX10_laysFar_175 : decode cX10_laysFar 175 = .ok (.return_, 1) := by decide +kernel
theorem dX10_eases_0 : decode cX10_eases 0 = .ok (.aload_n 0, 1) := by decide +kernel
theorem dX10_eases_1 : decode cX10_eases 1 = .ok (.getfield 19, 3) := by decide +kernel
theorem dX10_eases_4 : decode cX10_eases 4 = .ok (.iload_n 1, 1) := by decide +kernel
theorem dX10_eases_5 : decode cX10_eases 5 = .ok (.iaload, 1) := by decide +kernel
theorem dX10_eases_6 : decode cX10_eases 6 = .ok (.iload_n 3, 1) := by decide +kernel
theorem dX10_eases_7 : decode cX10_eases 7 = .ok (.iadd, 1) := by decide +kernel
theorem dX10_eases_8 : decode cX10_eases 8 = .ok (.aload_n 0, 1) := by decide +kernel
theorem dX10_eases_9 : decode cX10_eases 9 = .ok (.getfield 19, 3) := by decide +kernel
theorem dX10_eases_12 : decode cX10_eases 12 = .ok (.iload_n 2, 1) := by decide +kernel
theorem dX10_eases_13 : decode cX10_eases 13 = .ok (.iaload, 1) := by decide +kernel
theorem dX10_eases_14 : decode cX10_eases 14 = .ok (.if_icmp .ge 7, 3) := by decide +kernel
theorem dX10_eases_17 : decode cX10_eases 17 = .ok (.iconst 1, 1) := by decide +kernel
theorem dX10_eases_18 : decode cX10_eases 18 = .ok (.goto 4, 3) := by decide +kernel
theorem dX10_eases_21 : decode cX10_eases 21 = .ok (.iconst 0, 1) := by decide +kernel
theorem dX10_eases_22 : decode cX10_eases 22 = .ok (.istore 4, 2) := by decide +kernel
theorem dX10_eases_24 : decode cX10_eases 24 = .ok (.aload_n 0, 1) := by decide +kernel
theorem dX10_eases_25 : decode cX10_eases 25 = .ok (.getfield 19, 3) := by decide +kernel
theorem dX10_eases_28 : decode cX10_eases 28 = .ok (.iload_n 2, 1) := by decide +kernel
theorem dX10_eases_29 : decode cX10_eases 29 = .ok (.iload 4, 2) := by decide +kernel
theorem dX10_eases_31 : decode cX10_eases 31 = .ok (.ifCond .eq 14, 3) := by decide +kernel
theorem dX10_eases_34 : decode cX10_eases 34 = .ok (.aload_n 0, 1) := by decide +kernel
theorem dX10_eases_35 : decode cX10_eases 35 = .ok (.getfield 19, 3) := by decide +kernel
theorem dX10_eases_38 : decode cX10_eases 38 = .ok (.iload_n 1, 1) := by decide +kernel
theorem dX10_eases_39 : decode cX10_eases 39 = .ok (.iaload, 1) := by decide +kernel
theorem dX10_eases_40 : decode cX10_eases 40 = .ok (.iload_n 3, 1) := by decide +kernel
theorem dX10_eases_41 : decode cX10_eases 41 = .ok (.iadd, 1) := by decide +kernel
theorem dX10_eases_42 : decode cX10_eases 42 = .ok (.goto 9, 3) := by decide +kernel
theorem dX10_eases_45 : decode cX10_eases 45 = .ok (.aload_n 0, 1) := by decide +kernel
theorem dX10_eases_46 : decode cX10_eases 46 = .ok (.getfield 19, 3) := by decide +kernel
theorem dX10_eases_49 : decode cX10_eases 49 = .ok (.iload_n 2, 1) := by decide +kernel
theorem dX10_eases_50 : decode cX10_eases 50 = .ok (.iaload, 1) := by decide +kernel
theorem dX10_eases_51 : decode cX10_eases 51 = .ok (.iastore, 1) := by decide +kernel
theorem dX10_eases_52 : decode cX10_eases 52 = .ok (.iload 4, 2) := by decide +kernel
theorem dX10_eases_54 : decode cX10_eases 54 = .ok (.ireturn, 1) := by decide +kernel
theorem dX10_farFrom_0 : decode cX10_farFrom 0 = .ok (.aload_n 0, 1) := by decide +kernel
theorem dX10_farFrom_1 : decode cX10_farFrom 1 = .ok (.getfield 19, 3) := by decide +kernel
theorem dX10_farFrom_4 : decode cX10_farFrom 4 = .ok (.bipush 9, 2) := by decide +kernel
theorem dX10_farFrom_6 : decode cX10_farFrom 6 = .ok (.iload_n 1, 1) := by decide +kernel
theorem dX10_farFrom_7 : decode cX10_farFrom 7 = .ok (.imul, 1) := by decide +kernel
theorem dX10_farFrom_8 : decode cX10_farFrom 8 = .ok (.iload_n 2, 1) := by decide +kernel
theorem dX10_farFrom_9 : decode cX10_farFrom 9 = .ok (.iadd, 1) := by decide +kernel
theorem dX10_farFrom_10 : decode cX10_farFrom 10 = .ok (.iaload, 1) := by decide +kernel
theorem dX10_farFrom_11 : decode cX10_farFrom 11 = .ok (.ireturn, 1) := by decide +kernel
theorem dX10_distance_0 : decode cX10_distance 0 = .ok (.aload_n 0, 1) := by decide +kernel
theorem dX10_distance_1 : decode cX10_distance 1 = .ok (.aload_n 0, 1) := by decide +kernel
theorem dX10_distance_2 : decode cX10_distance 2 = .ok (.iload_n 1, 1) := by decide +kernel
theorem dX10_distance_3 : decode cX10_distance 3 = .ok (.invokevirtual 85, 3) := by decide +kernel
theorem dX10_distance_6 : decode cX10_distance 6 = .ok (.ifCond .eq 15, 3) := by decide +kernel
theorem dX10_distance_9 : decode cX10_distance 9 = .ok (.aload_n 0, 1) := by decide +kernel
theorem dX10_distance_10 : decode cX10_distance 10 = .ok (.iload_n 2, 1) := by decide +kernel
theorem dX10_distance_11 : decode cX10_distance 11 = .ok (.invokevirtual 85, 3) := by decide +kernel
theorem dX10_distance_14 : decode cX10_distance 14 = .ok (.ifCond .eq 7, 3) := by decide +kernel
theorem dX10_distance_17 : decode cX10_distance 17 = .ok (.iconst 0, 1) := by decide +kernel
theorem dX10_distance_18 : decode cX10_distance 18 = .ok (.goto 4, 3) := by decide +kernel
theorem dX10_distance_21 : decode cX10_distance 21 = .ok (.iconst 1, 1) := by decide +kernel
theorem dX10_distance_22 : decode cX10_distance 22 = .ok (.invokevirtual 67, 3) := by decide +kernel
theorem dX10_distance_25 : decode cX10_distance 25 = .ok (.ifCond .eq 5, 3) := by decide +kernel
theorem dX10_distance_28 : decode cX10_distance 28 = .ok (.iconst 0, 1) := by decide +kernel
theorem dX10_distance_29 : decode cX10_distance 29 = .ok (.ireturn, 1) := by decide +kernel
theorem dX10_distance_30 : decode cX10_distance 30 = .ok (.aload_n 0, 1) := by decide +kernel
theorem dX10_distance_31 : decode cX10_distance 31 = .ok (.invokevirtual 101, 3) := by decide +kernel
theorem dX10_distance_34 : decode cX10_distance 34 = .ok (.aload_n 0, 1) := by decide +kernel
theorem dX10_distance_35 : decode cX10_distance 35 = .ok (.iload_n 1, 1) := by decide +kernel
theorem dX10_distance_36 : decode cX10_distance 36 = .ok (.iload_n 2, 1) := by decide +kernel
theorem dX10_distance_37 : decode cX10_distance 37 = .ok (.invokevirtual 104, 3) := by decide +kernel
theorem dX10_distance_40 : decode cX10_distance 40 = .ok (.sipush 1000, 3) := by decide +kernel
theorem dX10_distance_43 : decode cX10_distance 43 = .ok (.if_icmp .ne 7, 3) := by decide +kernel
theorem dX10_distance_46 : decode cX10_distance 46 = .ok (.iconst (-1), 1) := by decide +kernel
theorem dX10_distance_47 : decode cX10_distance 47 = .ok (.goto 9, 3) := by decide +kernel
theorem dX10_distance_50 : decode cX10_distance 50 = .ok (.aload_n 0, 1) := by decide +kernel
theorem dX10_distance_51 : decode cX10_distance 51 = .ok (.iload_n 1, 1) := by decide +kernel
theorem dX10_distance_52 : decode cX10_distance 52 = .ok (.iload_n 2, 1) := by decide +kernel
theorem dX10_distance_53 : decode cX10_distance 53 = .ok (.invokevirtual 104, 3) := by decide +kernel
theorem dX10_distance_56 : decode cX10_distance 56 = .ok (.ireturn, 1) := by decide +kernel
theorem dX10_good_0 : decode cX10_good 0 = .ok (.iconst 0, 1) := by decide +kernel
theorem dX10_good_1 : decode cX10_good 1 = .ok (.istore_n 3, 1) := by decide +kernel
theorem dX10_good_2 : decode cX10_good 2 = .ok (.iconst 0, 1) := by decide +kernel
theorem dX10_good_3 : decode cX10_good 3 = .ok (.istore 4, 2) := by decide +kernel
theorem dX10_good_5 : decode cX10_good 5 = .ok (.iload 4, 2) := by decide +kernel
theorem dX10_good_7 : decode cX10_good 7 = .ok (.aload_n 0, 1) := by decide +kernel
theorem dX10_good_8 : decode cX10_good 8 = .ok (.getfield 7, 3) := by decide +kernel
theorem dX10_good_11 : decode cX10_good 11 = .ok (.iconst 1, 1) := by decide +kernel
theorem dX10_good_12 : decode cX10_good 12 = .ok (.iaload, 1) := by decide +kernel
theorem dX10_good_13 : decode cX10_good 13 = .ok (.if_icmp .ge 88, 3) := by decide +kernel
theorem dX10_good_16 : decode cX10_good 16 = .ok (.iload_n 1, 1) := by decide +kernel
theorem dX10_good_17 : decode cX10_good 17 = .ok (.iload_n 2, 1) := by decide +kernel
theorem dX10_good_18 : decode cX10_good 18 = .ok (.if_icmp .eq 83, 3) := by decide +kernel
theorem dX10_good_21 : decode cX10_good 21 = .ok (.aload_n 0, 1) := by decide +kernel
theorem dX10_good_22 : decode cX10_good 22 = .ok (.iload_n 1, 1) := by decide +kernel
theorem dX10_good_23 : decode cX10_good 23 = .ok (.iload_n 2, 1) := by decide +kernel
theorem dX10_good_24 : decode cX10_good 24 = .ok (.invokevirtual 104, 3) := by decide +kernel
theorem dX10_good_27 : decode cX10_good 27 = .ok (.sipush 1000, 3) := by decide +kernel
theorem dX10_good_30 : decode cX10_good 30 = .ok (.if_icmp .ge 71, 3) := by decide +kernel
theorem dX10_good_33 : decode cX10_good 33 = .ok (.aload_n 0, 1) := by decide +kernel
theorem dX10_good_34 : decode cX10_good 34 = .ok (.iload 4, 2) := by decide +kernel
theorem dX10_good_36 : decode cX10_good 36 = .ok (.iload_n 1, 1) := by decide +kernel
theorem dX10_good_37 : decode cX10_good 37 = .ok (.invokevirtual 81, 3) := by decide +kernel
theorem dX10_good_40 : decode cX10_good 40 = .ok (.ifCond .eq 36, 3) := by decide +kernel
theorem dX10_good_43 : decode cX10_good 43 = .ok (.aload_n 0, 1) := by decide +kernel
theorem dX10_good_44 : decode cX10_good 44 = .ok (.iload 4, 2) := by decide +kernel
theorem dX10_good_46 : decode cX10_good 46 = .ok (.iconst 2, 1) := by decide +kernel
theorem dX10_good_47 : decode cX10_good 47 = .ok (.invokevirtual 60, 3) := by decide +kernel
theorem dX10_good_50 : decode cX10_good 50 = .ok (.aload_n 0, 1) := by decide +kernel
theorem dX10_good_51 : decode cX10_good 51 = .ok (.aload_n 0, 1) := by decide +kernel
theorem dX10_good_52 : decode cX10_good 52 = .ok (.iload 4, 2) := by decide +kernel
theorem dX10_good_54 : decode cX10_good 54 = .ok (.iload_n 1, 1) := by decide +kernel
theorem dX10_good_55 : decode cX10_good 55 = .ok (.invokevirtual 107, 3) := by decide +kernel
theorem dX10_good_58 : decode cX10_good 58 = .ok (.iload_n 2, 1) := by decide +kernel
theorem dX10_good_59 : decode cX10_good 59 = .ok (.invokevirtual 104, 3) := by decide +kernel
theorem dX10_good_62 : decode cX10_good 62 = .ok (.iadd, 1) := by decide +kernel
theorem dX10_good_63 : decode cX10_good 63 = .ok (.aload_n 0, 1) := by decide +kernel
theorem dX10_good_64 : decode cX10_good 64 = .ok (.iload_n 1, 1) := by decide +kernel
theorem dX10_good_65 : decode cX10_good 65 = .ok (.iload_n 2, 1) := by decide +kernel
theorem dX10_good_66 : decode cX10_good 66 = .ok (.invokevirtual 104, 3) := by decide +kernel
theorem dX10_good_69 : decode cX10_good 69 = .ok (.if_icmp .ne 7, 3) := by decide +kernel
theorem dX10_good_72 : decode cX10_good 72 = .ok (.iconst 1, 1) := by decide +kernel
theorem dX10_good_73 : decode cX10_good 73 = .ok (.goto 4, 3) := by decide +kernel
theorem dX10_good_76 : decode cX10_good 76 = .ok (.iconst 0, 1) := by decide +kernel
theorem dX10_good_77 : decode cX10_good 77 = .ok (.istore 5, 2) := by decide +kernel
theorem dX10_good_79 : decode cX10_good 79 = .ok (.iload_n 3, 1) := by decide +kernel
theorem dX10_good_80 : decode cX10_good 80 = .ok (.iload 5, 2) := by decide +kernel
theorem dX10_good_82 : decode cX10_good 82 = .ok (.ifCond .eq 10, 3) := by decide +kernel
theorem dX10_good_85 : decode cX10_good 85 = .ok (.iconst 1, 1) := by decide +kernel
theorem dX10_good_86 : decode cX10_good 86 = .ok (.iload 4, 2) := by decide +kernel
theorem dX10_good_88 : decode cX10_good 88 = .ok (.ishl, 1) := by decide +kernel
theorem dX10_good_89 : decode cX10_good 89 = .ok (.goto 4, 3) := by decide +kernel
theorem dX10_good_92 : decode cX10_good 92 = .ok (.iconst 0, 1) := by decide +kernel
theorem dX10_good_93 : decode cX10_good 93 = .ok (.ior, 1) := by decide +kernel
theorem dX10_good_94 : decode cX10_good 94 = .ok (.istore_n 3, 1) := by decide +kernel
theorem dX10_good_95 : decode cX10_good 95 = .ok (.iinc 4 1, 3) := by decide +kernel
theorem dX10_good_98 : decode cX10_good 98 = .ok (.goto (-93), 3) := by decide +kernel
theorem dX10_good_101 : decode cX10_good 101 = .ok (.iload_n 3, 1) := by decide +kernel
theorem dX10_good_102 : decode cX10_good 102 = .ok (.ireturn, 1) := by decide +kernel
theorem dX10_goodLinks_0 : decode cX10_goodLinks 0 = .ok (.aload_n 0, 1) := by decide +kernel
theorem dX10_goodLinks_1 : decode cX10_goodLinks 1 = .ok (.aload_n 0, 1) := by decide +kernel
theorem dX10_goodLinks_2 : decode cX10_goodLinks 2 = .ok (.iload_n 1, 1) := by decide +kernel
theorem dX10_goodLinks_3 : decode cX10_goodLinks 3 = .ok (.invokevirtual 85, 3) := by decide +kernel
theorem dX10_goodLinks_6 : decode cX10_goodLinks 6 = .ok (.ifCond .eq 15, 3) := by decide +kernel
theorem dX10_goodLinks_9 : decode cX10_goodLinks 9 = .ok (.aload_n 0, 1) := by decide +kernel
theorem dX10_goodLinks_10 : decode cX10_goodLinks 10 = .ok (.iload_n 2, 1) := by decide +kernel
theorem dX10_goodLinks_11 : decode cX10_goodLinks 11 = .ok (.invokevirtual 85, 3) := by decide +kernel
theorem dX10_goodLinks_14 : decode cX10_goodLinks 14 = .ok (.ifCond .eq 7, 3) := by decide +kernel
theorem dX10_goodLinks_17 : decode cX10_goodLinks 17 = .ok (.iconst 0, 1) := by decide +kernel
theorem dX10_goodLinks_18 : decode cX10_goodLinks 18 = .ok (.goto 4, 3) := by decide +kernel
theorem dX10_goodLinks_21 : decode cX10_goodLinks 21 = .ok (.iconst 1, 1) := by decide +kernel
theorem dX10_goodLinks_22 : decode cX10_goodLinks 22 = .ok (.invokevirtual 67, 3) := by decide +kernel
theorem dX10_goodLinks_25 : decode cX10_goodLinks 25 = .ok (.ifCond .eq 5, 3) := by decide +kernel
theorem dX10_goodLinks_28 : decode cX10_goodLinks 28 = .ok (.iconst 0, 1) := by decide +kernel
theorem dX10_goodLinks_29 : decode cX10_goodLinks 29 = .ok (.ireturn, 1) := by decide +kernel
theorem dX10_goodLinks_30 : decode cX10_goodLinks 30 = .ok (.aload_n 0, 1) := by decide +kernel
theorem dX10_goodLinks_31 : decode cX10_goodLinks 31 = .ok (.invokevirtual 101, 3) := by decide +kernel
theorem dX10_goodLinks_34 : decode cX10_goodLinks 34 = .ok (.aload_n 0, 1) := by decide +kernel
theorem dX10_goodLinks_35 : decode cX10_goodLinks 35 = .ok (.iload_n 1, 1) := by decide +kernel
theorem dX10_goodLinks_36 : decode cX10_goodLinks 36 = .ok (.iload_n 2, 1) := by decide +kernel
theorem dX10_goodLinks_37 : decode cX10_goodLinks 37 = .ok (.invokevirtual 110, 3) := by decide +kernel
theorem dX10_goodLinks_40 : decode cX10_goodLinks 40 = .ok (.ireturn, 1) := by decide +kernel
theorem dX10_degree_0 : decode cX10_degree 0 = .ok (.iconst 0, 1) := by decide +kernel
theorem dX10_degree_1 : decode cX10_degree 1 = .ok (.istore_n 2, 1) := by decide +kernel
theorem dX10_degree_2 : decode cX10_degree 2 = .ok (.iconst 0, 1) := by decide +kernel
theorem dX10_degree_3 : decode cX10_degree 3 = .ok (.istore_n 3, 1) := by decide +kernel
theorem dX10_degree_4 : decode cX10_degree 4 = .ok (.iload_n 3, 1) := by decide +kernel
theorem dX10_degree_5 : decode cX10_degree 5 = .ok (.aload_n 0, 1) := by decide +kernel
theorem dX10_degree_6 : decode cX10_degree 6 = .ok (.getfield 7, 3) := by decide +kernel
theorem dX10_degree_9 : decode cX10_degree 9 = .ok (.iconst 1, 1) := by decide +kernel
theorem dX10_degree_10 : decode cX10_degree 10 = .ok (.iaload, 1) := by decide +kernel
theorem dX10_degree_11 : decode cX10_degree 11 = .ok (.if_icmp .ge 26, 3) := by decide +kernel
theorem dX10_degree_14 : decode cX10_degree 14 = .ok (.iload_n 2, 1) := by decide +kernel
theorem dX10_degree_15 : decode cX10_degree 15 = .ok (.aload_n 0, 1) := by decide +kernel
theorem dX10_degree_16 : decode cX10_degree 16 = .ok (.iload_n 3, 1) := by decide +kernel
theorem dX10_degree_17 : decode cX10_degree 17 = .ok (.iload_n 1, 1) := by decide +kernel
theorem dX10_degree_18 : decode cX10_degree 18 = .ok (.invokevirtual 81, 3) := by decide +kernel
theorem dX10_degree_21 : decode cX10_degree 21 = .ok (.ifCond .eq 7, 3) := by decide +kernel
theorem dX10_degree_24 : decode cX10_degree 24 = .ok (.iconst 1, 1) := by decide +kernel
theorem dX10_degree_25 : decode cX10_degree 25 = .ok (.goto 4, 3) := by decide +kernel
theorem dX10_degree_28 : decode cX10_degree 28 = .ok (.iconst 0, 1) := by decide +kernel
theorem dX10_degree_29 : decode cX10_degree 29 = .ok (.iadd, 1) := by decide +kernel
theorem dX10_degree_30 : decode cX10_degree 30 = .ok (.istore_n 2, 1) := by decide +kernel
theorem dX10_degree_31 : decode cX10_degree 31 = .ok (.iinc 3 1, 3) := by decide +kernel
theorem dX10_degree_34 : decode cX10_degree 34 = .ok (.goto (-30), 3) := by decide +kernel
theorem dX10_degree_37 : decode cX10_degree 37 = .ok (.iload_n 2, 1) := by decide +kernel
theorem dX10_degree_38 : decode cX10_degree 38 = .ok (.ireturn, 1) := by decide +kernel
theorem dX10_kind_0 : decode cX10_kind 0 = .ok (.aload_n 0, 1) := by decide +kernel
theorem dX10_kind_1 : decode cX10_kind 1 = .ok (.iconst 0, 1) := by decide +kernel
theorem dX10_kind_2 : decode cX10_kind 2 = .ok (.putfield 52, 3) := by decide +kernel
theorem dX10_kind_5 : decode cX10_kind 5 = .ok (.aload_n 0, 1) := by decide +kernel
theorem dX10_kind_6 : decode cX10_kind 6 = .ok (.invokevirtual 101, 3) := by decide +kernel
theorem dX10_kind_9 : decode cX10_kind 9 = .ok (.aload_n 0, 1) := by decide +kernel
theorem dX10_kind_10 : decode cX10_kind 10 = .ok (.getfield 7, 3) := by decide +kernel
theorem dX10_kind_13 : decode cX10_kind 13 = .ok (.iconst 0, 1) := by decide +kernel
theorem dX10_kind_14 : decode cX10_kind 14 = .ok (.iaload, 1) := by decide +kernel
theorem dX10_kind_15 : decode cX10_kind 15 = .ok (.ifCond .le 7, 3) := by decide +kernel
theorem dX10_kind_18 : decode cX10_kind 18 = .ok (.iconst 1, 1) := by decide +kernel
theorem dX10_kind_19 : decode cX10_kind 19 = .ok (.goto 4, 3) := by decide +kernel
