theorem dX10_stretch_0 : decode cX10_stretch 0 = .ok (.aload_n 0, 1) := by decide +kernel
theorem dX10_stretch_1 : decode cX10_stretch 1 = .ok (.iconst 0, 1) := by decide +kernel
theorem dX10_stretch_2 : decode cX10_stretch 2 = .ok (.putfield 52, 3) := by decide +kernel
theorem dX10_stretch_5 : decode cX10_stretch 5 = .ok (.aload_n 0, 1) := by decide +kernel
theorem dX10_stretch_6 : decode cX10_stretch 6 = .ok (.invokevirtual 101, 3) := by decide +kernel
theorem dX10_stretch_9 : decode cX10_stretch 9 = .ok (.dconst 0, 1) := by decide +kernel
theorem dX10_stretch_10 : decode cX10_stretch 10 = .ok (.dstore_n 1, 1) := by decide +kernel
theorem dX10_stretch_11 : decode cX10_stretch 11 = .ok (.iconst 0, 1) := by decide +kernel
theorem dX10_stretch_12 : decode cX10_stretch 12 = .ok (.istore_n 3, 1) := by decide +kernel
theorem dX10_stretch_13 : decode cX10_stretch 13 = .ok (.iload_n 3, 1) := by decide +kernel
theorem dX10_stretch_14 : decode cX10_stretch 14 = .ok (.aload_n 0, 1) := by decide +kernel
theorem dX10_stretch_15 : decode cX10_stretch 15 = .ok (.getfield 7, 3) := by decide +kernel
theorem dX10_stretch_18 : decode cX10_stretch 18 = .ok (.iconst 0, 1) := by decide +kernel
theorem dX10_stretch_19 : decode cX10_stretch 19 = .ok (.iaload, 1) := by decide +kernel
theorem dX10_stretch_20 : decode cX10_stretch 20 = .ok (.if_icmp .ge 76, 3) := by decide +kernel
theorem dX10_stretch_23 : decode cX10_stretch 23 = .ok (.iconst 0, 1) := by decide +kernel
theorem dX10_stretch_24 : decode cX10_stretch 24 = .ok (.istore 4, 2) := by decide +kernel
theorem dX10_stretch_26 : decode cX10_stretch 26 = .ok (.iload 4, 2) := by decide +kernel
theorem dX10_stretch_28 : decode cX10_stretch 28 = .ok (.aload_n 0, 1) := by decide +kernel
theorem dX10_stretch_29 : decode cX10_stretch 29 = .ok (.getfield 7, 3) := by decide +kernel
theorem dX10_stretch_32 : decode cX10_stretch 32 = .ok (.iconst 0, 1) := by decide +kernel
theorem dX10_stretch_33 : decode cX10_stretch 33 = .ok (.iaload, 1) := by decide +kernel
theorem dX10_stretch_34 : decode cX10_stretch 34 = .ok (.if_icmp .ge 56, 3) := by decide +kernel
theorem dX10_stretch_37 : decode cX10_stretch 37 = .ok (.iload_n 3, 1) := by decide +kernel
theorem dX10_stretch_38 : decode cX10_stretch 38 = .ok (.iload 4, 2) := by decide +kernel
theorem dX10_stretch_40 : decode cX10_stretch 40 = .ok (.if_icmp .eq 44, 3) := by decide +kernel
theorem dX10_stretch_43 : decode cX10_stretch 43 = .ok (.aload_n 0, 1) := by decide +kernel
theorem dX10_stretch_44 : decode cX10_stretch 44 = .ok (.iload_n 3, 1) := by decide +kernel
theorem dX10_stretch_45 : decode cX10_stretch 45 = .ok (.iload 4, 2) := by decide +kernel
theorem dX10_stretch_47 : decode cX10_stretch 47 = .ok (.iconst (-1), 1) := by decide +kernel
theorem dX10_stretch_48 : decode cX10_stretch 48 = .ok (.invokevirtual 205, 3) := by decide +kernel
theorem dX10_stretch_51 : decode cX10_stretch 51 = .ok (.ifCond .eq 33, 3) := by decide +kernel
theorem dX10_stretch_54 : decode cX10_stretch 54 = .ok (.aload_n 0, 1) := by decide +kernel
theorem dX10_stretch_55 : decode cX10_stretch 55 = .ok (.getfield 199, 3) := by decide +kernel
theorem dX10_stretch_58 : decode cX10_stretch 58 = .ok (.i2d, 1) := by decide +kernel
theorem dX10_stretch_59 : decode cX10_stretch 59 = .ok (.aload_n 0, 1) := by decide +kernel
theorem dX10_stretch_60 : decode cX10_stretch 60 = .ok (.iload_n 3, 1) := by decide +kernel
theorem dX10_stretch_61 : decode cX10_stretch 61 = .ok (.iload 4, 2) := by decide +kernel
theorem dX10_stretch_63 : decode cX10_stretch 63 = .ok (.invokevirtual 104, 3) := by decide +kernel
theorem dX10_stretch_66 : decode cX10_stretch 66 = .ok (.i2d, 1) := by decide +kernel
theorem dX10_stretch_67 : decode cX10_stretch 67 = .ok (.ddiv, 1) := by decide +kernel
theorem dX10_stretch_68 : decode cX10_stretch 68 = .ok (.dstore 5, 2) := by decide +kernel
theorem dX10_stretch_70 : decode cX10_stretch 70 = .ok (.dload 5, 2) := by decide +kernel
theorem dX10_stretch_72 : decode cX10_stretch 72 = .ok (.dload_n 1, 1) := by decide +kernel
theorem dX10_stretch_73 : decode cX10_stretch 73 = .ok (.dcmp .l, 1) := by decide +kernel
theorem dX10_stretch_74 : decode cX10_stretch 74 = .ok (.ifCond .le 8, 3) := by decide +kernel
theorem dX10_stretch_77 : decode cX10_stretch 77 = .ok (.dload 5, 2) := by decide +kernel
theorem dX10_stretch_79 : decode cX10_stretch 79 = .ok (.goto 4, 3) := by decide +kernel
theorem dX10_stretch_82 : decode cX10_stretch 82 = .ok (.dload_n 1, 1) := by decide +kernel
theorem dX10_stretch_83 : decode cX10_stretch 83 = .ok (.dstore_n 1, 1) := by decide +kernel
theorem dX10_stretch_84 : decode cX10_stretch 84 = .ok (.iinc 4 1, 3) := by decide +kernel
theorem dX10_stretch_87 : decode cX10_stretch 87 = .ok (.goto (-61), 3) := by decide +kernel
theorem dX10_stretch_90 : decode cX10_stretch 90 = .ok (.iinc 3 1, 3) := by decide +kernel
theorem dX10_stretch_93 : decode cX10_stretch 93 = .ok (.goto (-80), 3) := by decide +kernel
theorem dX10_stretch_96 : decode cX10_stretch 96 = .ok (.dload_n 1, 1) := by decide +kernel
theorem dX10_stretch_97 : decode cX10_stretch 97 = .ok (.dreturn, 1) := by decide +kernel
theorem dX10_load_0 : decode cX10_load 0 = .ok (.aload_n 0, 1) := by decide +kernel
theorem dX10_load_1 : decode cX10_load 1 = .ok (.aload_n 0, 1) := by decide +kernel
theorem dX10_load_2 : decode cX10_load 2 = .ok (.iload_n 1, 1) := by decide +kernel
theorem dX10_load_3 : decode cX10_load 3 = .ok (.invokevirtual 95, 3) := by decide +kernel
theorem dX10_load_6 : decode cX10_load 6 = .ok (.ifCond .eq 7, 3) := by decide +kernel
theorem dX10_load_9 : decode cX10_load 9 = .ok (.iconst 0, 1) := by decide +kernel
theorem dX10_load_10 : decode cX10_load 10 = .ok (.goto 4, 3) := by decide +kernel
theorem dX10_load_13 : decode cX10_load 13 = .ok (.iconst 1, 1) := by decide +kernel
theorem dX10_load_14 : decode cX10_load 14 = .ok (.invokevirtual 67, 3) := by decide +kernel
theorem dX10_load_17 : decode cX10_load 17 = .ok (.ifCond .eq 5, 3) := by decide +kernel
theorem dX10_load_20 : decode cX10_load 20 = .ok (.iconst 0, 1) := by decide +kernel
theorem dX10_load_21 : decode cX10_load 21 = .ok (.ireturn, 1) := by decide +kernel
theorem dX10_load_22 : decode cX10_load 22 = .ok (.iconst 0, 1) := by decide +kernel
theorem dX10_load_23 : decode cX10_load 23 = .ok (.istore_n 2, 1) := by decide +kernel
theorem dX10_load_24 : decode cX10_load 24 = .ok (.iconst 0, 1) := by decide +kernel
theorem dX10_load_25 : decode cX10_load 25 = .ok (.istore_n 3, 1) := by decide +kernel
theorem dX10_load_26 : decode cX10_load 26 = .ok (.iload_n 3, 1) := by decide +kernel
theorem dX10_load_27 : decode cX10_load 27 = .ok (.aload_n 0, 1) := by decide +kernel
theorem dX10_load_28 : decode cX10_load 28 = .ok (.getfield 7, 3) := by decide +kernel
theorem dX10_load_31 : decode cX10_load 31 = .ok (.iconst 0, 1) := by decide +kernel
theorem dX10_load_32 : decode cX10_load 32 = .ok (.iaload, 1) := by decide +kernel
theorem dX10_load_33 : decode cX10_load 33 = .ok (.if_icmp .ge 65, 3) := by decide +kernel
theorem dX10_load_36 : decode cX10_load 36 = .ok (.iconst 0, 1) := by decide +kernel
theorem dX10_load_37 : decode cX10_load 37 = .ok (.istore 4, 2) := by decide +kernel
theorem dX10_load_39 : decode cX10_load 39 = .ok (.iload 4, 2) := by decide +kernel
theorem dX10_load_41 : decode cX10_load 41 = .ok (.aload_n 0, 1) := by decide +kernel
theorem dX10_load_42 : decode cX10_load 42 = .ok (.getfield 7, 3) := by decide +kernel
theorem dX10_load_45 : decode cX10_load 45 = .ok (.iconst 0, 1) := by decide +kernel
theorem dX10_load_46 : decode cX10_load 46 = .ok (.iaload, 1) := by decide +kernel
theorem dX10_load_47 : decode cX10_load 47 = .ok (.if_icmp .ge 45, 3) := by decide +kernel
theorem dX10_load_50 : decode cX10_load 50 = .ok (.iload_n 2, 1) := by decide +kernel
theorem dX10_load_51 : decode cX10_load 51 = .ok (.iload_n 3, 1) := by decide +kernel
theorem dX10_load_52 : decode cX10_load 52 = .ok (.iload 4, 2) := by decide +kernel
theorem dX10_load_54 : decode cX10_load 54 = .ok (.if_icmp .eq 29, 3) := by decide +kernel
theorem dX10_load_57 : decode cX10_load 57 = .ok (.aload_n 0, 1) := by decide +kernel
theorem dX10_load_58 : decode cX10_load 58 = .ok (.iload_n 3, 1) := by decide +kernel
theorem dX10_load_59 : decode cX10_load 59 = .ok (.iload 4, 2) := by decide +kernel
theorem dX10_load_61 : decode cX10_load 61 = .ok (.iconst (-1), 1) := by decide +kernel
theorem dX10_load_62 : decode cX10_load 62 = .ok (.invokevirtual 205, 3) := by decide +kernel
theorem dX10_load_65 : decode cX10_load 65 = .ok (.ifCond .eq 18, 3) := by decide +kernel
theorem dX10_load_68 : decode cX10_load 68 = .ok (.aload_n 0, 1) := by decide +kernel
theorem dX10_load_69 : decode cX10_load 69 = .ok (.getfield 196, 3) := by decide +kernel
theorem dX10_load_72 : decode cX10_load 72 = .ok (.iload_n 1, 1) := by decide +kernel
theorem dX10_load_73 : decode cX10_load 73 = .ok (.invokestatic 120, 3) := by decide +kernel
theorem dX10_load_76 : decode cX10_load 76 = .ok (.ifCond .eq 7, 3) := by decide +kernel
theorem dX10_load_79 : decode cX10_load 79 = .ok (.iconst 1, 1) := by decide +kernel
theorem dX10_load_80 : decode cX10_load 80 = .ok (.goto 4, 3) := by decide +kernel
theorem dX10_load_83 : decode cX10_load 83 = .ok (.iconst 0, 1) := by decide +kernel
theorem dX10_load_84 : decode cX10_load 84 = .ok (.iadd, 1) := by decide +kernel
theorem dX10_load_85 : decode cX10_load 85 = .ok (.istore_n 2, 1) := by decide +kernel
theorem dX10_load_86 : decode cX10_load 86 = .ok (.iinc 4 1, 3) := by decide +kernel
theorem dX10_load_89 : decode cX10_load 89 = .ok (.goto (-50), 3) := by decide +kernel
theorem dX10_load_92 : decode cX10_load 92 = .ok (.iinc 3 1, 3) := by decide +kernel
theorem dX10_load_95 : decode cX10_load 95 = .ok (.goto (-69), 3) := by decide +kernel
theorem dX10_load_98 : decode cX10_load 98 = .ok (.iload_n 2, 1) := by decide +kernel
theorem dX10_load_99 : decode cX10_load 99 = .ok (.ireturn, 1) := by decide +kernel
theorem dX10_lostWithout_0 : decode cX10_lostWithout 0 = .ok (.aload_n 0, 1) := by decide +kernel
theorem dX10_lostWithout_1 : decode cX10_lostWithout 1 = .ok (.aload_n 0, 1) := by decide +kernel
theorem dX10_lostWithout_2 : decode cX10_lostWithout 2 = .ok (.iload_n 1, 1) := by decide +kernel
theorem dX10_lostWithout_3 : decode cX10_lostWithout 3 = .ok (.invokevirtual 95, 3) := by decide +kernel
theorem dX10_lostWithout_6 : decode cX10_lostWithout 6 = .ok (.ifCond .eq 7, 3) := by decide +kernel
theorem dX10_lostWithout_9 : decode cX10_lostWithout 9 = .ok (.iconst 0, 1) := by decide +kernel
theorem dX10_lostWithout_10 : decode cX10_lostWithout 10 = .ok (.goto 4, 3) := by decide +kernel
theorem dX10_lostWithout_13 : decode cX10_lostWithout 13 = .ok (.iconst 1, 1) := by decide +kernel
theorem dX10_lostWithout_14 : decode cX10_lostWithout 14 = .ok (.invokevirtual 67, 3) := by decide +kernel
theorem dX10_lostWithout_17 : decode cX10_lostWithout 17 = .ok (.ifCond .eq 5, 3) := by decide +kernel
theorem dX10_lostWithout_20 : decode cX10_lostWithout 20 = .ok (.iconst 0, 1) := by decide +kernel
theorem dX10_lostWithout_21 : decode cX10_lostWithout 21 = .ok (.ireturn, 1) := by decide +kernel
theorem dX10_lostWithout_22 : decode cX10_lostWithout 22 = .ok (.iconst 0, 1) := by decide +kernel
theorem dX10_lostWithout_23 : decode cX10_lostWithout 23 = .ok (.istore_n 2, 1) := by decide +kernel
theorem dX10_lostWithout_24 : decode cX10_lostWithout 24 = .ok (.iconst 0, 1) := by decide +kernel
theorem dX10_lostWithout_25 : decode cX10_lostWithout 25 = .ok (.istore_n 3, 1) := by decide +kernel
theorem dX10_lostWithout_26 : decode cX10_lostWithout 26 = .ok (.iload_n 3, 1) := by decide +kernel
theorem dX10_lostWithout_27 : decode cX10_lostWithout 27 = .ok (.aload_n 0, 1) := by decide +kernel
theorem dX10_lostWithout_28 : decode cX10_lostWithout 28 = .ok (.getfield 7, 3) := by decide +kernel
theorem dX10_lostWithout_31 : decode cX10_lostWithout 31 = .ok (.iconst 0, 1) := by decide +kernel
theorem dX10_lostWithout_32 : decode cX10_lostWithout 32 = .ok (.iaload, 1) := by decide +kernel
theorem dX10_lostWithout_33 : decode cX10_lostWithout 33 = .ok (.if_icmp .ge 65, 3) := by decide +kernel
theorem dX10_lostWithout_36 : decode cX10_lostWithout 36 = .ok (.iconst 0, 1) := by decide +kernel
theorem dX10_lostWithout_37 : decode cX10_lostWithout 37 = .ok (.istore 4, 2) := by decide +kernel
theorem dX10_lostWithout_39 : decode cX10_lostWithout 39 = .ok (.iload 4, 2) := by decide +kernel
theorem dX10_lostWithout_41 : decode cX10_lostWithout 41 = .ok (.aload_n 0, 1) := by decide +kernel
theorem dX10_lostWithout_42 : decode cX10_lostWithout 42 = .ok (.getfield 7, 3) := by decide +kernel
theorem dX10_lostWithout_45 : decode cX10_lostWithout 45 = .ok (.iconst 0, 1) := by decide +kernel
theorem dX10_lostWithout_46 : decode cX10_lostWithout 46 = .ok (.iaload, 1) := by decide +kernel
theorem dX10_lostWithout_47 : decode cX10_lostWithout 47 = .ok (.if_icmp .ge 45, 3) := by decide +kernel
theorem dX10_lostWithout_50 : decode cX10_lostWithout 50 = .ok (.iload_n 2, 1) := by decide +kernel
theorem dX10_lostWithout_51 : decode cX10_lostWithout 51 = .ok (.iload_n 3, 1) := by decide +kernel
theorem dX10_lostWithout_52 : decode cX10_lostWithout 52 = .ok (.iload 4, 2) := by decide +kernel
theorem dX10_lostWithout_54 : decode cX10_lostWithout 54 = .ok (.if_icmp .eq 29, 3) := by decide +kernel
theorem dX10_lostWithout_57 : decode cX10_lostWithout 57 = .ok (.aload_n 0, 1) := by decide +kernel
theorem dX10_lostWithout_58 : decode cX10_lostWithout 58 = .ok (.iload_n 3, 1) := by decide +kernel
theorem dX10_lostWithout_59 : decode cX10_lostWithout 59 = .ok (.iload 4, 2) := by decide +kernel
theorem dX10_lostWithout_61 : decode cX10_lostWithout 61 = .ok (.iconst (-1), 1) := by decide +kernel
theorem dX10_lostWithout_62 : decode cX10_lostWithout 62 = .ok (.invokevirtual 205, 3) := by decide +kernel
theorem dX10_lostWithout_65 : decode cX10_lostWithout 65 = .ok (.ifCond .eq 18, 3) := by decide +kernel
theorem dX10_lostWithout_68 : decode cX10_lostWithout 68 = .ok (.aload_n 0, 1) := by decide +kernel
theorem dX10_lostWithout_69 : decode cX10_lostWithout 69 = .ok (.iload_n 3, 1) := by decide +kernel
theorem dX10_lostWithout_70 : decode cX10_lostWithout 70 = .ok (.iload 4, 2) := by decide +kernel
theorem dX10_lostWithout_72 : decode cX10_lostWithout 72 = .ok (.iload_n 1, 1) := by decide +kernel
theorem dX10_lostWithout_73 : decode cX10_lostWithout 73 = .ok (.invokevirtual 205, 3) := by decide +kernel
theorem dX10_lostWithout_76 : decode cX10_lostWithout 76 = .ok (.ifCond .ne 7, 3) := by decide +kernel
theorem dX10_lostWithout_79 : decode cX10_lostWithout 79 = .ok (.iconst 1, 1) := by decide +kernel
theorem dX10_lostWithout_80 : decode cX10_lostWithout 80 = .ok (.goto 4, 3) := by decide +kernel
theorem dX10_lostWithout_83 : decode cX10_lostWithout 83 = .ok (.iconst 0, 1) := by decide +kernel
theorem dX10_lostWithout_84 : decode cX10_lostWithout 84 = .ok (.iadd, 1) := by decide +kernel
theorem dX10_lostWithout_85 : decode cX10_lostWithout 85 = .ok (.istore_n 2, 1) := by decide +kernel
theorem dX10_lostWithout_86 : decode cX10_lostWithout 86 = .ok (.iinc 4 1, 3) := by decide +kernel
theorem dX10_lostWithout_89 : decode cX10_lostWithout 89 = .ok (.goto (-50), 3) := by decide +kernel
theorem dX10_lostWithout_92 : decode cX10_lostWithout 92 = .ok (.iinc 3 1, 3) := by decide +kernel
theorem dX10_lostWithout_95 : decode cX10_lostWithout 95 = .ok (.goto (-69), 3) := by decide +kernel
theorem dX10_lostWithout_98 : decode cX10_lostWithout 98 = .ok (.iload_n 2, 1) := by decide +kernel
theorem dX10_lostWithout_99 : decode cX10_lostWithout 99 = .ok (.ireturn, 1) := by decide +kernel
theorem dX10_follows_0 : decode cX10_follows 0 = .ok (.aload_n 0, 1) := by decide +kernel
theorem dX10_follows_1 : decode cX10_follows 1 = .ok (.getfield 7, 3) := by decide +kernel
theorem dX10_follows_4 : decode cX10_follows 4 = .ok (.iconst 0, 1) := by decide +kernel
theorem dX10_follows_5 : decode cX10_follows 5 = .ok (.iaload, 1) := by decide +kernel
theorem dX10_follows_6 : decode cX10_follows 6 = .ok (.iconst 2, 1) := by decide +kernel
theorem dX10_follows_7 : decode cX10_follows 7 = .ok (.isub, 1) := by decide +kernel
theorem dX10_follows_8 : decode cX10_follows 8 = .ok (.istore_n 1, 1) := by decide +kernel
theorem dX10_follows_9 : decode cX10_follows 9 = .ok (.iload_n 1, 1) := by decide +kernel
theorem dX10_follows_10 : decode cX10_follows 10 = .ok (.ifCond .lt 32, 3) := by decide +kernel
theorem dX10_follows_13 : decode cX10_follows 13 = .ok (.aload_n 0, 1) := by decide +kernel
theorem dX10_follows_14 : decode cX10_follows 14 = .ok (.getfield 7, 3) := by decide +kernel
theorem dX10_follows_17 : decode cX10_follows 17 = .ok (.bipush 50, 2) := by decide +kernel
theorem dX10_follows_19 : decode cX10_follows 19 = .ok (.iload_n 1, 1) := by decide +kernel
theorem dX10_follows_20 : decode cX10_follows 20 = .ok (.iadd, 1) := by decide +kernel
theorem dX10_follows_21 : decode cX10_follows 21 = .ok (.iaload, 1) := by decide +kernel
theorem dX10_follows_22 : decode cX10_follows 22 = .ok (.aload_n 0, 1) := by decide +kernel
theorem dX10_follows_23 : decode cX10_follows 23 = .ok (.getfield 7, 3) := by decide +kernel
theorem dX10_follows_26 : decode cX10_follows 26 = .ok (.bipush 50, 2) := by decide +kernel
theorem dX10_follows_28 : decode cX10_follows 28 = .ok (.iload_n 1, 1) := by decide +kernel
theorem dX10_follows_29 : decode cX10_follows 29 = .ok (.iadd, 1) := by decide +kernel
theorem dX10_follows_30 : decode cX10_follows 30 = .ok (.iconst 1, 1) := by decide +kernel
theorem dX10_follows_31 : decode cX10_follows 31 = .ok (.iadd, 1) := by decide +kernel
theorem dX10_follows_32 : decode cX10_follows 32 = .ok (.iaload, 1) := by decide +kernel
theorem dX10_follows_33 : decode cX10_follows 33 = .ok (.if_icmp .le 9, 3) := by decide +kernel
theorem dX10_follows_36 : decode cX10_follows 36 = .ok (.iinc 1 (-1), 3) := by decide +kernel
theorem dX10_follows_39 : decode cX10_follows 39 = .ok (.goto (-30), 3) := by decide +kernel
theorem dX10_follows_42 : decode cX10_follows 42 = .ok (.iload_n 1, 1) := by decide +kernel
theorem dX10_follows_43 : decode cX10_follows 43 = .ok (.ifCond .ge 5, 3) := by decide +kernel
theorem dX10_follows_46 : decode cX10_follows 46 = .ok (.iconst 0, 1) := by decide +kernel
theorem dX10_follows_47 : decode cX10_follows 47 = .ok (.ireturn, 1) := by decide +kernel
theorem dX10_follows_48 : decode cX10_follows 48 = .ok (.aload_n 0, 1) := by decide +kernel
theorem dX10_follows_49 : decode cX10_follows 49 = .ok (.getfield 7, 3) := by decide +kernel
theorem dX10_follows_52 : decode cX10_follows 52 = .ok (.iconst 0, 1) := by decide +kernel
theorem dX10_follows_53 : decode cX10_follows 53 = .ok (.iaload, 1) := by decide +kernel
theorem dX10_follows_54 : decode cX10_follows 54 = .ok (.iconst 1, 1) := by decide +kernel
theorem dX10_follows_55 : decode cX10_follows 55 = .ok (.isub, 1) := by decide +kernel
theorem dX10_follows_56 : decode cX10_follows 56 = .ok (.istore_n 2, 1) := by decide +kernel
theorem dX10_follows_57 : decode cX10_follows 57 = .ok (.aload_n 0, 1) := by decide +kernel
theorem dX10_follows_58 : decode cX10_follows 58 = .ok (.getfield 7, 3) := by decide +kernel
theorem dX10_follows_61 : decode cX10_follows 61 = .ok (.bipush 50, 2) := by decide +kernel
theorem dX10_follows_63 : decode cX10_follows 63 = .ok (.iload_n 2, 1) := by decide +kernel
theorem dX10_follows_64 : decode cX10_follows 64 = .ok (.iadd, 1) := by decide +kernel
theorem dX10_follows_65 : decode cX10_follows 65 = .ok (.iaload, 1) := by decide +kernel
theorem dX10_follows_66 : decode cX10_follows 66 = .ok (.aload_n 0, 1) := by decide +kernel
theorem dX10_follows_67 : decode cX10_follows 67 = .ok (.getfield 7, 3) := by decide +kernel
theorem dX10_follows_70 : decode cX10_follows 70 = .ok (.bipush 50, 2) := by decide +kernel
theorem dX10_follows_72 : decode cX10_follows 72 = .ok (.iload_n 1, 1) := by decide +kernel
theorem dX10_follows_73 : decode cX10_follows 73 = .ok (.iadd, 1) := by decide +kernel
theorem dX10_follows_74 : decode cX10_follows 74 = .ok (.iaload, 1) := by decide +kernel
theorem dX10_follows_75 : decode cX10_follows 75 = .ok (.if_icmp .ge 9, 3) := by decide +kernel
theorem dX10_follows_78 : decode cX10_follows 78 = .ok (.iinc 2 (-1), 3) := by decide +kernel
theorem dX10_follows_81 : decode cX10_follows 81 = .ok (.goto (-24), 3) := by decide +kernel
theorem dX10_follows_84 : decode cX10_follows 84 = .ok (.aload_n 0, 1) := by decide +kernel
theorem dX10_follows_85 : decode cX10_follows 85 = .ok (.iload_n 1, 1) := by decide +kernel
theorem dX10_follows_86 : decode cX10_follows 86 = .ok (.iload_n 2, 1) := by decide +kernel
theorem dX10_follows_87 : decode cX10_follows 87 = .ok (.invokevirtual 133, 3) := by decide +kernel
theorem dX10_follows_90 : decode cX10_follows 90 = .ok (.iload_n 1, 1) := by decide +kernel
theorem dX10_follows_91 : decode cX10_follows 91 = .ok (.iconst 1, 1) := by decide +kernel
theorem dX10_follows_92 : decode cX10_follows 92 = .ok (.iadd, 1) := by decide +kernel
theorem dX10_follows_93 : decode cX10_follows 93 = .ok (.istore_n 3, 1) := by decide +kernel
theorem dX10_follows_94 : decode cX10_follows 94 = .ok (.aload_n 0, 1) := by decide +kernel
theorem dX10_follows_95 : decode cX10_follows 95 = .ok (.getfield 7, 3) := by decide +kernel
theorem dX10_follows_98 : decode cX10_follows 98 = .ok (.iconst 0, 1) := by decide +kernel
theorem dX10_follows_99 : decode cX10_follows 99 = .ok (.iaload, 1) := by decide +kernel
theorem dX10_follows_100 : decode cX10_follows 100 = .ok (.iconst 1, 1) := by decide +kernel
theorem dX10_follows_101 : decode cX10_follows 101 = .ok (.isub, 1) := by decide +kernel
theorem dX10_follows_102 : decode cX10_follows 102 = .ok (.istore 4, 2) := by decide +kernel
theorem dX10_follows_104 : decode cX10_follows 104 = .ok (.iload_n 3, 1) := by decide +kernel
theorem dX10_follows_105 : decode cX10_follows 105 = .ok (.iload 4, 2) := by decide +kernel
theorem dX10_follows_107 : decode cX10_follows 107 = .ok (.if_icmp .ge 19, 3) := by decide +kernel
theorem dX10_follows_110 : decode cX10_follows 110 = .ok (.aload_n 0, 1) := by decide +kernel
theorem dX10_follows_111 : decode cX10_follows 111 = .ok (.iload_n 3, 1) := by decide +kernel
theorem dX10_follows_112 : decode cX10_follows 112 = .ok (.iload 4, 2) := by decide +kernel
theorem dX10_follows_114 : decode cX10_follows 114 = .ok (.invokevirtual 133, 3) := by decide +kernel
theorem dX10_follows_117 : decode cX10_follows 117 = .ok (.iinc 3 1, 3) := by decide +kernel
theorem dX10_follows_120 : decode cX10_follows 120 = .ok (.iinc 4 (-1), 3) := by decide +kernel
theorem dX10_follows_123 : decode cX10_follows 123 = .ok (.goto (-19), 3) := by decide +kernel
theorem dX10_follows_126 : decode cX10_follows 126 = .ok (.iconst 1, 1) := by decide +kernel
theorem dX10_follows_127 : decode cX10_follows 127 = .ok (.ireturn, 1) := by decide +kernel
theorem dX10_bestOf_0 : decode cX10_bestOf 0 = .ok (.aload_n 0, 1) := by decide +kernel
theorem dX10_bestOf_1 : decode cX10_bestOf 1 = .ok (.invokevirtual 101, 3) := by decide +kernel
theorem dX10_bestOf_4 : decode cX10_bestOf 4 = .ok (.iconst 0, 1) := by decide +kernel
theorem dX10_bestOf_5 : decode cX10_bestOf 5 = .ok (.istore_n 1, 1) := by decide +kernel
theorem dX10_bestOf_6 : decode cX10_bestOf 6 = .ok (.iload_n 1, 1) := by decide +kernel
theorem dX10_bestOf_7 : decode cX10_bestOf 7 = .ok (.bipush 10, 2) := by decide +kernel
theorem dX10_bestOf_9 : decode cX10_bestOf 9 = .ok (.if_icmp .ge 16, 3) := by decide +kernel
theorem dX10_bestOf_12 : decode cX10_bestOf 12 = .ok (.aload_n 0, 1) := by decide +kernel
theorem dX10_bestOf_13 : decode cX10_bestOf 13 = .ok (.getfield 46, 3) := by decide +kernel
theorem dX10_bestOf_16 : decode cX10_bestOf 16 = .ok (.iload_n 1, 1) := by decide +kernel
theorem dX10_bestOf_17 : decode cX10_bestOf 17 = .ok (.iconst 0, 1) := by decide +kernel
theorem dX10_bestOf_18 : decode cX10_bestOf 18 = .ok (.iastore, 1) := by decide +kernel
theorem dX10_bestOf_19 : decode cX10_bestOf 19 = .ok (.iinc 1 1, 3) := by decide +kernel
theorem dX10_bestOf_22 : decode cX10_bestOf 22 = .ok (.goto (-16), 3) := by decide +kernel
theorem dX10_bestOf_25 : decode cX10_bestOf 25 = .ok (.iconst 0, 1) := by decide +kernel
theorem dX10_bestOf_26 : decode cX10_bestOf 26 = .ok (.istore_n 1, 1) := by decide +kernel
theorem dX10_bestOf_27 : decode cX10_bestOf 27 = .ok (.iload_n 1, 1) := by decide +kernel
theorem dX10_bestOf_28 : decode cX10_bestOf 28 = .ok (.bipush 9, 2) := by decide +kernel
theorem dX10_bestOf_30 : decode cX10_bestOf 30 = .ok (.if_icmp .ge 34, 3) := by decide +kernel
theorem dX10_bestOf_33 : decode cX10_bestOf 33 = .ok (.aload_n 0, 1) := by decide +kernel
theorem dX10_bestOf_34 : decode cX10_bestOf 34 = .ok (.getfield 43, 3) := by decide +kernel
theorem dX10_bestOf_37 : decode cX10_bestOf 37 = .ok (.iload_n 1, 1) := by decide +kernel
theorem dX10_bestOf_38 : decode cX10_bestOf 38 = .ok (.aload_n 0, 1) := by decide +kernel
theorem dX10_bestOf_39 : decode cX10_bestOf 39 = .ok (.getfield 7, 3) := by decide +kernel
theorem dX10_bestOf_42 : decode cX10_bestOf 42 = .ok (.bipush 50, 2) := by decide +kernel
theorem dX10_bestOf_44 : decode cX10_bestOf 44 = .ok (.iload_n 1, 1) := by decide +kernel
theorem dX10_bestOf_45 : decode cX10_bestOf 45 = .ok (.iadd, 1) := by decide +kernel
theorem dX10_bestOf_46 : decode cX10_bestOf 46 = .ok (.iaload, 1) := by decide +kernel
theorem dX10_bestOf_47 : decode cX10_bestOf 47 = .ok (.iastore, 1) := by decide +kernel
theorem dX10_bestOf_48 : decode cX10_bestOf 48 = .ok (.aload_n 0, 1) := by decide +kernel
theorem dX10_bestOf_49 : decode cX10_bestOf 49 = .ok (.getfield 7, 3) := by decide +kernel
theorem dX10_bestOf_52 : decode cX10_bestOf 52 = .ok (.bipush 50, 2) := by decide +kernel
theorem dX10_bestOf_54 : decode cX10_bestOf 54 = .ok (.iload_n 1, 1) := by decide +kernel
theorem dX10_bestOf_55 : decode cX10_bestOf 55 = .ok (.iadd, 1) := by decide +kernel
theorem dX10_bestOf_56 : decode cX10_bestOf 56 = .ok (.iload_n 1, 1) := by decide +kernel
theorem dX10_bestOf_57 : decode cX10_bestOf 57 = .ok (.iastore, 1) := by decide +kernel
theorem dX10_bestOf_58 : decode cX10_bestOf 58 = .ok (.iinc 1 1, 3) := by decide +kernel
theorem dX10_bestOf_61 : decode cX10_bestOf 61 = .ok (.goto (-34), 3) := by decide +kernel
theorem dX10_bestOf_64 : decode cX10_bestOf 64 = .ok (.sipush 1000, 3) := by decide +kernel
theorem dX10_bestOf_67 : decode cX10_bestOf 67 = .ok (.istore_n 1, 1) := by decide +kernel
theorem dX10_bestOf_68 : decode cX10_bestOf 68 = .ok (.sipush 1000, 3) := by decide +kernel
theorem dX10_bestOf_71 : decode cX10_bestOf 71 = .ok (.istore_n 2, 1) := by decide +kernel
theorem dX10_bestOf_72 : decode cX10_bestOf 72 = .ok (.iconst 1, 1) := by decide +kernel
theorem dX10_bestOf_73 : decode cX10_bestOf 73 = .ok (.istore_n 3, 1) := by decide +kernel
theorem dX10_bestOf_74 : decode cX10_bestOf 74 = .ok (.iload_n 3, 1) := by decide +kernel
theorem dX10_bestOf_75 : decode cX10_bestOf 75 = .ok (.ifCond .eq 170, 3) := by decide +kernel
theorem dX10_bestOf_78 : decode cX10_bestOf 78 = .ok (.iconst 0, 1) := by decide +kernel
theorem dX10_bestOf_79 : decode cX10_bestOf 79 = .ok (.istore 4, 2) := by decide +kernel
theorem dX10_bestOf_81 : decode cX10_bestOf 81 = .ok (.iconst 0, 1) := by decide +kernel
theorem dX10_bestOf_82 : decode cX10_bestOf 82 = .ok (.istore 5, 2) := by decide +kernel
theorem dX10_bestOf_84 : decode cX10_bestOf 84 = .ok (.iconst 0, 1) := by decide +kernel
theorem dX10_bestOf_85 : decode cX10_bestOf 85 = .ok (.istore 6, 2) := by decide +kernel
theorem dX10_bestOf_87 : decode cX10_bestOf 87 = .ok (.iload 6, 2) := by decide +kernel
theorem dX10_bestOf_89 : decode cX10_bestOf 89 = .ok (.aload_n 0, 1) := by decide +kernel
theorem dX10_bestOf_90 : decode cX10_bestOf 90 = .ok (.getfield 7, 3) := by decide +kernel
theorem dX10_bestOf_93 : decode cX10_bestOf 93 = .ok (.iconst 0, 1) := by decide +kernel
theorem dX10_bestOf_94 : decode cX10_bestOf 94 = .ok (.iaload, 1) := by decide +kernel
theorem dX10_bestOf_95 : decode cX10_bestOf 95 = .ok (.if_icmp .ge 44, 3) := by decide +kernel
theorem dX10_bestOf_98 : decode cX10_bestOf 98 = .ok (.aload_n 0, 1) := by decide +kernel
theorem dX10_bestOf_99 : decode cX10_bestOf 99 = .ok (.iload 6, 2) := by decide +kernel
theorem dX10_bestOf_101 : decode cX10_bestOf 101 = .ok (.invokevirtual 175, 3) := by decide +kernel
theorem dX10_bestOf_104 : decode cX10_bestOf 104 = .ok (.aload_n 0, 1) := by decide +kernel
theorem dX10_bestOf_105 : decode cX10_bestOf 105 = .ok (.invokevirtual 181, 3) := by decide +kernel
theorem dX10_bestOf_108 : decode cX10_bestOf 108 = .ok (.iload 4, 2) := by decide +kernel
theorem dX10_bestOf_110 : decode cX10_bestOf 110 = .ok (.if_icmp .le 10, 3) := by decide +kernel
theorem dX10_bestOf_113 : decode cX10_bestOf 113 = .ok (.aload_n 0, 1) := by decide +kernel
theorem dX10_bestOf_114 : decode cX10_bestOf 114 = .ok (.invokevirtual 181, 3) := by decide +kernel
theorem dX10_bestOf_117 : decode cX10_bestOf 117 = .ok (.goto 5, 3) := by decide +kernel
theorem dX10_bestOf_120 : decode cX10_bestOf 120 = .ok (.iload 4, 2) := by decide +kernel
theorem dX10_bestOf_122 : decode cX10_bestOf 122 = .ok (.istore 4, 2) := by decide +kernel
theorem dX10_bestOf_124 : decode cX10_bestOf 124 = .ok (.iload 5, 2) := by decide +kernel
theorem dX10_bestOf_126 : decode cX10_bestOf 126 = .ok (.aload_n 0, 1) := by decide +kernel
theorem dX10_bestOf_127 : decode cX10_bestOf 127 = .ok (.invokevirtual 172, 3) := by decide +kernel
theorem dX10_bestOf_130 : decode cX10_bestOf 130 = .ok (.iadd, 1) := by decide +kernel
theorem dX10_bestOf_131 : decode cX10_bestOf 131 = .ok (.istore 5, 2) := by decide +kernel
theorem dX10_bestOf_133 : decode cX10_bestOf 133 = .ok (.iinc 6 1, 3) := by decide +kernel
theorem dX10_bestOf_136 : decode cX10_bestOf 136 = .ok (.goto (-49), 3) := by decide +kernel
theorem dX10_bestOf_139 : decode cX10_bestOf 139 = .ok (.aload_n 0, 1) := by decide +kernel
theorem dX10_bestOf_140 : decode cX10_bestOf 140 = .ok (.getfield 46, 3) := by decide +kernel
theorem dX10_bestOf_143 : decode cX10_bestOf 143 = .ok (.iload 4, 2) := by decide +kernel
theorem dX10_bestOf_145 : decode cX10_bestOf 145 = .ok (.dup2, 1) := by decide +kernel
theorem dX10_bestOf_146 : decode cX10_bestOf 146 = .ok (.iaload, 1) := by decide +kernel
theorem dX10_bestOf_147 : decode cX10_bestOf 147 = .ok (.iconst 1, 1) := by decide +kernel
theorem dX10_bestOf_148 : decode cX10_bestOf 148 = .ok (.iadd, 1) := by decide +kernel
theorem dX10_bestOf_149 : decode cX10_bestOf 149 = .ok (.iastore, 1) := by decide +kernel
theorem dX10_bestOf_150 : decode cX10_bestOf 150 = .ok (.iload 4, 2) := by decide +kernel
theorem dX10_bestOf_152 : decode cX10_bestOf 152 = .ok (.iload_n 1, 1) := by decide +kernel
theorem dX10_bestOf_153 : decode cX10_bestOf 153 = .ok (.if_icmp .lt 15, 3) := by decide +kernel
theorem dX10_bestOf_156 : decode cX10_bestOf 156 = .ok (.iload 4, 2) := by decide +kernel
theorem dX10_bestOf_158 : decode cX10_bestOf 158 = .ok (.iload_n 1, 1) := by decide +kernel
theorem dX10_bestOf_159 : decode cX10_bestOf 159 = .ok (.if_icmp .ne 13, 3) := by decide +kernel
theorem dX10_bestOf_162 : decode cX10_bestOf 162 = .ok (.iload 5, 2) := by decide +kernel
theorem dX10_bestOf_164 : decode cX10_bestOf 164 = .ok (.iload_n 2, 1) := by decide +kernel
theorem dX10_bestOf_165 : decode cX10_bestOf 165 = .ok (.if_icmp .ge 7, 3) := by decide +kernel
theorem dX10_bestOf_168 : decode cX10_bestOf 168 = .ok (.iconst 1, 1) := by decide +kernel
theorem dX10_bestOf_169 : decode cX10_bestOf 169 = .ok (.goto 4, 3) := by decide +kernel
theorem dX10_bestOf_172 : decode cX10_bestOf 172 = .ok (.iconst 0, 1) := by decide +kernel
theorem dX10_bestOf_173 : decode cX10_bestOf 173 = .ok (.istore 6, 2) := by decide +kernel
theorem dX10_bestOf_175 : decode cX10_bestOf 175 = .ok (.iconst 0, 1) := by decide +kernel
theorem dX10_bestOf_176 : decode cX10_bestOf 176 = .ok (.istore 7, 2) := by decide +kernel
theorem dX10_bestOf_178 : decode cX10_bestOf 178 = .ok (.iload 7, 2) := by decide +kernel
theorem dX10_bestOf_180 : decode cX10_bestOf 180 = .ok (.bipush 9, 2) := by decide +kernel
theorem dX10_bestOf_182 : decode cX10_bestOf 182 = .ok (.if_icmp .ge 31, 3) := by decide +kernel
theorem dX10_bestOf_185 : decode cX10_bestOf 185 = .ok (.iload 6, 2) := by decide +kernel
theorem dX10_bestOf_187 : decode cX10_bestOf 187 = .ok (.ifCond .eq 26, 3) := by decide +kernel
theorem dX10_bestOf_190 : decode cX10_bestOf 190 = .ok (.aload_n 0, 1) := by decide +kernel
theorem dX10_bestOf_191 : decode cX10_bestOf 191 = .ok (.getfield 40, 3) := by decide +kernel
theorem dX10_bestOf_194 : decode cX10_bestOf 194 = .ok (.iload 7, 2) := by decide +kernel
theorem dX10_bestOf_196 : decode cX10_bestOf 196 = .ok (.aload_n 0, 1) := by decide +kernel
theorem dX10_bestOf_197 : decode cX10_bestOf 197 = .ok (.getfield 7, 3) := by decide +kernel
theorem dX10_bestOf_200 : decode cX10_bestOf 200 = .ok (.bipush 50, 2) := by decide +kernel
theorem dX10_bestOf_202 : decode cX10_bestOf 202 = .ok (.iload 7, 2) := by decide +kernel
theorem dX10_bestOf_204 : decode cX10_bestOf 204 = .ok (.iadd, 1) := by decide +kernel
theorem dX10_bestOf_205 : decode cX10_bestOf 205 = .ok (.iaload, 1) := by decide +kernel
theorem dX10_bestOf_206 : decode cX10_bestOf 206 = .ok (.iastore, 1) := by decide +kernel
theorem dX10_bestOf_207 : decode cX10_bestOf 207 = .ok (.iinc 7 1, 3) := by decide +kernel
theorem dX10_bestOf_210 : decode cX10_bestOf 210 = .ok (.goto (-32), 3) := by decide +kernel
theorem dX10_bestOf_213 : decode cX10_bestOf 213 = .ok (.iload 6, 2) := by decide +kernel
theorem dX10_bestOf_215 : decode cX10_bestOf 215 = .ok (.ifCond .eq 8, 3) := by decide +kernel
theorem dX10_bestOf_218 : decode cX10_bestOf 218 = .ok (.iload 4, 2) := by decide +kernel
theorem dX10_bestOf_220 : decode cX10_bestOf 220 = .ok (.goto 4, 3) := by decide +kernel
theorem dX10_bestOf_223 : decode cX10_bestOf 223 = .ok (.iload_n 1, 1) := by decide +kernel
theorem dX10_bestOf_224 : decode cX10_bestOf 224 = .ok (.istore_n 1, 1) := by decide +kernel
theorem dX10_bestOf_225 : decode cX10_bestOf 225 = .ok (.iload 6, 2) := by decide +kernel
theorem dX10_bestOf_227 : decode cX10_bestOf 227 = .ok (.ifCond .eq 8, 3) := by decide +kernel
theorem dX10_bestOf_230 : decode cX10_bestOf 230 = .ok (.iload 5, 2) := by decide +kernel
theorem dX10_bestOf_232 : decode cX10_bestOf 232 = .ok (.goto 4, 3) := by decide +kernel
theorem dX10_bestOf_235 : decode cX10_bestOf 235 = .ok (.iload_n 2, 1) := by decide +kernel
theorem dX10_bestOf_236 : decode cX10_bestOf 236 = .ok (.istore_n 2, 1) := by decide +kernel
theorem dX10_bestOf_237 : decode cX10_bestOf 237 = .ok (.aload_n 0, 1) := by decide +kernel
theorem dX10_bestOf_238 : decode cX10_bestOf 238 = .ok (.invokevirtual 211, 3) := by decide +kernel
theorem dX10_bestOf_241 : decode cX10_bestOf 241 = .ok (.istore_n 3, 1) := by decide +kernel
theorem dX10_bestOf_242 : decode cX10_bestOf 242 = .ok (.goto (-168), 3) := by decide +kernel
theorem dX10_bestOf_245 : decode cX10_bestOf 245 = .ok (.iconst 0, 1) := by decide +kernel
theorem dX10_bestOf_246 : decode cX10_bestOf 246 = .ok (.istore 4, 2) := by decide +kernel
theorem dX10_bestOf_248 : decode cX10_bestOf 248 = .ok (.iload 4, 2) := by decide +kernel
theorem dX10_bestOf_250 : decode cX10_bestOf 250 = .ok (.bipush 9, 2) := by decide +kernel
theorem dX10_bestOf_252 : decode cX10_bestOf 252 = .ok (.if_icmp .ge 26, 3) := by decide +kernel
theorem dX10_bestOf_255 : decode cX10_bestOf 255 = .ok (.aload_n 0, 1) := by decide +kernel
theorem dX10_bestOf_256 : decode cX10_bestOf 256 = .ok (.getfield 7, 3) := by decide +kernel
theorem dX10_bestOf_259 : decode cX10_bestOf 259 = .ok (.bipush 50, 2) := by decide +kernel
theorem dX10_bestOf_261 : decode cX10_bestOf 261 = .ok (.iload 4, 2) := by decide +kernel
theorem dX10_bestOf_263 : decode cX10_bestOf 263 = .ok (.iadd, 1) := by decide +kernel
theorem dX10_bestOf_264 : decode cX10_bestOf 264 = .ok (.aload_n 0, 1) := by decide +kernel
theorem dX10_bestOf_265 : decode cX10_bestOf 265 = .ok (.getfield 43, 3) := by decide +kernel
theorem dX10_bestOf_268 : decode cX10_bestOf 268 = .ok (.iload 4, 2) := by decide +kernel
theorem dX10_bestOf_270 : decode cX10_bestOf 270 = .ok (.iaload, 1) := by decide +kernel
theorem dX10_bestOf_271 : decode cX10_bestOf 271 = .ok (.iastore, 1) := by decide +kernel
theorem dX10_bestOf_272 : decode cX10_bestOf 272 = .ok (.iinc 4 1, 3) := by decide +kernel
theorem dX10_bestOf_275 : decode cX10_bestOf 275 = .ok (.goto (-27), 3) := by decide +kernel
theorem dX10_bestOf_278 : decode cX10_bestOf 278 = .ok (.iload_n 1, 1) := by decide +kernel
theorem dX10_bestOf_279 : decode cX10_bestOf 279 = .ok (.ireturn, 1) := by decide +kernel
theorem dX10_bestCompactness_0 : decode cX10_bestCompactness 0 = .ok (.aload_n 0, 1) := by decide +kernel
theorem dX10_bestCompactness_1 : decode cX10_bestCompactness 1 = .ok (.aload_n 0, 1) := by decide +kernel
theorem dX10_bestCompactness_2 : decode cX10_bestCompactness 2 = .ok (.getfield 7, 3) := by decide +kernel
theorem dX10_bestCompactness_5 : decode cX10_bestCompactness 5 = .ok (.iconst 0, 1) := by decide +kernel
theorem dX10_bestCompactness_6 : decode cX10_bestCompactness 6 = .ok (.iaload, 1) := by decide +kernel
theorem dX10_bestCompactness_7 : decode cX10_bestCompactness 7 = .ok (.bipush 6, 2) := by decide +kernel
theorem dX10_bestCompactness_9 : decode cX10_bestCompactness 9 = .ok (.if_icmp .le 7, 3) := by decide +kernel
theorem dX10_bestCompactness_12 : decode cX10_bestCompactness 12 = .ok (.iconst 1, 1) := by decide +kernel
theorem dX10_bestCompactness_13 : decode cX10_bestCompactness 13 = .ok (.goto 4, 3) := by decide +kernel
theorem dX10_bestCompactness_16 : decode cX10_bestCompactness 16 = .ok (.iconst 0, 1) := by decide +kernel
theorem dX10_bestCompactness_17 : decode cX10_bestCompactness 17 = .ok (.invokevirtual 67, 3) := by decide +kernel
theorem dX10_bestCompactness_20 : decode cX10_bestCompactness 20 = .ok (.ifCond .eq 7, 3) := by decide +kernel
theorem dX10_bestCompactness_23 : decode cX10_bestCompactness 23 = .ok (.iconst 0, 1) := by decide +kernel
theorem dX10_bestCompactness_24 : decode cX10_bestCompactness 24 = .ok (.goto 7, 3) := by decide +kernel
theorem dX10_bestCompactness_27 : decode cX10_bestCompactness 27 = .ok (.aload_n 0, 1) := by decide +kernel
theorem dX10_bestCompactness_28 : decode cX10_bestCompactness 28 = .ok (.invokevirtual 129, 3) := by decide +kernel
theorem dX10_bestCompactness_31 : decode cX10_bestCompactness 31 = .ok (.ireturn, 1) := by decide +kernel
theorem dX10_labelings_0 : decode cX10_labelings 0 = .ok (.aload_n 0, 1) := by decide +kernel
theorem dX10_labelings_1 : decode cX10_labelings 1 = .ok (.iload_n 1, 1) := by decide +kernel
theorem dX10_labelings_2 : decode cX10_labelings 2 = .ok (.iconst 0, 1) := by decide +kernel
theorem dX10_labelings_3 : decode cX10_labelings 3 = .ok (.bipush 9, 2) := by decide +kernel
theorem dX10_labelings_5 : decode cX10_labelings 5 = .ok (.invokestatic 56, 3) := by decide +kernel
theorem dX10_labelings_8 : decode cX10_labelings 8 = .ok (.ifCond .ne 7, 3) := by decide +kernel
theorem dX10_labelings_11 : decode cX10_labelings 11 = .ok (.iconst 1, 1) := by decide +kernel
theorem dX10_labelings_12 : decode cX10_labelings 12 = .ok (.goto 19, 3) := by decide +kernel
theorem dX10_labelings_15 : decode cX10_labelings 15 = .ok (.aload_n 0, 1) := by decide +kernel
theorem dX10_labelings_16 : decode cX10_labelings 16 = .ok (.getfield 7, 3) := by decide +kernel
theorem dX10_labelings_19 : decode cX10_labelings 19 = .ok (.iconst 0, 1) := by decide +kernel
theorem dX10_labelings_20 : decode cX10_labelings 20 = .ok (.iaload, 1) := by decide +kernel
theorem dX10_labelings_21 : decode cX10_labelings 21 = .ok (.bipush 6, 2) := by decide +kernel
theorem dX10_labelings_23 : decode cX10_labelings 23 = .ok (.if_icmp .le 7, 3) := by decide +kernel
theorem dX10_labelings_26 : decode cX10_labelings 26 = .ok (.iconst 2, 1) := by decide +kernel
theorem dX10_labelings_27 : decode cX10_labelings 27 = .ok (.goto 4, 3) := by decide +kernel
theorem dX10_labelings_30 : decode cX10_labelings 30 = .ok (.iconst 0, 1) := by decide +kernel
theorem dX10_labelings_31 : decode cX10_labelings 31 = .ok (.invokevirtual 67, 3) := by decide +kernel
theorem dX10_labelings_34 : decode cX10_labelings 34 = .ok (.ifCond .eq 5, 3) := by decide +kernel
theorem dX10_labelings_37 : decode cX10_labelings 37 = .ok (.iconst 0, 1) := by decide +kernel
theorem dX10_labelings_38 : decode cX10_labelings 38 = .ok (.ireturn, 1) := by decide +kernel
theorem dX10_labelings_39 : decode cX10_labelings 39 = .ok (.aload_n 0, 1) := by decide +kernel
theorem dX10_labelings_40 : decode cX10_labelings 40 = .ok (.invokevirtual 129, 3) := by decide +kernel
theorem dX10_labelings_43 : decode cX10_labelings 43 = .ok (.istore_n 2, 1) := by decide +kernel
theorem dX10_labelings_44 : decode cX10_labelings 44 = .ok (.iconst 0, 1) := by decide +kernel
theorem dX10_labelings_45 : decode cX10_labelings 45 = .ok (.istore_n 3, 1) := by decide +kernel
theorem dX10_labelings_46 : decode cX10_labelings 46 = .ok (.iconst 0, 1) := by decide +kernel
theorem dX10_labelings_47 : decode cX10_labelings 47 = .ok (.istore 4, 2) := by decide +kernel
theorem dX10_labelings_49 : decode cX10_labelings 49 = .ok (.iload 4, 2) := by decide +kernel
theorem dX10_labelings_51 : decode cX10_labelings 51 = .ok (.iload_n 1, 1) := by decide +kernel
theorem dX10_labelings_52 : decode cX10_labelings 52 = .ok (.if_icmp .gt 19, 3) := by decide +kernel
theorem dX10_labelings_55 : decode cX10_labelings 55 = .ok (.iload_n 3, 1) := by decide +kernel
theorem dX10_labelings_56 : decode cX10_labelings 56 = .ok (.aload_n 0, 1) := by decide +kernel
theorem dX10_labelings_57 : decode cX10_labelings 57 = .ok (.getfield 46, 3) := by decide +kernel
theorem dX10_labelings_60 : decode cX10_labelings 60 = .ok (.iload 4, 2) := by decide +kernel
theorem dX10_labelings_62 : decode cX10_labelings 62 = .ok (.iaload, 1) := by decide +kernel
theorem dX10_labelings_63 : decode cX10_labelings 63 = .ok (.iadd, 1) := by decide +kernel
theorem dX10_labelings_64 : decode cX10_labelings 64 = .ok (.istore_n 3, 1) := by decide +kernel
theorem dX10_labelings_65 : decode cX10_labelings 65 = .ok (.iinc 4 1, 3) := by decide +kernel
theorem dX10_labelings_68 : decode cX10_labelings 68 = .ok (.goto (-19), 3) := by decide +kernel
theorem dX10_labelings_71 : decode cX10_labelings 71 = .ok (.iload_n 3, 1) := by decide +kernel
theorem dX10_labelings_72 : decode cX10_labelings 72 = .ok (.ireturn, 1) := by decide +kernel
theorem dX10_append_0 : decode cX10_append 0 = .ok (.aload_n 0, 1) := by decide +kernel
theorem dX10_append_1 : decode cX10_append 1 = .ok (.iload_n 1, 1) := by decide +kernel
theorem dX10_append_2 : decode cX10_append 2 = .ok (.iconst 0, 1) := by decide +kernel
theorem dX10_append_3 : decode cX10_append 3 = .ok (.bipush 127, 2) := by decide +kernel
theorem dX10_append_5 : decode cX10_append 5 = .ok (.invokestatic 56, 3) := by decide +kernel
theorem dX10_append_8 : decode cX10_append 8 = .ok (.ifCond .ne 7, 3) := by decide +kernel
theorem dX10_append_11 : decode cX10_append 11 = .ok (.iconst 1, 1) := by decide +kernel
theorem dX10_append_12 : decode cX10_append 12 = .ok (.goto 17, 3) := by decide +kernel
theorem dX10_append_15 : decode cX10_append 15 = .ok (.aload_n 0, 1) := by decide +kernel
theorem dX10_append_16 : decode cX10_append 16 = .ok (.getfield 214, 3) := by decide +kernel
theorem dX10_append_19 : decode cX10_append 19 = .ok (.bipush 100, 2) := by decide +kernel
theorem dX10_append_21 : decode cX10_append 21 = .ok (.if_icmp .ne 7, 3) := by decide +kernel
theorem dX10_append_24 : decode cX10_append 24 = .ok (.iconst 2, 1) := by decide +kernel
theorem dX10_append_25 : decode cX10_append 25 = .ok (.goto 4, 3) := by decide +kernel
theorem dX10_append_28 : decode cX10_append 28 = .ok (.iconst 0, 1) := by decide +kernel
theorem dX10_append_29 : decode cX10_append 29 = .ok (.invokevirtual 67, 3) := by decide +kernel
theorem dX10_append_32 : decode cX10_append 32 = .ok (.ifCond .eq 5, 3) := by decide +kernel
theorem dX10_append_35 : decode cX10_append 35 = .ok (.iconst 0, 1) := by decide +kernel
theorem dX10_append_36 : decode cX10_append 36 = .ok (.ireturn, 1) := by decide +kernel
theorem dX10_append_37 : decode cX10_append 37 = .ok (.aload_n 0, 1) := by decide +kernel
theorem dX10_append_38 : decode cX10_append 38 = .ok (.getfield 16, 3) := by decide +kernel
theorem dX10_append_41 : decode cX10_append 41 = .ok (.aload_n 0, 1) := by decide +kernel
theorem dX10_append_42 : decode cX10_append 42 = .ok (.getfield 214, 3) := by decide +kernel
theorem dX10_append_45 : decode cX10_append 45 = .ok (.iload_n 1, 1) := by decide +kernel
theorem dX10_append_46 : decode cX10_append 46 = .ok (.iastore, 1) := by decide +kernel
theorem dX10_append_47 : decode cX10_append 47 = .ok (.aload_n 0, 1) := by decide +kernel
theorem dX10_append_48 : decode cX10_append 48 = .ok (.dup, 1) := by decide +kernel
theorem dX10_append_49 : decode cX10_append 49 = .ok (.getfield 214, 3) := by decide +kernel
theorem dX10_append_52 : decode cX10_append 52 = .ok (.iconst 1, 1) := by decide +kernel
theorem dX10_append_53 : decode cX10_append 53 = .ok (.iadd, 1) := by decide +kernel
theorem dX10_append_54 : decode cX10_append 54 = .ok (.putfield 214, 3) := by decide +kernel
theorem dX10_append_57 : decode cX10_append 57 = .ok (.aload_n 0, 1) := by decide +kernel
theorem dX10_append_58 : decode cX10_append 58 = .ok (.getfield 214, 3) := by decide +kernel
theorem dX10_append_61 : decode cX10_append 61 = .ok (.ireturn, 1) := by decide +kernel
theorem dX10_clearText_0 : decode cX10_clearText 0 = .ok (.aload_n 0, 1) := by decide +kernel
theorem dX10_clearText_1 : decode cX10_clearText 1 = .ok (.iconst 0, 1) := by decide +kernel
theorem dX10_clearText_2 : decode cX10_clearText 2 = .ok (.putfield 52, 3) := by decide +kernel
theorem dX10_clearText_5 : decode cX10_clearText 5 = .ok (.aload_n 0, 1) := by decide +kernel
theorem dX10_clearText_6 : decode cX10_clearText 6 = .ok (.getfield 214, 3) := by decide +kernel
theorem dX10_clearText_9 : decode cX10_clearText 9 = .ok (.istore_n 1, 1) := by decide +kernel
theorem dX10_clearText_10 : decode cX10_clearText 10 = .ok (.aload_n 0, 1) := by decide +kernel
theorem dX10_clearText_11 : decode cX10_clearText 11 = .ok (.iconst 0, 1) := by decide +kernel
theorem dX10_clearText_12 : decode cX10_clearText 12 = .ok (.putfield 214, 3) := by decide +kernel
theorem dX10_clearText_15 : decode cX10_clearText 15 = .ok (.iload_n 1, 1) := by decide +kernel
theorem dX10_clearText_16 : decode cX10_clearText 16 = .ok (.ireturn, 1) := by decide +kernel
theorem dX10_isAt_0 : decode cX10_isAt 0 = .ok (.aload_n 0, 1) := by decide +kernel
theorem dX10_isAt_1 : decode cX10_isAt 1 = .ok (.getfield 217, 3) := by decide +kernel
theorem dX10_isAt_4 : decode cX10_isAt 4 = .ok (.aload_n 0, 1) := by decide +kernel
theorem dX10_isAt_5 : decode cX10_isAt 5 = .ok (.getfield 214, 3) := by decide +kernel
theorem dX10_isAt_8 : decode cX10_isAt 8 = .ok (.if_icmp .ge 24, 3) := by decide +kernel
theorem dX10_isAt_11 : decode cX10_isAt 11 = .ok (.aload_n 0, 1) := by decide +kernel
theorem dX10_isAt_12 : decode cX10_isAt 12 = .ok (.getfield 16, 3) := by decide +kernel
theorem dX10_isAt_15 : decode cX10_isAt 15 = .ok (.aload_n 0, 1) := by decide +kernel
theorem dX10_isAt_16 : decode cX10_isAt 16 = .ok (.getfield 217, 3) := by decide +kernel
theorem dX10_isAt_19 : decode cX10_isAt 19 = .ok (.iaload, 1) := by decide +kernel
theorem dX10_isAt_20 : decode cX10_isAt 20 = .ok (.iload_n 1, 1) := by decide +kernel
theorem dX10_isAt_21 : decode cX10_isAt 21 = .ok (.iload_n 2, 1) := by decide +kernel
theorem dX10_isAt_22 : decode cX10_isAt 22 = .ok (.invokestatic 56, 3) := by decide +kernel
theorem dX10_isAt_25 : decode cX10_isAt 25 = .ok (.ifCond .eq 7, 3) := by decide +kernel
theorem dX10_isAt_28 : decode cX10_isAt 28 = .ok (.iconst 1, 1) := by decide +kernel
theorem dX10_isAt_29 : decode cX10_isAt 29 = .ok (.goto 4, 3) := by decide +kernel
theorem dX10_isAt_32 : decode cX10_isAt 32 = .ok (.iconst 0, 1) := by decide +kernel
theorem dX10_isAt_33 : decode cX10_isAt 33 = .ok (.ireturn, 1) := by decide +kernel
theorem dX10_takes_0 : decode cX10_takes 0 = .ok (.aload_n 0, 1) := by decide +kernel
theorem dX10_takes_1 : decode cX10_takes 1 = .ok (.bipush 48, 2) := by decide +kernel
theorem dX10_takes_3 : decode cX10_takes 3 = .ok (.iload_n 1, 1) := by decide +kernel
theorem dX10_takes_4 : decode cX10_takes 4 = .ok (.iadd, 1) := by decide +kernel
theorem dX10_takes_5 : decode cX10_takes 5 = .ok (.bipush 48, 2) := by decide +kernel
theorem dX10_takes_7 : decode cX10_takes 7 = .ok (.iload_n 2, 1) := by decide +kernel
theorem dX10_takes_8 : decode cX10_takes 8 = .ok (.iadd, 1) := by decide +kernel
theorem dX10_takes_9 : decode cX10_takes 9 = .ok (.invokevirtual 220, 3) := by decide +kernel
theorem dX10_takes_12 : decode cX10_takes 12 = .ok (.ifCond .ne 5, 3) := by decide +kernel
theorem dX10_takes_15 : decode cX10_takes 15 = .ok (.iconst (-1), 1) := by decide +kernel
theorem dX10_takes_16 : decode cX10_takes 16 = .ok (.ireturn, 1) := by decide +kernel
theorem dX10_takes_17 : decode cX10_takes 17 = .ok (.aload_n 0, 1) := by decide +kernel
theorem dX10_takes_18 : decode cX10_takes 18 = .ok (.dup, 1) := by decide +kernel
theorem dX10_takes_19 : decode cX10_takes 19 = .ok (.getfield 217, 3) := by decide +kernel
theorem dX10_takes_22 : decode cX10_takes 22 = .ok (.iconst 1, 1) := by decide +kernel
theorem dX10_takes_23 : decode cX10_takes 23 = .ok (.iadd, 1) := by decide +kernel
theorem dX10_takes_24 : decode cX10_takes 24 = .ok (.putfield 217, 3) := by decide +kernel
theorem dX10_takes_27 : decode cX10_takes 27 = .ok (.aload_n 0, 1) := by decide +kernel
theorem dX10_takes_28 : decode cX10_takes 28 = .ok (.getfield 16, 3) := by decide +kernel
theorem dX10_takes_31 : decode cX10_takes 31 = .ok (.aload_n 0, 1) := by decide +kernel
theorem dX10_takes_32 : decode cX10_takes 32 = .ok (.getfield 217, 3) := by decide +kernel
theorem dX10_takes_35 : decode cX10_takes 35 = .ok (.iconst 1, 1) := by decide +kernel
theorem dX10_takes_36 : decode cX10_takes 36 = .ok (.isub, 1) := by decide +kernel
theorem dX10_takes_37 : decode cX10_takes 37 = .ok (.iaload, 1) := by decide +kernel
theorem dX10_takes_38 : decode cX10_takes 38 = .ok (.bipush 48, 2) := by decide +kernel
theorem dX10_takes_40 : decode cX10_takes 40 = .ok (.isub, 1) := by decide +kernel
theorem dX10_takes_41 : decode cX10_takes 41 = .ok (.ireturn, 1) := by decide +kernel
theorem dX10_reads_0 : decode cX10_reads 0 = .ok (.aload_n 0, 1) := by decide +kernel
theorem dX10_reads_1 : decode cX10_reads 1 = .ok (.bipush 59, 2) := by decide +kernel
theorem dX10_reads_3 : decode cX10_reads 3 = .ok (.bipush 59, 2) := by decide +kernel
theorem dX10_reads_5 : decode cX10_reads 5 = .ok (.invokevirtual 220, 3) := by decide +kernel
theorem dX10_reads_8 : decode cX10_reads 8 = .ok (.ifCond .ne 5, 3) := by decide +kernel
theorem dX10_reads_11 : decode cX10_reads 11 = .ok (.iconst 0, 1) := by decide +kernel
theorem dX10_reads_12 : decode cX10_reads 12 = .ok (.ireturn, 1) := by decide +kernel
theorem dX10_reads_13 : decode cX10_reads 13 = .ok (.aload_n 0, 1) := by decide +kernel
theorem dX10_reads_14 : decode cX10_reads 14 = .ok (.dup, 1) := by decide +kernel
theorem dX10_reads_15 : decode cX10_reads 15 = .ok (.getfield 217, 3) := by decide +kernel
theorem dX10_reads_18 : decode cX10_reads 18 = .ok (.iconst 1, 1) := by decide +kernel
theorem dX10_reads_19 : decode cX10_reads 19 = .ok (.iadd, 1) := by decide +kernel
theorem dX10_reads_20 : decode cX10_reads 20 = .ok (.putfield 217, 3) := by decide +kernel
theorem dX10_reads_23 : decode cX10_reads 23 = .ok (.aload_n 0, 1) := by decide +kernel
theorem dX10_reads_24 : decode cX10_reads 24 = .ok (.getfield 7, 3) := by decide +kernel
theorem dX10_reads_27 : decode cX10_reads 27 = .ok (.iconst 1, 1) := by decide +kernel
theorem dX10_reads_28 : decode cX10_reads 28 = .ok (.iaload, 1) := by decide +kernel
theorem dX10_reads_29 : decode cX10_reads 29 = .ok (.bipush 16, 2) := by decide +kernel
theorem dX10_reads_31 : decode cX10_reads 31 = .ok (.if_icmp .ne 7, 3) := by decide +kernel
theorem dX10_reads_34 : decode cX10_reads 34 = .ok (.iconst (-1), 1) := by decide +kernel
theorem dX10_reads_35 : decode cX10_reads 35 = .ok (.goto 16, 3) := by decide +kernel
theorem dX10_reads_38 : decode cX10_reads 38 = .ok (.aload_n 0, 1) := by decide +kernel
theorem dX10_reads_39 : decode cX10_reads 39 = .ok (.iconst 0, 1) := by decide +kernel
theorem dX10_reads_40 : decode cX10_reads 40 = .ok (.aload_n 0, 1) := by decide +kernel
theorem dX10_reads_41 : decode cX10_reads 41 = .ok (.getfield 7, 3) := by decide +kernel
theorem dX10_reads_44 : decode cX10_reads 44 = .ok (.iconst 0, 1) := by decide +kernel
theorem dX10_reads_45 : decode cX10_reads 45 = .ok (.iaload, 1) := by decide +kernel
theorem dX10_reads_46 : decode cX10_reads 46 = .ok (.iconst 1, 1) := by decide +kernel
theorem dX10_reads_47 : decode cX10_reads 47 = .ok (.isub, 1) := by decide +kernel
theorem dX10_reads_48 : decode cX10_reads 48 = .ok (.invokevirtual 223, 3) := by decide +kernel
theorem dX10_reads_51 : decode cX10_reads 51 = .ok (.istore_n 1, 1) := by decide +kernel
theorem dX10_reads_52 : decode cX10_reads 52 = .ok (.iload_n 1, 1) := by decide +kernel
theorem dX10_reads_53 : decode cX10_reads 53 = .ok (.iconst (-1), 1) := by decide +kernel
theorem dX10_reads_54 : decode cX10_reads 54 = .ok (.if_icmp .ne 5, 3) := by decide +kernel
theorem dX10_reads_57 : decode cX10_reads 57 = .ok (.iconst 0, 1) := by decide +kernel
theorem dX10_reads_58 : decode cX10_reads 58 = .ok (.ireturn, 1) := by decide +kernel
theorem dX10_reads_59 : decode cX10_reads 59 = .ok (.aload_n 0, 1) := by decide +kernel
theorem dX10_reads_60 : decode cX10_reads 60 = .ok (.iconst 0, 1) := by decide +kernel
theorem dX10_reads_61 : decode cX10_reads 61 = .ok (.aload_n 0, 1) := by decide +kernel
theorem dX10_reads_62 : decode cX10_reads 62 = .ok (.getfield 7, 3) := by decide +kernel
theorem dX10_reads_65 : decode cX10_reads 65 = .ok (.iconst 0, 1) := by decide +kernel
theorem dX10_reads_66 : decode cX10_reads 66 = .ok (.iaload, 1) := by decide +kernel
theorem dX10_reads_67 : decode cX10_reads 67 = .ok (.iconst 1, 1) := by decide +kernel
theorem dX10_reads_68 : decode cX10_reads 68 = .ok (.isub, 1) := by decide +kernel
theorem dX10_reads_69 : decode cX10_reads 69 = .ok (.invokevirtual 223, 3) := by decide +kernel
theorem dX10_reads_72 : decode cX10_reads 72 = .ok (.istore_n 2, 1) := by decide +kernel
theorem dX10_reads_73 : decode cX10_reads 73 = .ok (.iload_n 2, 1) := by decide +kernel
theorem dX10_reads_74 : decode cX10_reads 74 = .ok (.iconst (-1), 1) := by decide +kernel
theorem dX10_reads_75 : decode cX10_reads 75 = .ok (.if_icmp .ne 5, 3) := by decide +kernel
theorem dX10_reads_78 : decode cX10_reads 78 = .ok (.iconst 0, 1) := by decide +kernel
theorem dX10_reads_79 : decode cX10_reads 79 = .ok (.ireturn, 1) := by decide +kernel
theorem dX10_reads_80 : decode cX10_reads 80 = .ok (.iload_n 2, 1) := by decide +kernel
theorem dX10_reads_81 : decode cX10_reads 81 = .ok (.iload_n 1, 1) := by decide +kernel
theorem dX10_reads_82 : decode cX10_reads 82 = .ok (.if_icmp .eq 12, 3) := by decide +kernel
theorem dX10_reads_85 : decode cX10_reads 85 = .ok (.aload_n 0, 1) := by decide +kernel
theorem dX10_reads_86 : decode cX10_reads 86 = .ok (.iload_n 1, 1) := by decide +kernel
theorem dX10_reads_87 : decode cX10_reads 87 = .ok (.iload_n 2, 1) := by decide +kernel
theorem dX10_reads_88 : decode cX10_reads 88 = .ok (.invokevirtual 88, 3) := by decide +kernel
theorem dX10_reads_91 : decode cX10_reads 91 = .ok (.ifCond .eq 15, 3) := by decide +kernel
theorem dX10_reads_94 : decode cX10_reads 94 = .ok (.aload_n 0, 1) := by decide +kernel
theorem dX10_reads_95 : decode cX10_reads 95 = .ok (.dup, 1) := by decide +kernel
theorem dX10_reads_96 : decode cX10_reads 96 = .ok (.getfield 217, 3) := by decide +kernel
theorem dX10_reads_99 : decode cX10_reads 99 = .ok (.iconst 1, 1) := by decide +kernel
theorem dX10_reads_100 : decode cX10_reads 100 = .ok (.isub, 1) := by decide +kernel
theorem dX10_reads_101 : decode cX10_reads 101 = .ok (.putfield 217, 3) := by decide +kernel
theorem dX10_reads_104 : decode cX10_reads 104 = .ok (.iconst 0, 1) := by decide +kernel
theorem dX10_reads_105 : decode cX10_reads 105 = .ok (.ireturn, 1) := by decide +kernel
theorem dX10_reads_106 : decode cX10_reads 106 = .ok (.aload_n 0, 1) := by decide +kernel
theorem dX10_reads_107 : decode cX10_reads 107 = .ok (.iconst 1, 1) := by decide +kernel
theorem dX10_reads_108 : decode cX10_reads 108 = .ok (.bipush 9, 2) := by decide +kernel
theorem dX10_reads_110 : decode cX10_reads 110 = .ok (.invokevirtual 223, 3) := by decide +kernel
theorem dX10_reads_113 : decode cX10_reads 113 = .ok (.istore_n 3, 1) := by decide +kernel
theorem dX10_reads_114 : decode cX10_reads 114 = .ok (.iload_n 3, 1) := by decide +kernel
theorem dX10_reads_115 : decode cX10_reads 115 = .ok (.iconst (-1), 1) := by decide +kernel
theorem dX10_reads_116 : decode cX10_reads 116 = .ok (.if_icmp .eq 10, 3) := by decide +kernel
theorem dX10_reads_119 : decode cX10_reads 119 = .ok (.aload_n 0, 1) := by decide +kernel
theorem dX10_reads_120 : decode cX10_reads 120 = .ok (.iload_n 1, 1) := by decide +kernel
theorem dX10_reads_121 : decode cX10_reads 121 = .ok (.iload_n 2, 1) := by decide +kernel
theorem dX10_reads_122 : decode cX10_reads 122 = .ok (.iload_n 3, 1) := by decide +kernel
theorem dX10_reads_123 : decode cX10_reads 123 = .ok (.invokevirtual 91, 3) := by decide +kernel
theorem dX10_reads_126 : decode cX10_reads 126 = .ok (.iload_n 3, 1) := by decide +kernel
theorem dX10_reads_127 : decode cX10_reads 127 = .ok (.iconst (-1), 1) := by decide +kernel
theorem dX10_reads_128 : decode cX10_reads 128 = .ok (.if_icmp .eq 7, 3) := by decide +kernel
theorem dX10_reads_131 : decode cX10_reads 131 = .ok (.iconst 1, 1) := by decide +kernel
theorem dX10_reads_132 : decode cX10_reads 132 = .ok (.goto 4, 3) := by decide +kernel
theorem dX10_reads_135 : decode cX10_reads 135 = .ok (.iconst 0, 1) := by decide +kernel
theorem dX10_reads_136 : decode cX10_reads 136 = .ok (.ireturn, 1) := by decide +kernel
theorem dX10_parse_0 : decode cX10_parse 0 = .ok (.aload_n 0, 1) := by decide +kernel
theorem dX10_parse_1 : decode cX10_parse 1 = .ok (.iconst 0, 1) := by decide +kernel
theorem dX10_parse_2 : decode cX10_parse 2 = .ok (.putfield 52, 3) := by decide +kernel
theorem dX10_parse_5 : decode cX10_parse 5 = .ok (.iconst 0, 1) := by decide +kernel
theorem dX10_parse_6 : decode cX10_parse 6 = .ok (.istore_n 1, 1) := by decide +kernel
theorem dX10_parse_7 : decode cX10_parse 7 = .ok (.iload_n 1, 1) := by decide +kernel
theorem dX10_parse_8 : decode cX10_parse 8 = .ok (.sipush 140, 3) := by decide +kernel
theorem dX10_parse_11 : decode cX10_parse 11 = .ok (.if_icmp .ge 21, 3) := by decide +kernel
theorem dX10_parse_14 : decode cX10_parse 14 = .ok (.aload_n 0, 1) := by decide +kernel
theorem dX10_parse_15 : decode cX10_parse 15 = .ok (.getfield 49, 3) := by decide +kernel
theorem dX10_parse_18 : decode cX10_parse 18 = .ok (.iload_n 1, 1) := by decide +kernel
theorem dX10_parse_19 : decode cX10_parse 19 = .ok (.aload_n 0, 1) := by decide +kernel
theorem dX10_parse_20 : decode cX10_parse 20 = .ok (.getfield 7, 3) := by decide +kernel
theorem dX10_parse_23 : decode cX10_parse 23 = .ok (.iload_n 1, 1) := by decide +kernel
theorem dX10_parse_24 : decode cX10_parse 24 = .ok (.iaload, 1) := by decide +kernel
theorem dX10_parse_25 : decode cX10_parse 25 = .ok (.iastore, 1) := by decide +kernel
theorem dX10_parse_26 : decode cX10_parse 26 = .ok (.iinc 1 1, 3) := by decide +kernel
theorem dX10_parse_29 : decode cX10_parse 29 = .ok (.goto (-22), 3) := by decide +kernel
theorem dX10_parse_32 : decode cX10_parse 32 = .ok (.aload_n 0, 1) := by decide +kernel
theorem dX10_parse_33 : decode cX10_parse 33 = .ok (.iconst 0, 1) := by decide +kernel
theorem dX10_parse_34 : decode cX10_parse 34 = .ok (.putfield 217, 3) := by decide +kernel
theorem dX10_parse_37 : decode cX10_parse 37 = .ok (.aload_n 0, 1) := by decide +kernel
theorem dX10_parse_38 : decode cX10_parse 38 = .ok (.iconst 0, 1) := by decide +kernel
theorem dX10_parse_39 : decode cX10_parse 39 = .ok (.bipush 9, 2) := by decide +kernel
theorem dX10_parse_41 : decode cX10_parse 41 = .ok (.invokevirtual 223, 3) := by decide +kernel
theorem dX10_parse_44 : decode cX10_parse 44 = .ok (.istore_n 1, 1) := by decide +kernel
theorem dX10_parse_45 : decode cX10_parse 45 = .ok (.iload_n 1, 1) := by decide +kernel
theorem dX10_parse_46 : decode cX10_parse 46 = .ok (.iconst (-1), 1) := by decide +kernel
theorem dX10_parse_47 : decode cX10_parse 47 = .ok (.if_icmp .eq 7, 3) := by decide +kernel
theorem dX10_parse_50 : decode cX10_parse 50 = .ok (.iconst 1, 1) := by decide +kernel
theorem dX10_parse_51 : decode cX10_parse 51 = .ok (.goto 4, 3) := by decide +kernel
theorem dX10_parse_54 : decode cX10_parse 54 = .ok (.iconst 0, 1) := by decide +kernel
theorem dX10_parse_55 : decode cX10_parse 55 = .ok (.istore_n 2, 1) := by decide +kernel
theorem dX10_parse_56 : decode cX10_parse 56 = .ok (.iload_n 2, 1) := by decide +kernel
theorem dX10_parse_57 : decode cX10_parse 57 = .ok (.ifCond .eq 8, 3) := by decide +kernel
theorem dX10_parse_60 : decode cX10_parse 60 = .ok (.aload_n 0, 1) := by decide +kernel
theorem dX10_parse_61 : decode cX10_parse 61 = .ok (.iload_n 1, 1) := by decide +kernel
theorem dX10_parse_62 : decode cX10_parse 62 = .ok (.invokevirtual 77, 3) := by decide +kernel
theorem dX10_parse_65 : decode cX10_parse 65 = .ok (.iload_n 2, 1) := by decide +kernel
theorem dX10_parse_66 : decode cX10_parse 66 = .ok (.ifCond .eq 22, 3) := by decide +kernel
theorem dX10_parse_69 : decode cX10_parse 69 = .ok (.aload_n 0, 1) := by decide +kernel
theorem dX10_parse_70 : decode cX10_parse 70 = .ok (.getfield 217, 3) := by decide +kernel
theorem dX10_parse_73 : decode cX10_parse 73 = .ok (.aload_n 0, 1) := by decide +kernel
theorem dX10_parse_74 : decode cX10_parse 74 = .ok (.getfield 214, 3) := by decide +kernel
theorem dX10_parse_77 : decode cX10_parse 77 = .ok (.if_icmp .ge 11, 3) := by decide +kernel
theorem dX10_parse_80 : decode cX10_parse 80 = .ok (.aload_n 0, 1) := by decide +kernel
theorem dX10_parse_81 : decode cX10_parse 81 = .ok (.invokevirtual 226, 3) := by decide +kernel
theorem dX10_parse_84 : decode cX10_parse 84 = .ok (.istore_n 2, 1) := by decide +kernel
theorem dX10_parse_85 : decode cX10_parse 85 = .ok (.goto (-20), 3) := by decide +kernel
theorem dX10_parse_88 : decode cX10_parse 88 = .ok (.iconst 0, 1) := by decide +kernel
theorem dX10_parse_89 : decode cX10_parse 89 = .ok (.istore_n 3, 1) := by decide +kernel
theorem dX10_parse_90 : decode cX10_parse 90 = .ok (.iload_n 3, 1) := by decide +kernel
theorem dX10_parse_91 : decode cX10_parse 91 = .ok (.sipush 140, 3) := by decide +kernel
theorem dX10_parse_94 : decode cX10_parse 94 = .ok (.if_icmp .ge 37, 3) := by decide +kernel
theorem dX10_parse_97 : decode cX10_parse 97 = .ok (.aload_n 0, 1) := by decide +kernel
theorem dX10_parse_98 : decode cX10_parse 98 = .ok (.getfield 7, 3) := by decide +kernel
theorem dX10_parse_101 : decode cX10_parse 101 = .ok (.iload_n 3, 1) := by decide +kernel
theorem dX10_parse_102 : decode cX10_parse 102 = .ok (.iaload, 1) := by decide +kernel
theorem dX10_parse_103 : decode cX10_parse 103 = .ok (.istore 4, 2) := by decide +kernel
theorem dX10_parse_105 : decode cX10_parse 105 = .ok (.aload_n 0, 1) := by decide +kernel
theorem dX10_parse_106 : decode cX10_parse 106 = .ok (.getfield 7, 3) := by decide +kernel
theorem dX10_parse_109 : decode cX10_parse 109 = .ok (.iload_n 3, 1) := by decide +kernel
theorem dX10_parse_110 : decode cX10_parse 110 = .ok (.aload_n 0, 1) := by decide +kernel
theorem dX10_parse_111 : decode cX10_parse 111 = .ok (.getfield 49, 3) := by decide +kernel
theorem dX10_parse_114 : decode cX10_parse 114 = .ok (.iload_n 3, 1) := by decide +kernel
theorem dX10_parse_115 : decode cX10_parse 115 = .ok (.iaload, 1) := by decide +kernel
theorem dX10_parse_116 : decode cX10_parse 116 = .ok (.iastore, 1) := by decide +kernel
theorem dX10_parse_117 : decode cX10_parse 117 = .ok (.aload_n 0, 1) := by decide +kernel
theorem dX10_parse_118 : decode cX10_parse 118 = .ok (.getfield 49, 3) := by decide +kernel
theorem dX10_parse_121 : decode cX10_parse 121 = .ok (.iload_n 3, 1) := by decide +kernel
theorem dX10_parse_122 : decode cX10_parse 122 = .ok (.iload 4, 2) := by decide +kernel
theorem dX10_parse_124 : decode cX10_parse 124 = .ok (.iastore, 1) := by decide +kernel
theorem dX10_parse_125 : decode cX10_parse 125 = .ok (.iinc 3 1, 3) := by decide +kernel
theorem dX10_parse_128 : decode cX10_parse 128 = .ok (.goto (-38), 3) := by decide +kernel
theorem dX10_parse_131 : decode cX10_parse 131 = .ok (.iload_n 2, 1) := by decide +kernel
theorem dX10_parse_132 : decode cX10_parse 132 = .ok (.ifCond .ne 11, 3) := by decide +kernel
theorem dX10_parse_135 : decode cX10_parse 135 = .ok (.bipush (-10), 2) := by decide +kernel
theorem dX10_parse_137 : decode cX10_parse 137 = .ok (.aload_n 0, 1) := by decide +kernel
theorem dX10_parse_138 : decode cX10_parse 138 = .ok (.getfield 217, 3) := by decide +kernel
theorem dX10_parse_141 : decode cX10_parse 141 = .ok (.isub, 1) := by decide +kernel
theorem dX10_parse_142 : decode cX10_parse 142 = .ok (.ireturn, 1) := by decide +kernel
theorem dX10_parse_143 : decode cX10_parse 143 = .ok (.aload_n 0, 1) := by decide +kernel
theorem dX10_parse_144 : decode cX10_parse 144 = .ok (.invokevirtual 74, 3) := by decide +kernel
theorem dX10_parse_147 : decode cX10_parse 147 = .ok (.iconst 0, 1) := by decide +kernel
theorem dX10_parse_148 : decode cX10_parse 148 = .ok (.istore_n 3, 1) := by decide +kernel
theorem dX10_parse_149 : decode cX10_parse 149 = .ok (.iload_n 3, 1) := by decide +kernel
theorem dX10_parse_150 : decode cX10_parse 150 = .ok (.sipush 140, 3) := by decide +kernel
theorem dX10_parse_153 : decode cX10_parse 153 = .ok (.if_icmp .ge 21, 3) := by decide +kernel
theorem dX10_parse_156 : decode cX10_parse 156 = .ok (.aload_n 0, 1) := by decide +kernel
theorem dX10_parse_157 : decode cX10_parse 157 = .ok (.getfield 7, 3) := by decide +kernel
theorem dX10_parse_160 : decode cX10_parse 160 = .ok (.iload_n 3, 1) := by decide +kernel
theorem dX10_parse_161 : decode cX10_parse 161 = .ok (.aload_n 0, 1) := by decide +kernel
theorem dX10_parse_162 : decode cX10_parse 162 = .ok (.getfield 49, 3) := by decide +kernel
theorem dX10_parse_165 : decode cX10_parse 165 = .ok (.iload_n 3, 1) := by decide +kernel
theorem dX10_parse_166 : decode cX10_parse 166 = .ok (.iaload, 1) := by decide +kernel
theorem dX10_parse_167 : decode cX10_parse 167 = .ok (.iastore, 1) := by decide +kernel
theorem dX10_parse_168 : decode cX10_parse 168 = .ok (.iinc 3 1, 3) := by decide +kernel
theorem dX10_parse_171 : decode cX10_parse 171 = .ok (.goto (-22), 3) := by decide +kernel
theorem dX10_parse_174 : decode cX10_parse 174 = .ok (.aload_n 0, 1) := by decide +kernel
theorem dX10_parse_175 : decode cX10_parse 175 = .ok (.getfield 7, 3) := by decide +kernel
theorem dX10_parse_178 : decode cX10_parse 178 = .ok (.iconst 1, 1) := by decide +kernel
theorem dX10_parse_179 : decode cX10_parse 179 = .ok (.iaload, 1) := by decide +kernel
theorem dX10_parse_180 : decode cX10_parse 180 = .ok (.ireturn, 1) := by decide +kernel
theorem dX10_mix_0 : decode cX10_mix 0 = .ok (.aload_n 0, 1) := by decide +kernel
theorem dX10_mix_1 : decode cX10_mix 1 = .ok (.ldc2_w 229, 3) := by decide +kernel
theorem dX10_mix_4 : decode cX10_mix 4 = .ok (.aload_n 0, 1) := by decide +kernel
theorem dX10_mix_5 : decode cX10_mix 5 = .ok (.getfield 231, 3) := by decide +kernel
theorem dX10_mix_8 : decode cX10_mix 8 = .ok (.lmul, 1) := by decide +kernel
theorem dX10_mix_9 : decode cX10_mix 9 = .ok (.iload_n 1, 1) := by decide +kernel
theorem dX10_mix_10 : decode cX10_mix 10 = .ok (.i2l, 1) := by decide +kernel
theorem dX10_mix_11 : decode cX10_mix 11 = .ok (.ladd, 1) := by decide +kernel
theorem dX10_mix_12 : decode cX10_mix 12 = .ok (.putfield 231, 3) := by decide +kernel
theorem dX10_mix_15 : decode cX10_mix 15 = .ok (.return_, 1) := by decide +kernel
theorem dX10_digest_0 : decode cX10_digest 0 = .ok (.aload_n 0, 1) := by decide +kernel
theorem dX10_digest_1 : decode cX10_digest 1 = .ok (.iconst 0, 1) := by decide +kernel
theorem dX10_digest_2 : decode cX10_digest 2 = .ok (.putfield 52, 3) := by decide +kernel
theorem dX10_digest_5 : decode cX10_digest 5 = .ok (.aload_n 0, 1) := by decide +kernel
theorem dX10_digest_6 : decode cX10_digest 6 = .ok (.invokevirtual 101, 3) := by decide +kernel
theorem dX10_digest_9 : decode cX10_digest 9 = .ok (.aload_n 0, 1) := by decide +kernel
theorem dX10_digest_10 : decode cX10_digest 10 = .ok (.ldc2_w 235, 3) := by decide +kernel
theorem dX10_digest_13 : decode cX10_digest 13 = .ok (.putfield 231, 3) := by decide +kernel
theorem dX10_digest_16 : decode cX10_digest 16 = .ok (.aload_n 0, 1) := by decide +kernel
theorem dX10_digest_17 : decode cX10_digest 17 = .ok (.aload_n 0, 1) := by decide +kernel
theorem dX10_digest_18 : decode cX10_digest 18 = .ok (.getfield 214, 3) := by decide +kernel
theorem dX10_digest_21 : decode cX10_digest 21 = .ok (.invokevirtual 237, 3) := by decide +kernel
theorem dX10_digest_24 : decode cX10_digest 24 = .ok (.aload_n 0, 1) := by decide +kernel
theorem dX10_digest_25 : decode cX10_digest 25 = .ok (.aload_n 0, 1) := by decide +kernel
theorem dX10_digest_26 : decode cX10_digest 26 = .ok (.getfield 7, 3) := by decide +kernel
theorem dX10_digest_29 : decode cX10_digest 29 = .ok (.iconst 0, 1) := by decide +kernel
theorem dX10_digest_30 : decode cX10_digest 30 = .ok (.iaload, 1) := by decide +kernel
theorem dX10_digest_31 : decode cX10_digest 31 = .ok (.invokevirtual 237, 3) := by decide +kernel
theorem dX10_digest_34 : decode cX10_digest 34 = .ok (.aload_n 0, 1) := by decide +kernel
theorem dX10_digest_35 : decode cX10_digest 35 = .ok (.aload_n 0, 1) := by decide +kernel
theorem dX10_digest_36 : decode cX10_digest 36 = .ok (.getfield 7, 3) := by decide +kernel
theorem dX10_digest_39 : decode cX10_digest 39 = .ok (.iconst 1, 1) := by decide +kernel
theorem dX10_digest_40 : decode cX10_digest 40 = .ok (.iaload, 1) := by decide +kernel
theorem dX10_digest_41 : decode cX10_digest 41 = .ok (.invokevirtual 237, 3) := by decide +kernel
theorem dX10_digest_44 : decode cX10_digest 44 = .ok (.iconst 0, 1) := by decide +kernel
theorem dX10_digest_45 : decode cX10_digest 45 = .ok (.istore_n 1, 1) := by decide +kernel
theorem dX10_digest_46 : decode cX10_digest 46 = .ok (.iload_n 1, 1) := by decide +kernel
theorem dX10_digest_47 : decode cX10_digest 47 = .ok (.iconst 3, 1) := by decide +kernel
theorem dX10_digest_48 : decode cX10_digest 48 = .ok (.aload_n 0, 1) := by decide +kernel
theorem dX10_digest_49 : decode cX10_digest 49 = .ok (.getfield 7, 3) := by decide +kernel
theorem dX10_digest_52 : decode cX10_digest 52 = .ok (.iconst 1, 1) := by decide +kernel
theorem dX10_digest_53 : decode cX10_digest 53 = .ok (.iaload, 1) := by decide +kernel
theorem dX10_digest_54 : decode cX10_digest 54 = .ok (.imul, 1) := by decide +kernel
theorem dX10_digest_55 : decode cX10_digest 55 = .ok (.if_icmp .ge 21, 3) := by decide +kernel
theorem dX10_digest_58 : decode cX10_digest 58 = .ok (.aload_n 0, 1) := by decide +kernel
theorem dX10_digest_59 : decode cX10_digest 59 = .ok (.aload_n 0, 1) := by decide +kernel
theorem dX10_digest_60 : decode cX10_digest 60 = .ok (.getfield 7, 3) := by decide +kernel
theorem dX10_digest_63 : decode cX10_digest 63 = .ok (.iconst 2, 1) := by decide +kernel
theorem dX10_digest_64 : decode cX10_digest 64 = .ok (.iload_n 1, 1) := by decide +kernel
theorem dX10_digest_65 : decode cX10_digest 65 = .ok (.iadd, 1) := by decide +kernel
theorem dX10_digest_66 : decode cX10_digest 66 = .ok (.iaload, 1) := by decide +kernel
theorem dX10_digest_67 : decode cX10_digest 67 = .ok (.invokevirtual 237, 3) := by decide +kernel
theorem dX10_digest_70 : decode cX10_digest 70 = .ok (.iinc 1 1, 3) := by decide +kernel
theorem dX10_digest_73 : decode cX10_digest 73 = .ok (.goto (-27), 3) := by decide +kernel
theorem dX10_digest_76 : decode cX10_digest 76 = .ok (.iconst 0, 1) := by decide +kernel
theorem dX10_digest_77 : decode cX10_digest 77 = .ok (.istore_n 1, 1) := by decide +kernel
theorem dX10_digest_78 : decode cX10_digest 78 = .ok (.iload_n 1, 1) := by decide +kernel
theorem dX10_digest_79 : decode cX10_digest 79 = .ok (.aload_n 0, 1) := by decide +kernel
theorem dX10_digest_80 : decode cX10_digest 80 = .ok (.getfield 7, 3) := by decide +kernel
theorem dX10_digest_83 : decode cX10_digest 83 = .ok (.iconst 0, 1) := by decide +kernel
theorem dX10_digest_84 : decode cX10_digest 84 = .ok (.iaload, 1) := by decide +kernel
theorem dX10_digest_85 : decode cX10_digest 85 = .ok (.if_icmp .ge 22, 3) := by decide +kernel
theorem dX10_digest_88 : decode cX10_digest 88 = .ok (.aload_n 0, 1) := by decide +kernel
theorem dX10_digest_89 : decode cX10_digest 89 = .ok (.aload_n 0, 1) := by decide +kernel
theorem dX10_digest_90 : decode cX10_digest 90 = .ok (.getfield 7, 3) := by decide +kernel
theorem dX10_digest_93 : decode cX10_digest 93 = .ok (.bipush 50, 2) := by decide +kernel
theorem dX10_digest_95 : decode cX10_digest 95 = .ok (.iload_n 1, 1) := by decide +kernel
theorem dX10_digest_96 : decode cX10_digest 96 = .ok (.iadd, 1) := by decide +kernel
theorem dX10_digest_97 : decode cX10_digest 97 = .ok (.iaload, 1) := by decide +kernel
theorem dX10_digest_98 : decode cX10_digest 98 = .ok (.invokevirtual 237, 3) := by decide +kernel
theorem dX10_digest_101 : decode cX10_digest 101 = .ok (.iinc 1 1, 3) := by decide +kernel
theorem dX10_digest_104 : decode cX10_digest 104 = .ok (.goto (-26), 3) := by decide +kernel
theorem dX10_digest_107 : decode cX10_digest 107 = .ok (.iconst 0, 1) := by decide +kernel
theorem dX10_digest_108 : decode cX10_digest 108 = .ok (.istore_n 1, 1) := by decide +kernel
theorem dX10_digest_109 : decode cX10_digest 109 = .ok (.iload_n 1, 1) := by decide +kernel
theorem dX10_digest_110 : decode cX10_digest 110 = .ok (.aload_n 0, 1) := by decide +kernel
theorem dX10_digest_111 : decode cX10_digest 111 = .ok (.getfield 7, 3) := by decide +kernel
theorem dX10_digest_114 : decode cX10_digest 114 = .ok (.iconst 0, 1) := by decide +kernel
theorem dX10_digest_115 : decode cX10_digest 115 = .ok (.iaload, 1) := by decide +kernel
theorem dX10_digest_116 : decode cX10_digest 116 = .ok (.if_icmp .ge 37, 3) := by decide +kernel
theorem dX10_digest_119 : decode cX10_digest 119 = .ok (.iconst 0, 1) := by decide +kernel
theorem dX10_digest_120 : decode cX10_digest 120 = .ok (.istore_n 2, 1) := by decide +kernel
theorem dX10_digest_121 : decode cX10_digest 121 = .ok (.iload_n 2, 1) := by decide +kernel
theorem dX10_digest_122 : decode cX10_digest 122 = .ok (.aload_n 0, 1) := by decide +kernel
theorem dX10_digest_123 : decode cX10_digest 123 = .ok (.getfield 7, 3) := by decide +kernel
theorem dX10_digest_126 : decode cX10_digest 126 = .ok (.iconst 0, 1) := by decide +kernel
theorem dX10_digest_127 : decode cX10_digest 127 = .ok (.iaload, 1) := by decide +kernel
theorem dX10_digest_128 : decode cX10_digest 128 = .ok (.if_icmp .ge 19, 3) := by decide +kernel
theorem dX10_digest_131 : decode cX10_digest 131 = .ok (.aload_n 0, 1) := by decide +kernel
theorem dX10_digest_132 : decode cX10_digest 132 = .ok (.aload_n 0, 1) := by decide +kernel
theorem dX10_digest_133 : decode cX10_digest 133 = .ok (.iload_n 1, 1) := by decide +kernel
theorem dX10_digest_134 : decode cX10_digest 134 = .ok (.iload_n 2, 1) := by decide +kernel
theorem dX10_digest_135 : decode cX10_digest 135 = .ok (.invokevirtual 149, 3) := by decide +kernel
theorem dX10_digest_138 : decode cX10_digest 138 = .ok (.invokevirtual 237, 3) := by decide +kernel
theorem dX10_digest_141 : decode cX10_digest 141 = .ok (.iinc 2 1, 3) := by decide +kernel
theorem dX10_digest_144 : decode cX10_digest 144 = .ok (.goto (-23), 3) := by decide +kernel
theorem dX10_digest_147 : decode cX10_digest 147 = .ok (.iinc 1 1, 3) := by decide +kernel
theorem dX10_digest_150 : decode cX10_digest 150 = .ok (.goto (-41), 3) := by decide +kernel
theorem dX10_digest_153 : decode cX10_digest 153 = .ok (.aload_n 0, 1) := by decide +kernel
theorem dX10_digest_154 : decode cX10_digest 154 = .ok (.aload_n 0, 1) := by decide +kernel
theorem dX10_digest_155 : decode cX10_digest 155 = .ok (.invokevirtual 178, 3) := by decide +kernel
theorem dX10_digest_158 : decode cX10_digest 158 = .ok (.invokevirtual 237, 3) := by decide +kernel
theorem dX10_digest_161 : decode cX10_digest 161 = .ok (.aload_n 0, 1) := by decide +kernel
theorem dX10_digest_162 : decode cX10_digest 162 = .ok (.aload_n 0, 1) := by decide +kernel
theorem dX10_digest_163 : decode cX10_digest 163 = .ok (.invokevirtual 184, 3) := by decide +kernel
theorem dX10_digest_166 : decode cX10_digest 166 = .ok (.invokevirtual 237, 3) := by decide +kernel
theorem dX10_digest_169 : decode cX10_digest 169 = .ok (.iconst 0, 1) := by decide +kernel
theorem dX10_digest_170 : decode cX10_digest 170 = .ok (.istore_n 1, 1) := by decide +kernel
theorem dX10_digest_171 : decode cX10_digest 171 = .ok (.iload_n 1, 1) := by decide +kernel
theorem dX10_digest_172 : decode cX10_digest 172 = .ok (.iconst 5, 1) := by decide +kernel
theorem dX10_digest_173 : decode cX10_digest 173 = .ok (.if_icmp .ge 18, 3) := by decide +kernel
theorem dX10_digest_176 : decode cX10_digest 176 = .ok (.aload_n 0, 1) := by decide +kernel
theorem dX10_digest_177 : decode cX10_digest 177 = .ok (.aload_n 0, 1) := by decide +kernel
theorem dX10_digest_178 : decode cX10_digest 178 = .ok (.iload_n 1, 1) := by decide +kernel
theorem dX10_digest_179 : decode cX10_digest 179 = .ok (.invokevirtual 190, 3) := by decide +kernel
theorem dX10_digest_182 : decode cX10_digest 182 = .ok (.invokevirtual 237, 3) := by decide +kernel
theorem dX10_digest_185 : decode cX10_digest 185 = .ok (.iinc 1 1, 3) := by decide +kernel
theorem dX10_digest_188 : decode cX10_digest 188 = .ok (.goto (-17), 3) := by decide +kernel
theorem dX10_digest_191 : decode cX10_digest 191 = .ok (.aload_n 0, 1) := by decide +kernel
theorem dX10_digest_192 : decode cX10_digest 192 = .ok (.aload_n 0, 1) := by decide +kernel
theorem dX10_digest_193 : decode cX10_digest 193 = .ok (.invokevirtual 208, 3) := by decide +kernel
theorem dX10_digest_196 : decode cX10_digest 196 = .ok (.invokevirtual 237, 3) := by decide +kernel
theorem dX10_digest_199 : decode cX10_digest 199 = .ok (.aload_n 0, 1) := by decide +kernel
theorem dX10_digest_200 : decode cX10_digest 200 = .ok (.aload_n 0, 1) := by decide +kernel
theorem dX10_digest_201 : decode cX10_digest 201 = .ok (.getfield 64, 3) := by decide +kernel
theorem dX10_digest_204 : decode cX10_digest 204 = .ok (.invokevirtual 237, 3) := by decide +kernel
theorem dX10_digest_207 : decode cX10_digest 207 = .ok (.aload_n 0, 1) := by decide +kernel
theorem dX10_digest_208 : decode cX10_digest 208 = .ok (.getfield 231, 3) := by decide +kernel
theorem dX10_digest_211 : decode cX10_digest 211 = .ok (.lreturn, 1) := by decide +kernel
