theorem dX9_init_0 : decode cX9_init 0 = .ok (.aload_n 0, 1) := by decide +kernel
theorem dX9_init_1 : decode cX9_init 1 = .ok (.invokespecial 3, 3) := by decide +kernel
theorem dX9_init_4 : decode cX9_init 4 = .ok (.aload_n 0, 1) := by decide +kernel
theorem dX9_init_5 : decode cX9_init 5 = .ok (.new 9, 3) := by decide +kernel
theorem dX9_init_8 : decode cX9_init 8 = .ok (.dup, 1) := by decide +kernel
theorem dX9_init_9 : decode cX9_init 9 = .ok (.invokespecial 11, 3) := by decide +kernel
theorem dX9_init_12 : decode cX9_init 12 = .ok (.putfield 12, 3) := by decide +kernel
theorem dX9_init_15 : decode cX9_init 15 = .ok (.aload_n 0, 1) := by decide +kernel
theorem dX9_init_16 : decode cX9_init 16 = .ok (.new 9, 3) := by decide +kernel
theorem dX9_init_19 : decode cX9_init 19 = .ok (.dup, 1) := by decide +kernel
theorem dX9_init_20 : decode cX9_init 20 = .ok (.invokespecial 11, 3) := by decide +kernel
theorem dX9_init_23 : decode cX9_init 23 = .ok (.putfield 16, 3) := by decide +kernel
theorem dX9_init_26 : decode cX9_init 26 = .ok (.aload_n 0, 1) := by decide +kernel
theorem dX9_init_27 : decode cX9_init 27 = .ok (.new 19, 3) := by decide +kernel
theorem dX9_init_30 : decode cX9_init 30 = .ok (.dup, 1) := by decide +kernel
theorem dX9_init_31 : decode cX9_init 31 = .ok (.invokespecial 21, 3) := by decide +kernel
theorem dX9_init_34 : decode cX9_init 34 = .ok (.putfield 22, 3) := by decide +kernel
theorem dX9_init_37 : decode cX9_init 37 = .ok (.aload_n 0, 1) := by decide +kernel
theorem dX9_init_38 : decode cX9_init 38 = .ok (.new 26, 3) := by decide +kernel
theorem dX9_init_41 : decode cX9_init 41 = .ok (.dup, 1) := by decide +kernel
theorem dX9_init_42 : decode cX9_init 42 = .ok (.invokespecial 28, 3) := by decide +kernel
theorem dX9_init_45 : decode cX9_init 45 = .ok (.putfield 29, 3) := by decide +kernel
theorem dX9_init_48 : decode cX9_init 48 = .ok (.aload_n 0, 1) := by decide +kernel
theorem dX9_init_49 : decode cX9_init 49 = .ok (.new 33, 3) := by decide +kernel
theorem dX9_init_52 : decode cX9_init 52 = .ok (.dup, 1) := by decide +kernel
theorem dX9_init_53 : decode cX9_init 53 = .ok (.invokespecial 35, 3) := by decide +kernel
theorem dX9_init_56 : decode cX9_init 56 = .ok (.putfield 36, 3) := by decide +kernel
theorem dX9_init_59 : decode cX9_init 59 = .ok (.aload_n 0, 1) := by decide +kernel
theorem dX9_init_60 : decode cX9_init 60 = .ok (.new 40, 3) := by decide +kernel
theorem dX9_init_63 : decode cX9_init 63 = .ok (.dup, 1) := by decide +kernel
theorem dX9_init_64 : decode cX9_init 64 = .ok (.invokespecial 42, 3) := by decide +kernel
theorem dX9_init_67 : decode cX9_init 67 = .ok (.putfield 43, 3) := by decide +kernel
theorem dX9_init_70 : decode cX9_init 70 = .ok (.aload_n 0, 1) := by decide +kernel
theorem dX9_init_71 : decode cX9_init 71 = .ok (.new 47, 3) := by decide +kernel
theorem dX9_init_74 : decode cX9_init 74 = .ok (.dup, 1) := by decide +kernel
theorem dX9_init_75 : decode cX9_init 75 = .ok (.invokespecial 49, 3) := by decide +kernel
theorem dX9_init_78 : decode cX9_init 78 = .ok (.putfield 50, 3) := by decide +kernel
theorem dX9_init_81 : decode cX9_init 81 = .ok (.aload_n 0, 1) := by decide +kernel
theorem dX9_init_82 : decode cX9_init 82 = .ok (.new 54, 3) := by decide +kernel
theorem dX9_init_85 : decode cX9_init 85 = .ok (.dup, 1) := by decide +kernel
theorem dX9_init_86 : decode cX9_init 86 = .ok (.invokespecial 56, 3) := by decide +kernel
theorem dX9_init_89 : decode cX9_init 89 = .ok (.putfield 57, 3) := by decide +kernel
theorem dX9_init_92 : decode cX9_init 92 = .ok (.aload_n 0, 1) := by decide +kernel
theorem dX9_init_93 : decode cX9_init 93 = .ok (.new 61, 3) := by decide +kernel
theorem dX9_init_96 : decode cX9_init 96 = .ok (.dup, 1) := by decide +kernel
theorem dX9_init_97 : decode cX9_init 97 = .ok (.invokespecial 63, 3) := by decide +kernel
theorem dX9_init_100 : decode cX9_init 100 = .ok (.putfield 64, 3) := by decide +kernel
theorem dX9_init_103 : decode cX9_init 103 = .ok (.aload_n 0, 1) := by decide +kernel
theorem dX9_init_104 : decode cX9_init 104 = .ok (.new 68, 3) := by decide +kernel
theorem dX9_init_107 : decode cX9_init 107 = .ok (.dup, 1) := by decide +kernel
theorem dX9_init_108 : decode cX9_init 108 = .ok (.invokespecial 70, 3) := by decide +kernel
theorem dX9_init_111 : decode cX9_init 111 = .ok (.putfield 71, 3) := by decide +kernel
theorem dX9_init_114 : decode cX9_init 114 = .ok (.return_, 1) := by decide +kernel
theorem dX9_begin_0 : decode cX9_begin 0 = .ok (.aload_n 0, 1) := by decide +kernel
theorem dX9_begin_1 : decode cX9_begin 1 = .ok (.iload_n 1, 1) := by decide +kernel
theorem dX9_begin_2 : decode cX9_begin 2 = .ok (.iconst 0, 1) := by decide +kernel
theorem dX9_begin_3 : decode cX9_begin 3 = .ok (.bipush 9, 2) := by decide +kernel
theorem dX9_begin_5 : decode cX9_begin 5 = .ok (.invokevirtual 75, 3) := by decide +kernel
theorem dX9_begin_8 : decode cX9_begin 8 = .ok (.aload_n 0, 1) := by decide +kernel
theorem dX9_begin_9 : decode cX9_begin 9 = .ok (.getfield 12, 3) := by decide +kernel
theorem dX9_begin_12 : decode cX9_begin 12 = .ok (.getfield 79, 3) := by decide +kernel
theorem dX9_begin_15 : decode cX9_begin 15 = .ok (.istore_n 2, 1) := by decide +kernel
theorem dX9_begin_16 : decode cX9_begin 16 = .ok (.aload_n 0, 1) := by decide +kernel
theorem dX9_begin_17 : decode cX9_begin 17 = .ok (.getfield 22, 3) := by decide +kernel
theorem dX9_begin_20 : decode cX9_begin 20 = .ok (.aload_n 0, 1) := by decide +kernel
theorem dX9_begin_21 : decode cX9_begin 21 = .ok (.getfield 12, 3) := by decide +kernel
theorem dX9_begin_24 : decode cX9_begin 24 = .ok (.invokevirtual 83, 3) := by decide +kernel
theorem dX9_begin_27 : decode cX9_begin 27 = .ok (.aload_n 0, 1) := by decide +kernel
theorem dX9_begin_28 : decode cX9_begin 28 = .ok (.getfield 12, 3) := by decide +kernel
theorem dX9_begin_31 : decode cX9_begin 31 = .ok (.iload_n 1, 1) := by decide +kernel
theorem dX9_begin_32 : decode cX9_begin 32 = .ok (.invokevirtual 87, 3) := by decide +kernel
theorem dX9_begin_35 : decode cX9_begin 35 = .ok (.aload_n 0, 1) := by decide +kernel
theorem dX9_begin_36 : decode cX9_begin 36 = .ok (.invokevirtual 91, 3) := by decide +kernel
theorem dX9_begin_39 : decode cX9_begin 39 = .ok (.iload_n 2, 1) := by decide +kernel
theorem dX9_begin_40 : decode cX9_begin 40 = .ok (.ireturn, 1) := by decide +kernel
theorem dX9_addLink_0 : decode cX9_addLink 0 = .ok (.aload_n 0, 1) := by decide +kernel
theorem dX9_addLink_1 : decode cX9_addLink 1 = .ok (.iload_n 1, 1) := by decide +kernel
theorem dX9_addLink_2 : decode cX9_addLink 2 = .ok (.invokevirtual 94, 3) := by decide +kernel
theorem dX9_addLink_5 : decode cX9_addLink 5 = .ok (.aload_n 0, 1) := by decide +kernel
theorem dX9_addLink_6 : decode cX9_addLink 6 = .ok (.iload_n 2, 1) := by decide +kernel
theorem dX9_addLink_7 : decode cX9_addLink 7 = .ok (.invokevirtual 94, 3) := by decide +kernel
theorem dX9_addLink_10 : decode cX9_addLink 10 = .ok (.aload_n 0, 1) := by decide +kernel
theorem dX9_addLink_11 : decode cX9_addLink 11 = .ok (.iload_n 3, 1) := by decide +kernel
theorem dX9_addLink_12 : decode cX9_addLink 12 = .ok (.iconst 1, 1) := by decide +kernel
theorem dX9_addLink_13 : decode cX9_addLink 13 = .ok (.bipush 9, 2) := by decide +kernel
theorem dX9_addLink_15 : decode cX9_addLink 15 = .ok (.invokevirtual 75, 3) := by decide +kernel
theorem dX9_addLink_18 : decode cX9_addLink 18 = .ok (.iload_n 1, 1) := by decide +kernel
theorem dX9_addLink_19 : decode cX9_addLink 19 = .ok (.iload_n 2, 1) := by decide +kernel
theorem dX9_addLink_20 : decode cX9_addLink 20 = .ok (.if_icmp .eq 15, 3) := by decide +kernel
theorem dX9_addLink_23 : decode cX9_addLink 23 = .ok (.aload_n 0, 1) := by decide +kernel
theorem dX9_addLink_24 : decode cX9_addLink 24 = .ok (.getfield 12, 3) := by decide +kernel
theorem dX9_addLink_27 : decode cX9_addLink 27 = .ok (.iload_n 1, 1) := by decide +kernel
theorem dX9_addLink_28 : decode cX9_addLink 28 = .ok (.iload_n 2, 1) := by decide +kernel
theorem dX9_addLink_29 : decode cX9_addLink 29 = .ok (.invokevirtual 97, 3) := by decide +kernel
theorem dX9_addLink_32 : decode cX9_addLink 32 = .ok (.ifCond .eq 13, 3) := by decide +kernel
theorem dX9_addLink_35 : decode cX9_addLink 35 = .ok (.new 101, 3) := by decide +kernel
theorem dX9_addLink_38 : decode cX9_addLink 38 = .ok (.dup, 1) := by decide +kernel
theorem dX9_addLink_39 : decode cX9_addLink 39 = .ok (.ldc 103, 2) := by decide +kernel
theorem dX9_addLink_41 : decode cX9_addLink 41 = .ok (.invokespecial 105, 3) := by decide +kernel
theorem dX9_addLink_44 : decode cX9_addLink 44 = .ok (.athrow, 1) := by decide +kernel
theorem dX9_addLink_45 : decode cX9_addLink 45 = .ok (.aload_n 0, 1) := by decide +kernel
theorem dX9_addLink_46 : decode cX9_addLink 46 = .ok (.getfield 12, 3) := by decide +kernel
theorem dX9_addLink_49 : decode cX9_addLink 49 = .ok (.getfield 79, 3) := by decide +kernel
theorem dX9_addLink_52 : decode cX9_addLink 52 = .ok (.bipush 16, 2) := by decide +kernel
theorem dX9_addLink_54 : decode cX9_addLink 54 = .ok (.if_icmp .lt 13, 3) := by decide +kernel
theorem dX9_addLink_57 : decode cX9_addLink 57 = .ok (.new 108, 3) := by decide +kernel
theorem dX9_addLink_60 : decode cX9_addLink 60 = .ok (.dup, 1) := by decide +kernel
theorem dX9_addLink_61 : decode cX9_addLink 61 = .ok (.ldc 110, 2) := by decide +kernel
theorem dX9_addLink_63 : decode cX9_addLink 63 = .ok (.invokespecial 112, 3) := by decide +kernel
theorem dX9_addLink_66 : decode cX9_addLink 66 = .ok (.athrow, 1) := by decide +kernel
theorem dX9_addLink_67 : decode cX9_addLink 67 = .ok (.aload_n 0, 1) := by decide +kernel
theorem dX9_addLink_68 : decode cX9_addLink 68 = .ok (.getfield 22, 3) := by decide +kernel
theorem dX9_addLink_71 : decode cX9_addLink 71 = .ok (.aload_n 0, 1) := by decide +kernel
theorem dX9_addLink_72 : decode cX9_addLink 72 = .ok (.getfield 12, 3) := by decide +kernel
theorem dX9_addLink_75 : decode cX9_addLink 75 = .ok (.invokevirtual 83, 3) := by decide +kernel
theorem dX9_addLink_78 : decode cX9_addLink 78 = .ok (.aload_n 0, 1) := by decide +kernel
theorem dX9_addLink_79 : decode cX9_addLink 79 = .ok (.getfield 12, 3) := by decide +kernel
theorem dX9_addLink_82 : decode cX9_addLink 82 = .ok (.iload_n 1, 1) := by decide +kernel
theorem dX9_addLink_83 : decode cX9_addLink 83 = .ok (.iload_n 2, 1) := by decide +kernel
theorem dX9_addLink_84 : decode cX9_addLink 84 = .ok (.iload_n 3, 1) := by decide +kernel
theorem dX9_addLink_85 : decode cX9_addLink 85 = .ok (.invokevirtual 113, 3) := by decide +kernel
theorem dX9_addLink_88 : decode cX9_addLink 88 = .ok (.aload_n 0, 1) := by decide +kernel
theorem dX9_addLink_89 : decode cX9_addLink 89 = .ok (.invokevirtual 91, 3) := by decide +kernel
theorem dX9_addLink_92 : decode cX9_addLink 92 = .ok (.aload_n 0, 1) := by decide +kernel
theorem dX9_addLink_93 : decode cX9_addLink 93 = .ok (.getfield 12, 3) := by decide +kernel
theorem dX9_addLink_96 : decode cX9_addLink 96 = .ok (.getfield 79, 3) := by decide +kernel
theorem dX9_addLink_99 : decode cX9_addLink 99 = .ok (.iconst 1, 1) := by decide +kernel
theorem dX9_addLink_100 : decode cX9_addLink 100 = .ok (.isub, 1) := by decide +kernel
theorem dX9_addLink_101 : decode cX9_addLink 101 = .ok (.ireturn, 1) := by decide +kernel
theorem dX9_removeLink_0 : decode cX9_removeLink 0 = .ok (.aload_n 0, 1) := by decide +kernel
theorem dX9_removeLink_1 : decode cX9_removeLink 1 = .ok (.iload_n 1, 1) := by decide +kernel
theorem dX9_removeLink_2 : decode cX9_removeLink 2 = .ok (.invokevirtual 116, 3) := by decide +kernel
theorem dX9_removeLink_5 : decode cX9_removeLink 5 = .ok (.aload_n 0, 1) := by decide +kernel
theorem dX9_removeLink_6 : decode cX9_removeLink 6 = .ok (.getfield 22, 3) := by decide +kernel
theorem dX9_removeLink_9 : decode cX9_removeLink 9 = .ok (.aload_n 0, 1) := by decide +kernel
theorem dX9_removeLink_10 : decode cX9_removeLink 10 = .ok (.getfield 12, 3) := by decide +kernel
theorem dX9_removeLink_13 : decode cX9_removeLink 13 = .ok (.invokevirtual 83, 3) := by decide +kernel
theorem dX9_removeLink_16 : decode cX9_removeLink 16 = .ok (.aload_n 0, 1) := by decide +kernel
theorem dX9_removeLink_17 : decode cX9_removeLink 17 = .ok (.getfield 12, 3) := by decide +kernel
theorem dX9_removeLink_20 : decode cX9_removeLink 20 = .ok (.iload_n 1, 1) := by decide +kernel
theorem dX9_removeLink_21 : decode cX9_removeLink 21 = .ok (.invokevirtual 119, 3) := by decide +kernel
theorem dX9_removeLink_24 : decode cX9_removeLink 24 = .ok (.aload_n 0, 1) := by decide +kernel
theorem dX9_removeLink_25 : decode cX9_removeLink 25 = .ok (.invokevirtual 91, 3) := by decide +kernel
theorem dX9_removeLink_28 : decode cX9_removeLink 28 = .ok (.aload_n 0, 1) := by decide +kernel
theorem dX9_removeLink_29 : decode cX9_removeLink 29 = .ok (.getfield 12, 3) := by decide +kernel
theorem dX9_removeLink_32 : decode cX9_removeLink 32 = .ok (.getfield 79, 3) := by decide +kernel
theorem dX9_removeLink_35 : decode cX9_removeLink 35 = .ok (.ireturn, 1) := by decide +kernel
theorem dX9_setLength_0 : decode cX9_setLength 0 = .ok (.aload_n 0, 1) := by decide +kernel
theorem dX9_setLength_1 : decode cX9_setLength 1 = .ok (.iload_n 1, 1) := by decide +kernel
theorem dX9_setLength_2 : decode cX9_setLength 2 = .ok (.invokevirtual 116, 3) := by decide +kernel
theorem dX9_setLength_5 : decode cX9_setLength 5 = .ok (.aload_n 0, 1) := by decide +kernel
theorem dX9_setLength_6 : decode cX9_setLength 6 = .ok (.iload_n 2, 1) := by decide +kernel
theorem dX9_setLength_7 : decode cX9_setLength 7 = .ok (.iconst 1, 1) := by decide +kernel
theorem dX9_setLength_8 : decode cX9_setLength 8 = .ok (.bipush 9, 2) := by decide +kernel
theorem dX9_setLength_10 : decode cX9_setLength 10 = .ok (.invokevirtual 75, 3) := by decide +kernel
theorem dX9_setLength_13 : decode cX9_setLength 13 = .ok (.aload_n 0, 1) := by decide +kernel
theorem dX9_setLength_14 : decode cX9_setLength 14 = .ok (.getfield 12, 3) := by decide +kernel
theorem dX9_setLength_17 : decode cX9_setLength 17 = .ok (.getfield 122, 3) := by decide +kernel
theorem dX9_setLength_20 : decode cX9_setLength 20 = .ok (.iload_n 1, 1) := by decide +kernel
theorem dX9_setLength_21 : decode cX9_setLength 21 = .ok (.iaload, 1) := by decide +kernel
theorem dX9_setLength_22 : decode cX9_setLength 22 = .ok (.istore_n 3, 1) := by decide +kernel
theorem dX9_setLength_23 : decode cX9_setLength 23 = .ok (.aload_n 0, 1) := by decide +kernel
theorem dX9_setLength_24 : decode cX9_setLength 24 = .ok (.getfield 22, 3) := by decide +kernel
theorem dX9_setLength_27 : decode cX9_setLength 27 = .ok (.aload_n 0, 1) := by decide +kernel
theorem dX9_setLength_28 : decode cX9_setLength 28 = .ok (.getfield 12, 3) := by decide +kernel
theorem dX9_setLength_31 : decode cX9_setLength 31 = .ok (.invokevirtual 83, 3) := by decide +kernel
theorem dX9_setLength_34 : decode cX9_setLength 34 = .ok (.aload_n 0, 1) := by decide +kernel
theorem dX9_setLength_35 : decode cX9_setLength 35 = .ok (.getfield 12, 3) := by decide +kernel
theorem dX9_setLength_38 : decode cX9_setLength 38 = .ok (.getfield 122, 3) := by decide +kernel
theorem dX9_setLength_41 : decode cX9_setLength 41 = .ok (.iload_n 1, 1) := by decide +kernel
theorem dX9_setLength_42 : decode cX9_setLength 42 = .ok (.iload_n 2, 1) := by decide +kernel
theorem dX9_setLength_43 : decode cX9_setLength 43 = .ok (.iastore, 1) := by decide +kernel
theorem dX9_setLength_44 : decode cX9_setLength 44 = .ok (.aload_n 0, 1) := by decide +kernel
theorem dX9_setLength_45 : decode cX9_setLength 45 = .ok (.invokevirtual 91, 3) := by decide +kernel
theorem dX9_setLength_48 : decode cX9_setLength 48 = .ok (.iload_n 3, 1) := by decide +kernel
theorem dX9_setLength_49 : decode cX9_setLength 49 = .ok (.ireturn, 1) := by decide +kernel
theorem dX9_size_0 : decode cX9_size 0 = .ok (.iload_n 1, 1) := by decide +kernel
theorem dX9_size_1 : decode cX9_size 1 = .ok (.ifCond .eq 13, 3) := by decide +kernel
theorem dX9_size_4 : decode cX9_size 4 = .ok (.aload_n 0, 1) := by decide +kernel
theorem dX9_size_5 : decode cX9_size 5 = .ok (.getfield 12, 3) := by decide +kernel
theorem dX9_size_8 : decode cX9_size 8 = .ok (.getfield 79, 3) := by decide +kernel
theorem dX9_size_11 : decode cX9_size 11 = .ok (.goto 10, 3) := by decide +kernel
theorem dX9_size_14 : decode cX9_size 14 = .ok (.aload_n 0, 1) := by decide +kernel
theorem dX9_size_15 : decode cX9_size 15 = .ok (.getfield 12, 3) := by decide +kernel
theorem dX9_size_18 : decode cX9_size 18 = .ok (.getfield 126, 3) := by decide +kernel
theorem dX9_size_21 : decode cX9_size 21 = .ok (.ireturn, 1) := by decide +kernel
theorem dX9_link_0 : decode cX9_link 0 = .ok (.aload_n 0, 1) := by decide +kernel
theorem dX9_link_1 : decode cX9_link 1 = .ok (.iload_n 1, 1) := by decide +kernel
theorem dX9_link_2 : decode cX9_link 2 = .ok (.invokevirtual 116, 3) := by decide +kernel
theorem dX9_link_5 : decode cX9_link 5 = .ok (.aload_n 0, 1) := by decide +kernel
theorem dX9_link_6 : decode cX9_link 6 = .ok (.iload_n 2, 1) := by decide +kernel
theorem dX9_link_7 : decode cX9_link 7 = .ok (.iconst 0, 1) := by decide +kernel
theorem dX9_link_8 : decode cX9_link 8 = .ok (.iconst 2, 1) := by decide +kernel
theorem dX9_link_9 : decode cX9_link 9 = .ok (.invokevirtual 75, 3) := by decide +kernel
theorem dX9_link_12 : decode cX9_link 12 = .ok (.aload_n 0, 1) := by decide +kernel
theorem dX9_link_13 : decode cX9_link 13 = .ok (.getfield 12, 3) := by decide +kernel
theorem dX9_link_16 : decode cX9_link 16 = .ok (.iload_n 1, 1) := by decide +kernel
theorem dX9_link_17 : decode cX9_link 17 = .ok (.iload_n 2, 1) := by decide +kernel
theorem dX9_link_18 : decode cX9_link 18 = .ok (.invokevirtual 129, 3) := by decide +kernel
theorem dX9_link_21 : decode cX9_link 21 = .ok (.ireturn, 1) := by decide +kernel
theorem dX9_distance_0 : decode cX9_distance 0 = .ok (.aload_n 0, 1) := by decide +kernel
theorem dX9_distance_1 : decode cX9_distance 1 = .ok (.iload_n 1, 1) := by decide +kernel
theorem dX9_distance_2 : decode cX9_distance 2 = .ok (.invokevirtual 94, 3) := by decide +kernel
theorem dX9_distance_5 : decode cX9_distance 5 = .ok (.aload_n 0, 1) := by decide +kernel
theorem dX9_distance_6 : decode cX9_distance 6 = .ok (.iload_n 2, 1) := by decide +kernel
theorem dX9_distance_7 : decode cX9_distance 7 = .ok (.invokevirtual 94, 3) := by decide +kernel
theorem dX9_distance_10 : decode cX9_distance 10 = .ok (.aload_n 0, 1) := by decide +kernel
theorem dX9_distance_11 : decode cX9_distance 11 = .ok (.getfield 29, 3) := by decide +kernel
theorem dX9_distance_14 : decode cX9_distance 14 = .ok (.iload_n 1, 1) := by decide +kernel
theorem dX9_distance_15 : decode cX9_distance 15 = .ok (.iload_n 2, 1) := by decide +kernel
theorem dX9_distance_16 : decode cX9_distance 16 = .ok (.invokevirtual 133, 3) := by decide +kernel
theorem dX9_distance_19 : decode cX9_distance 19 = .ok (.istore_n 3, 1) := by decide +kernel
theorem dX9_distance_20 : decode cX9_distance 20 = .ok (.iload_n 3, 1) := by decide +kernel
theorem dX9_distance_21 : decode cX9_distance 21 = .ok (.sipush 1000, 3) := by decide +kernel
theorem dX9_distance_24 : decode cX9_distance 24 = .ok (.if_icmp .ne 7, 3) := by decide +kernel
theorem dX9_distance_27 : decode cX9_distance 27 = .ok (.iconst (-1), 1) := by decide +kernel
theorem dX9_distance_28 : decode cX9_distance 28 = .ok (.goto 4, 3) := by decide +kernel
theorem dX9_distance_31 : decode cX9_distance 31 = .ok (.iload_n 3, 1) := by decide +kernel
theorem dX9_distance_32 : decode cX9_distance 32 = .ok (.ireturn, 1) := by decide +kernel
theorem dX9_goodLinks_0 : decode cX9_goodLinks 0 = .ok (.aload_n 0, 1) := by decide +kernel
theorem dX9_goodLinks_1 : decode cX9_goodLinks 1 = .ok (.iload_n 1, 1) := by decide +kernel
theorem dX9_goodLinks_2 : decode cX9_goodLinks 2 = .ok (.invokevirtual 94, 3) := by decide +kernel
theorem dX9_goodLinks_5 : decode cX9_goodLinks 5 = .ok (.aload_n 0, 1) := by decide +kernel
theorem dX9_goodLinks_6 : decode cX9_goodLinks 6 = .ok (.iload_n 2, 1) := by decide +kernel
theorem dX9_goodLinks_7 : decode cX9_goodLinks 7 = .ok (.invokevirtual 94, 3) := by decide +kernel
theorem dX9_goodLinks_10 : decode cX9_goodLinks 10 = .ok (.aload_n 0, 1) := by decide +kernel
theorem dX9_goodLinks_11 : decode cX9_goodLinks 11 = .ok (.getfield 29, 3) := by decide +kernel
theorem dX9_goodLinks_14 : decode cX9_goodLinks 14 = .ok (.iload_n 1, 1) := by decide +kernel
theorem dX9_goodLinks_15 : decode cX9_goodLinks 15 = .ok (.iload_n 2, 1) := by decide +kernel
theorem dX9_goodLinks_16 : decode cX9_goodLinks 16 = .ok (.invokevirtual 136, 3) := by decide +kernel
theorem dX9_goodLinks_19 : decode cX9_goodLinks 19 = .ok (.ireturn, 1) := by decide +kernel
theorem dX9_kind_0 : decode cX9_kind 0 = .ok (.aload_n 0, 1) := by decide +kernel
theorem dX9_kind_1 : decode cX9_kind 1 = .ok (.getfield 12, 3) := by decide +kernel
theorem dX9_kind_4 : decode cX9_kind 4 = .ok (.getfield 126, 3) := by decide +kernel
theorem dX9_kind_7 : decode cX9_kind 7 = .ok (.ifCond .eq 20, 3) := by decide +kernel
theorem dX9_kind_10 : decode cX9_kind 10 = .ok (.aload_n 0, 1) := by decide +kernel
theorem dX9_kind_11 : decode cX9_kind 11 = .ok (.getfield 29, 3) := by decide +kernel
theorem dX9_kind_14 : decode cX9_kind 14 = .ok (.aload_n 0, 1) := by decide +kernel
theorem dX9_kind_15 : decode cX9_kind 15 = .ok (.getfield 12, 3) := by decide +kernel
theorem dX9_kind_18 : decode cX9_kind 18 = .ok (.getfield 126, 3) := by decide +kernel
theorem dX9_kind_21 : decode cX9_kind 21 = .ok (.invokevirtual 139, 3) := by decide +kernel
theorem dX9_kind_24 : decode cX9_kind 24 = .ok (.ifCond .ne 5, 3) := by decide +kernel
theorem dX9_kind_27 : decode cX9_kind 27 = .ok (.iconst 0, 1) := by decide +kernel
theorem dX9_kind_28 : decode cX9_kind 28 = .ok (.ireturn, 1) := by decide +kernel
theorem dX9_kind_29 : decode cX9_kind 29 = .ok (.aload_n 0, 1) := by decide +kernel
theorem dX9_kind_30 : decode cX9_kind 30 = .ok (.getfield 12, 3) := by decide +kernel
theorem dX9_kind_33 : decode cX9_kind 33 = .ok (.getfield 79, 3) := by decide +kernel
theorem dX9_kind_36 : decode cX9_kind 36 = .ok (.aload_n 0, 1) := by decide +kernel
theorem dX9_kind_37 : decode cX9_kind 37 = .ok (.getfield 12, 3) := by decide +kernel
theorem dX9_kind_40 : decode cX9_kind 40 = .ok (.getfield 126, 3) := by decide +kernel
theorem dX9_kind_43 : decode cX9_kind 43 = .ok (.iconst 1, 1) := by decide +kernel
theorem dX9_kind_44 : decode cX9_kind 44 = .ok (.isub, 1) := by decide +kernel
theorem dX9_kind_45 : decode cX9_kind 45 = .ok (.if_icmp .ne 5, 3) := by decide +kernel
theorem dX9_kind_48 : decode cX9_kind 48 = .ok (.iconst 1, 1) := by decide +kernel
theorem dX9_kind_49 : decode cX9_kind 49 = .ok (.ireturn, 1) := by decide +kernel
theorem dX9_kind_50 : decode cX9_kind 50 = .ok (.aload_n 0, 1) := by decide +kernel
theorem dX9_kind_51 : decode cX9_kind 51 = .ok (.invokevirtual 143, 3) := by decide +kernel
theorem dX9_kind_54 : decode cX9_kind 54 = .ok (.ifCond .eq 7, 3) := by decide +kernel
theorem dX9_kind_57 : decode cX9_kind 57 = .ok (.iconst 2, 1) := by decide +kernel
theorem dX9_kind_58 : decode cX9_kind 58 = .ok (.goto 4, 3) := by decide +kernel
theorem dX9_kind_61 : decode cX9_kind 61 = .ok (.iconst 3, 1) := by decide +kernel
theorem dX9_kind_62 : decode cX9_kind 62 = .ok (.ireturn, 1) := by decide +kernel
theorem dX9_label_0 : decode cX9_label 0 = .ok (.aload_n 0, 1) := by decide +kernel
theorem dX9_label_1 : decode cX9_label 1 = .ok (.iload_n 1, 1) := by decide +kernel
theorem dX9_label_2 : decode cX9_label 2 = .ok (.invokevirtual 94, 3) := by decide +kernel
theorem dX9_label_5 : decode cX9_label 5 = .ok (.aload_n 0, 1) := by decide +kernel
theorem dX9_label_6 : decode cX9_label 6 = .ok (.getfield 12, 3) := by decide +kernel
theorem dX9_label_9 : decode cX9_label 9 = .ok (.getfield 147, 3) := by decide +kernel
theorem dX9_label_12 : decode cX9_label 12 = .ok (.iload_n 1, 1) := by decide +kernel
theorem dX9_label_13 : decode cX9_label 13 = .ok (.iaload, 1) := by decide +kernel
theorem dX9_label_14 : decode cX9_label 14 = .ok (.ireturn, 1) := by decide +kernel
theorem dX9_nodeWith_0 : decode cX9_nodeWith 0 = .ok (.aload_n 0, 1) := by decide +kernel
theorem dX9_nodeWith_1 : decode cX9_nodeWith 1 = .ok (.iload_n 1, 1) := by decide +kernel
theorem dX9_nodeWith_2 : decode cX9_nodeWith 2 = .ok (.invokevirtual 150, 3) := by decide +kernel
theorem dX9_nodeWith_5 : decode cX9_nodeWith 5 = .ok (.aload_n 0, 1) := by decide +kernel
theorem dX9_nodeWith_6 : decode cX9_nodeWith 6 = .ok (.getfield 12, 3) := by decide +kernel
theorem dX9_nodeWith_9 : decode cX9_nodeWith 9 = .ok (.iload_n 1, 1) := by decide +kernel
theorem dX9_nodeWith_10 : decode cX9_nodeWith 10 = .ok (.invokevirtual 153, 3) := by decide +kernel
theorem dX9_nodeWith_13 : decode cX9_nodeWith 13 = .ok (.ireturn, 1) := by decide +kernel
theorem dX9_setLabels_0 : decode cX9_setLabels 0 = .ok (.aload_n 0, 1) := by decide +kernel
theorem dX9_setLabels_1 : decode cX9_setLabels 1 = .ok (.iload_n 1, 1) := by decide +kernel
theorem dX9_setLabels_2 : decode cX9_setLabels 2 = .ok (.iconst 0, 1) := by decide +kernel
theorem dX9_setLabels_3 : decode cX9_setLabels 3 = .ok (.iconst 3, 1) := by decide +kernel
theorem dX9_setLabels_4 : decode cX9_setLabels 4 = .ok (.invokevirtual 75, 3) := by decide +kernel
theorem dX9_setLabels_7 : decode cX9_setLabels 7 = .ok (.aload_n 0, 1) := by decide +kernel
theorem dX9_setLabels_8 : decode cX9_setLabels 8 = .ok (.iload_n 2, 1) := by decide +kernel
theorem dX9_setLabels_9 : decode cX9_setLabels 9 = .ok (.invokevirtual 94, 3) := by decide +kernel
theorem dX9_setLabels_12 : decode cX9_setLabels 12 = .ok (.iload_n 1, 1) := by decide +kernel
theorem dX9_setLabels_13 : decode cX9_setLabels 13 = .ok (.iconst 3, 1) := by decide +kernel
theorem dX9_setLabels_14 : decode cX9_setLabels 14 = .ok (.if_icmp .ne 7, 3) := by decide +kernel
theorem dX9_setLabels_17 : decode cX9_setLabels 17 = .ok (.aload_n 0, 1) := by decide +kernel
theorem dX9_setLabels_18 : decode cX9_setLabels 18 = .ok (.invokevirtual 157, 3) := by decide +kernel
theorem dX9_setLabels_21 : decode cX9_setLabels 21 = .ok (.aload_n 0, 1) := by decide +kernel
theorem dX9_setLabels_22 : decode cX9_setLabels 22 = .ok (.getfield 22, 3) := by decide +kernel
theorem dX9_setLabels_25 : decode cX9_setLabels 25 = .ok (.aload_n 0, 1) := by decide +kernel
theorem dX9_setLabels_26 : decode cX9_setLabels 26 = .ok (.getfield 12, 3) := by decide +kernel
theorem dX9_setLabels_29 : decode cX9_setLabels 29 = .ok (.invokevirtual 83, 3) := by decide +kernel
theorem dX9_setLabels_32 : decode cX9_setLabels 32 = .ok (.iload_n 1, 1) := by decide +kernel
theorem dX9_setLabels_33 : decode cX9_setLabels 33 = .ok (.ifCond .ne 13, 3) := by decide +kernel
theorem dX9_setLabels_36 : decode cX9_setLabels 36 = .ok (.aload_n 0, 1) := by decide +kernel
theorem dX9_setLabels_37 : decode cX9_setLabels 37 = .ok (.getfield 12, 3) := by decide +kernel
theorem dX9_setLabels_40 : decode cX9_setLabels 40 = .ok (.invokevirtual 160, 3) := by decide +kernel
theorem dX9_setLabels_43 : decode cX9_setLabels 43 = .ok (.goto 80, 3) := by decide +kernel
theorem dX9_setLabels_46 : decode cX9_setLabels 46 = .ok (.iload_n 1, 1) := by decide +kernel
theorem dX9_setLabels_47 : decode cX9_setLabels 47 = .ok (.iconst 1, 1) := by decide +kernel
theorem dX9_setLabels_48 : decode cX9_setLabels 48 = .ok (.if_icmp .ne 18, 3) := by decide +kernel
theorem dX9_setLabels_51 : decode cX9_setLabels 51 = .ok (.aload_n 0, 1) := by decide +kernel
theorem dX9_setLabels_52 : decode cX9_setLabels 52 = .ok (.getfield 64, 3) := by decide +kernel
theorem dX9_setLabels_55 : decode cX9_setLabels 55 = .ok (.aload_n 0, 1) := by decide +kernel
theorem dX9_setLabels_56 : decode cX9_setLabels 56 = .ok (.getfield 12, 3) := by decide +kernel
theorem dX9_setLabels_59 : decode cX9_setLabels 59 = .ok (.iload_n 2, 1) := by decide +kernel
theorem dX9_setLabels_60 : decode cX9_setLabels 60 = .ok (.invokevirtual 163, 3) := by decide +kernel
theorem dX9_setLabels_63 : decode cX9_setLabels 63 = .ok (.goto 60, 3) := by decide +kernel
theorem dX9_setLabels_66 : decode cX9_setLabels 66 = .ok (.iload_n 1, 1) := by decide +kernel
theorem dX9_setLabels_67 : decode cX9_setLabels 67 = .ok (.iconst 2, 1) := by decide +kernel
theorem dX9_setLabels_68 : decode cX9_setLabels 68 = .ok (.if_icmp .ne 22, 3) := by decide +kernel
theorem dX9_setLabels_71 : decode cX9_setLabels 71 = .ok (.aload_n 0, 1) := by decide +kernel
theorem dX9_setLabels_72 : decode cX9_setLabels 72 = .ok (.getfield 64, 3) := by decide +kernel
theorem dX9_setLabels_75 : decode cX9_setLabels 75 = .ok (.aload_n 0, 1) := by decide +kernel
theorem dX9_setLabels_76 : decode cX9_setLabels 76 = .ok (.getfield 12, 3) := by decide +kernel
theorem dX9_setLabels_79 : decode cX9_setLabels 79 = .ok (.aload_n 0, 1) := by decide +kernel
theorem dX9_setLabels_80 : decode cX9_setLabels 80 = .ok (.getfield 29, 3) := by decide +kernel
theorem dX9_setLabels_83 : decode cX9_setLabels 83 = .ok (.iload_n 2, 1) := by decide +kernel
theorem dX9_setLabels_84 : decode cX9_setLabels 84 = .ok (.invokevirtual 167, 3) := by decide +kernel
theorem dX9_setLabels_87 : decode cX9_setLabels 87 = .ok (.goto 36, 3) := by decide +kernel
theorem dX9_setLabels_90 : decode cX9_setLabels 90 = .ok (.aload_n 0, 1) := by decide +kernel
theorem dX9_setLabels_91 : decode cX9_setLabels 91 = .ok (.getfield 50, 3) := by decide +kernel
theorem dX9_setLabels_94 : decode cX9_setLabels 94 = .ok (.aload_n 0, 1) := by decide +kernel
theorem dX9_setLabels_95 : decode cX9_setLabels 95 = .ok (.getfield 29, 3) := by decide +kernel
theorem dX9_setLabels_98 : decode cX9_setLabels 98 = .ok (.aload_n 0, 1) := by decide +kernel
theorem dX9_setLabels_99 : decode cX9_setLabels 99 = .ok (.getfield 12, 3) := by decide +kernel
theorem dX9_setLabels_102 : decode cX9_setLabels 102 = .ok (.getfield 126, 3) := by decide +kernel
theorem dX9_setLabels_105 : decode cX9_setLabels 105 = .ok (.aload_n 0, 1) := by decide +kernel
theorem dX9_setLabels_106 : decode cX9_setLabels 106 = .ok (.getfield 43, 3) := by decide +kernel
theorem dX9_setLabels_109 : decode cX9_setLabels 109 = .ok (.invokevirtual 171, 3) := by decide +kernel
theorem dX9_setLabels_112 : decode cX9_setLabels 112 = .ok (.aload_n 0, 1) := by decide +kernel
theorem dX9_setLabels_113 : decode cX9_setLabels 113 = .ok (.getfield 50, 3) := by decide +kernel
theorem dX9_setLabels_116 : decode cX9_setLabels 116 = .ok (.aload_n 0, 1) := by decide +kernel
theorem dX9_setLabels_117 : decode cX9_setLabels 117 = .ok (.getfield 12, 3) := by decide +kernel
theorem dX9_setLabels_120 : decode cX9_setLabels 120 = .ok (.invokevirtual 175, 3) := by decide +kernel
theorem dX9_setLabels_123 : decode cX9_setLabels 123 = .ok (.aload_n 0, 1) := by decide +kernel
theorem dX9_setLabels_124 : decode cX9_setLabels 124 = .ok (.getfield 12, 3) := by decide +kernel
theorem dX9_setLabels_127 : decode cX9_setLabels 127 = .ok (.invokevirtual 178, 3) := by decide +kernel
theorem dX9_setLabels_130 : decode cX9_setLabels 130 = .ok (.aload_n 0, 1) := by decide +kernel
theorem dX9_setLabels_131 : decode cX9_setLabels 131 = .ok (.getfield 12, 3) := by decide +kernel
theorem dX9_setLabels_134 : decode cX9_setLabels 134 = .ok (.getfield 147, 3) := by decide +kernel
theorem dX9_setLabels_137 : decode cX9_setLabels 137 = .ok (.aload_n 0, 1) := by decide +kernel
theorem dX9_setLabels_138 : decode cX9_setLabels 138 = .ok (.getfield 12, 3) := by decide +kernel
theorem dX9_setLabels_141 : decode cX9_setLabels 141 = .ok (.getfield 126, 3) := by decide +kernel
theorem dX9_setLabels_144 : decode cX9_setLabels 144 = .ok (.iconst 1, 1) := by decide +kernel
theorem dX9_setLabels_145 : decode cX9_setLabels 145 = .ok (.isub, 1) := by decide +kernel
theorem dX9_setLabels_146 : decode cX9_setLabels 146 = .ok (.iaload, 1) := by decide +kernel
theorem dX9_setLabels_147 : decode cX9_setLabels 147 = .ok (.ireturn, 1) := by decide +kernel
theorem dX9_swapLabels_0 : decode cX9_swapLabels 0 = .ok (.aload_n 0, 1) := by decide +kernel
theorem dX9_swapLabels_1 : decode cX9_swapLabels 1 = .ok (.iload_n 1, 1) := by decide +kernel
theorem dX9_swapLabels_2 : decode cX9_swapLabels 2 = .ok (.invokevirtual 94, 3) := by decide +kernel
theorem dX9_swapLabels_5 : decode cX9_swapLabels 5 = .ok (.aload_n 0, 1) := by decide +kernel
theorem dX9_swapLabels_6 : decode cX9_swapLabels 6 = .ok (.iload_n 2, 1) := by decide +kernel
theorem dX9_swapLabels_7 : decode cX9_swapLabels 7 = .ok (.invokevirtual 94, 3) := by decide +kernel
theorem dX9_swapLabels_10 : decode cX9_swapLabels 10 = .ok (.aload_n 0, 1) := by decide +kernel
theorem dX9_swapLabels_11 : decode cX9_swapLabels 11 = .ok (.getfield 22, 3) := by decide +kernel
theorem dX9_swapLabels_14 : decode cX9_swapLabels 14 = .ok (.aload_n 0, 1) := by decide +kernel
theorem dX9_swapLabels_15 : decode cX9_swapLabels 15 = .ok (.getfield 12, 3) := by decide +kernel
theorem dX9_swapLabels_18 : decode cX9_swapLabels 18 = .ok (.invokevirtual 83, 3) := by decide +kernel
theorem dX9_swapLabels_21 : decode cX9_swapLabels 21 = .ok (.aload_n 0, 1) := by decide +kernel
theorem dX9_swapLabels_22 : decode cX9_swapLabels 22 = .ok (.getfield 12, 3) := by decide +kernel
theorem dX9_swapLabels_25 : decode cX9_swapLabels 25 = .ok (.iload_n 1, 1) := by decide +kernel
theorem dX9_swapLabels_26 : decode cX9_swapLabels 26 = .ok (.iload_n 2, 1) := by decide +kernel
theorem dX9_swapLabels_27 : decode cX9_swapLabels 27 = .ok (.invokevirtual 181, 3) := by decide +kernel
theorem dX9_swapLabels_30 : decode cX9_swapLabels 30 = .ok (.aload_n 0, 1) := by decide +kernel
theorem dX9_swapLabels_31 : decode cX9_swapLabels 31 = .ok (.getfield 12, 3) := by decide +kernel
theorem dX9_swapLabels_34 : decode cX9_swapLabels 34 = .ok (.invokevirtual 178, 3) := by decide +kernel
theorem dX9_swapLabels_37 : decode cX9_swapLabels 37 = .ok (.aload_n 0, 1) := by decide +kernel
theorem dX9_swapLabels_38 : decode cX9_swapLabels 38 = .ok (.getfield 12, 3) := by decide +kernel
theorem dX9_swapLabels_41 : decode cX9_swapLabels 41 = .ok (.getfield 147, 3) := by decide +kernel
theorem dX9_swapLabels_44 : decode cX9_swapLabels 44 = .ok (.iload_n 1, 1) := by decide +kernel
theorem dX9_swapLabels_45 : decode cX9_swapLabels 45 = .ok (.iaload, 1) := by decide +kernel
theorem dX9_swapLabels_46 : decode cX9_swapLabels 46 = .ok (.ireturn, 1) := by decide +kernel
theorem dX9_turn_0 : decode cX9_turn 0 = .ok (.aload_n 0, 1) := by decide +kernel
theorem dX9_turn_1 : decode cX9_turn 1 = .ok (.iload_n 1, 1) := by decide +kernel
theorem dX9_turn_2 : decode cX9_turn 2 = .ok (.iconst 0, 1) := by decide +kernel
theorem dX9_turn_3 : decode cX9_turn 3 = .ok (.bipush 9, 2) := by decide +kernel
theorem dX9_turn_5 : decode cX9_turn 5 = .ok (.invokevirtual 75, 3) := by decide +kernel
theorem dX9_turn_8 : decode cX9_turn 8 = .ok (.aload_n 0, 1) := by decide +kernel
theorem dX9_turn_9 : decode cX9_turn 9 = .ok (.getfield 12, 3) := by decide +kernel
theorem dX9_turn_12 : decode cX9_turn 12 = .ok (.getfield 126, 3) := by decide +kernel
theorem dX9_turn_15 : decode cX9_turn 15 = .ok (.ifCond .ne 13, 3) := by decide +kernel
theorem dX9_turn_18 : decode cX9_turn 18 = .ok (.new 108, 3) := by decide +kernel
theorem dX9_turn_21 : decode cX9_turn 21 = .ok (.dup, 1) := by decide +kernel
theorem dX9_turn_22 : decode cX9_turn 22 = .ok (.ldc 185, 2) := by decide +kernel
theorem dX9_turn_24 : decode cX9_turn 24 = .ok (.invokespecial 112, 3) := by decide +kernel
theorem dX9_turn_27 : decode cX9_turn 27 = .ok (.athrow, 1) := by decide +kernel
theorem dX9_turn_28 : decode cX9_turn 28 = .ok (.aload_n 0, 1) := by decide +kernel
theorem dX9_turn_29 : decode cX9_turn 29 = .ok (.getfield 22, 3) := by decide +kernel
theorem dX9_turn_32 : decode cX9_turn 32 = .ok (.aload_n 0, 1) := by decide +kernel
theorem dX9_turn_33 : decode cX9_turn 33 = .ok (.getfield 12, 3) := by decide +kernel
theorem dX9_turn_36 : decode cX9_turn 36 = .ok (.invokevirtual 83, 3) := by decide +kernel
theorem dX9_turn_39 : decode cX9_turn 39 = .ok (.iconst 0, 1) := by decide +kernel
theorem dX9_turn_40 : decode cX9_turn 40 = .ok (.istore_n 2, 1) := by decide +kernel
theorem dX9_turn_41 : decode cX9_turn 41 = .ok (.iload_n 2, 1) := by decide +kernel
theorem dX9_turn_42 : decode cX9_turn 42 = .ok (.aload_n 0, 1) := by decide +kernel
theorem dX9_turn_43 : decode cX9_turn 43 = .ok (.getfield 12, 3) := by decide +kernel
theorem dX9_turn_46 : decode cX9_turn 46 = .ok (.getfield 126, 3) := by decide +kernel
theorem dX9_turn_49 : decode cX9_turn 49 = .ok (.if_icmp .ge 37, 3) := by decide +kernel
theorem dX9_turn_52 : decode cX9_turn 52 = .ok (.aload_n 0, 1) := by decide +kernel
theorem dX9_turn_53 : decode cX9_turn 53 = .ok (.getfield 12, 3) := by decide +kernel
theorem dX9_turn_56 : decode cX9_turn 56 = .ok (.getfield 147, 3) := by decide +kernel
theorem dX9_turn_59 : decode cX9_turn 59 = .ok (.iload_n 2, 1) := by decide +kernel
theorem dX9_turn_60 : decode cX9_turn 60 = .ok (.aload_n 0, 1) := by decide +kernel
theorem dX9_turn_61 : decode cX9_turn 61 = .ok (.getfield 12, 3) := by decide +kernel
theorem dX9_turn_64 : decode cX9_turn 64 = .ok (.getfield 147, 3) := by decide +kernel
theorem dX9_turn_67 : decode cX9_turn 67 = .ok (.iload_n 2, 1) := by decide +kernel
theorem dX9_turn_68 : decode cX9_turn 68 = .ok (.iaload, 1) := by decide +kernel
theorem dX9_turn_69 : decode cX9_turn 69 = .ok (.iload_n 1, 1) := by decide +kernel
theorem dX9_turn_70 : decode cX9_turn 70 = .ok (.iadd, 1) := by decide +kernel
theorem dX9_turn_71 : decode cX9_turn 71 = .ok (.aload_n 0, 1) := by decide +kernel
theorem dX9_turn_72 : decode cX9_turn 72 = .ok (.getfield 12, 3) := by decide +kernel
theorem dX9_turn_75 : decode cX9_turn 75 = .ok (.getfield 126, 3) := by decide +kernel
theorem dX9_turn_78 : decode cX9_turn 78 = .ok (.irem, 1) := by decide +kernel
theorem dX9_turn_79 : decode cX9_turn 79 = .ok (.iastore, 1) := by decide +kernel
theorem dX9_turn_80 : decode cX9_turn 80 = .ok (.iinc 2 1, 3) := by decide +kernel
theorem dX9_turn_83 : decode cX9_turn 83 = .ok (.goto (-42), 3) := by decide +kernel
theorem dX9_turn_86 : decode cX9_turn 86 = .ok (.aload_n 0, 1) := by decide +kernel
theorem dX9_turn_87 : decode cX9_turn 87 = .ok (.getfield 12, 3) := by decide +kernel
theorem dX9_turn_90 : decode cX9_turn 90 = .ok (.invokevirtual 178, 3) := by decide +kernel
theorem dX9_turn_93 : decode cX9_turn 93 = .ok (.aload_n 0, 1) := by decide +kernel
theorem dX9_turn_94 : decode cX9_turn 94 = .ok (.getfield 12, 3) := by decide +kernel
theorem dX9_turn_97 : decode cX9_turn 97 = .ok (.getfield 147, 3) := by decide +kernel
theorem dX9_turn_100 : decode cX9_turn 100 = .ok (.iconst 0, 1) := by decide +kernel
theorem dX9_turn_101 : decode cX9_turn 101 = .ok (.iaload, 1) := by decide +kernel
theorem dX9_turn_102 : decode cX9_turn 102 = .ok (.ireturn, 1) := by decide +kernel
theorem dX9_shuffle_0 : decode cX9_shuffle 0 = .ok (.aload_n 0, 1) := by decide +kernel
theorem dX9_shuffle_1 : decode cX9_shuffle 1 = .ok (.iload_n 1, 1) := by decide +kernel
theorem dX9_shuffle_2 : decode cX9_shuffle 2 = .ok (.iconst 0, 1) := by decide +kernel
theorem dX9_shuffle_3 : decode cX9_shuffle 3 = .ok (.ldc 187, 2) := by decide +kernel
theorem dX9_shuffle_5 : decode cX9_shuffle 5 = .ok (.invokevirtual 75, 3) := by decide +kernel
theorem dX9_shuffle_8 : decode cX9_shuffle 8 = .ok (.aload_n 0, 1) := by decide +kernel
theorem dX9_shuffle_9 : decode cX9_shuffle 9 = .ok (.getfield 22, 3) := by decide +kernel
theorem dX9_shuffle_12 : decode cX9_shuffle 12 = .ok (.aload_n 0, 1) := by decide +kernel
theorem dX9_shuffle_13 : decode cX9_shuffle 13 = .ok (.getfield 12, 3) := by decide +kernel
theorem dX9_shuffle_16 : decode cX9_shuffle 16 = .ok (.invokevirtual 83, 3) := by decide +kernel
theorem dX9_shuffle_19 : decode cX9_shuffle 19 = .ok (.aload_n 0, 1) := by decide +kernel
theorem dX9_shuffle_20 : decode cX9_shuffle 20 = .ok (.getfield 64, 3) := by decide +kernel
theorem dX9_shuffle_23 : decode cX9_shuffle 23 = .ok (.aload_n 0, 1) := by decide +kernel
theorem dX9_shuffle_24 : decode cX9_shuffle 24 = .ok (.getfield 12, 3) := by decide +kernel
theorem dX9_shuffle_27 : decode cX9_shuffle 27 = .ok (.iload_n 1, 1) := by decide +kernel
theorem dX9_shuffle_28 : decode cX9_shuffle 28 = .ok (.invokevirtual 188, 3) := by decide +kernel
theorem dX9_shuffle_31 : decode cX9_shuffle 31 = .ok (.aload_n 0, 1) := by decide +kernel
theorem dX9_shuffle_32 : decode cX9_shuffle 32 = .ok (.getfield 12, 3) := by decide +kernel
theorem dX9_shuffle_35 : decode cX9_shuffle 35 = .ok (.invokevirtual 178, 3) := by decide +kernel
theorem dX9_shuffle_38 : decode cX9_shuffle 38 = .ok (.aload_n 0, 1) := by decide +kernel
theorem dX9_shuffle_39 : decode cX9_shuffle 39 = .ok (.getfield 12, 3) := by decide +kernel
theorem dX9_shuffle_42 : decode cX9_shuffle 42 = .ok (.getfield 126, 3) := by decide +kernel
theorem dX9_shuffle_45 : decode cX9_shuffle 45 = .ok (.ifCond .ne 7, 3) := by decide +kernel
theorem dX9_shuffle_48 : decode cX9_shuffle 48 = .ok (.iconst (-1), 1) := by decide +kernel
theorem dX9_shuffle_49 : decode cX9_shuffle 49 = .ok (.goto 12, 3) := by decide +kernel
theorem dX9_shuffle_52 : decode cX9_shuffle 52 = .ok (.aload_n 0, 1) := by decide +kernel
theorem dX9_shuffle_53 : decode cX9_shuffle 53 = .ok (.getfield 12, 3) := by decide +kernel
theorem dX9_shuffle_56 : decode cX9_shuffle 56 = .ok (.getfield 147, 3) := by decide +kernel
theorem dX9_shuffle_59 : decode cX9_shuffle 59 = .ok (.iconst 0, 1) := by decide +kernel
theorem dX9_shuffle_60 : decode cX9_shuffle 60 = .ok (.iaload, 1) := by decide +kernel
theorem dX9_shuffle_61 : decode cX9_shuffle 61 = .ok (.ireturn, 1) := by decide +kernel
theorem dX9_makeTables_0 : decode cX9_makeTables 0 = .ok (.aload_n 0, 1) := by decide +kernel
theorem dX9_makeTables_1 : decode cX9_makeTables 1 = .ok (.getfield 22, 3) := by decide +kernel
theorem dX9_makeTables_4 : decode cX9_makeTables 4 = .ok (.aload_n 0, 1) := by decide +kernel
theorem dX9_makeTables_5 : decode cX9_makeTables 5 = .ok (.getfield 12, 3) := by decide +kernel
theorem dX9_makeTables_8 : decode cX9_makeTables 8 = .ok (.invokevirtual 83, 3) := by decide +kernel
theorem dX9_makeTables_11 : decode cX9_makeTables 11 = .ok (.aload_n 0, 1) := by decide +kernel
theorem dX9_makeTables_12 : decode cX9_makeTables 12 = .ok (.getfield 43, 3) := by decide +kernel
theorem dX9_makeTables_15 : decode cX9_makeTables 15 = .ok (.aload_n 0, 1) := by decide +kernel
theorem dX9_makeTables_16 : decode cX9_makeTables 16 = .ok (.getfield 12, 3) := by decide +kernel
theorem dX9_makeTables_19 : decode cX9_makeTables 19 = .ok (.getfield 147, 3) := by decide +kernel
theorem dX9_makeTables_22 : decode cX9_makeTables 22 = .ok (.aload_n 0, 1) := by decide +kernel
theorem dX9_makeTables_23 : decode cX9_makeTables 23 = .ok (.getfield 12, 3) := by decide +kernel
theorem dX9_makeTables_26 : decode cX9_makeTables 26 = .ok (.getfield 126, 3) := by decide +kernel
theorem dX9_makeTables_29 : decode cX9_makeTables 29 = .ok (.invokevirtual 191, 3) := by decide +kernel
theorem dX9_makeTables_32 : decode cX9_makeTables 32 = .ok (.iconst 0, 1) := by decide +kernel
theorem dX9_makeTables_33 : decode cX9_makeTables 33 = .ok (.istore_n 1, 1) := by decide +kernel
theorem dX9_makeTables_34 : decode cX9_makeTables 34 = .ok (.iconst 0, 1) := by decide +kernel
theorem dX9_makeTables_35 : decode cX9_makeTables 35 = .ok (.istore_n 2, 1) := by decide +kernel
theorem dX9_makeTables_36 : decode cX9_makeTables 36 = .ok (.iload_n 2, 1) := by decide +kernel
theorem dX9_makeTables_37 : decode cX9_makeTables 37 = .ok (.aload_n 0, 1) := by decide +kernel
theorem dX9_makeTables_38 : decode cX9_makeTables 38 = .ok (.getfield 12, 3) := by decide +kernel
theorem dX9_makeTables_41 : decode cX9_makeTables 41 = .ok (.getfield 126, 3) := by decide +kernel
theorem dX9_makeTables_44 : decode cX9_makeTables 44 = .ok (.if_icmp .ge 56, 3) := by decide +kernel
theorem dX9_makeTables_47 : decode cX9_makeTables 47 = .ok (.aload_n 0, 1) := by decide +kernel
theorem dX9_makeTables_48 : decode cX9_makeTables 48 = .ok (.getfield 43, 3) := by decide +kernel
theorem dX9_makeTables_51 : decode cX9_makeTables 51 = .ok (.aload_n 0, 1) := by decide +kernel
theorem dX9_makeTables_52 : decode cX9_makeTables 52 = .ok (.getfield 29, 3) := by decide +kernel
theorem dX9_makeTables_55 : decode cX9_makeTables 55 = .ok (.iload_n 2, 1) := by decide +kernel
theorem dX9_makeTables_56 : decode cX9_makeTables 56 = .ok (.aload_n 0, 1) := by decide +kernel
theorem dX9_makeTables_57 : decode cX9_makeTables 57 = .ok (.getfield 12, 3) := by decide +kernel
theorem dX9_makeTables_60 : decode cX9_makeTables 60 = .ok (.getfield 147, 3) := by decide +kernel
theorem dX9_makeTables_63 : decode cX9_makeTables 63 = .ok (.iload_n 2, 1) := by decide +kernel
theorem dX9_makeTables_64 : decode cX9_makeTables 64 = .ok (.iaload, 1) := by decide +kernel
theorem dX9_makeTables_65 : decode cX9_makeTables 65 = .ok (.aload_n 0, 1) := by decide +kernel
theorem dX9_makeTables_66 : decode cX9_makeTables 66 = .ok (.getfield 36, 3) := by decide +kernel
theorem dX9_makeTables_69 : decode cX9_makeTables 69 = .ok (.invokevirtual 195, 3) := by decide +kernel
theorem dX9_makeTables_72 : decode cX9_makeTables 72 = .ok (.aload_n 0, 1) := by decide +kernel
theorem dX9_makeTables_73 : decode cX9_makeTables 73 = .ok (.getfield 12, 3) := by decide +kernel
theorem dX9_makeTables_76 : decode cX9_makeTables 76 = .ok (.iload_n 2, 1) := by decide +kernel
theorem dX9_makeTables_77 : decode cX9_makeTables 77 = .ok (.aload_n 0, 1) := by decide +kernel
theorem dX9_makeTables_78 : decode cX9_makeTables 78 = .ok (.getfield 36, 3) := by decide +kernel
theorem dX9_makeTables_81 : decode cX9_makeTables 81 = .ok (.invokevirtual 199, 3) := by decide +kernel
theorem dX9_makeTables_84 : decode cX9_makeTables 84 = .ok (.iload_n 1, 1) := by decide +kernel
theorem dX9_makeTables_85 : decode cX9_makeTables 85 = .ok (.aload_n 0, 1) := by decide +kernel
theorem dX9_makeTables_86 : decode cX9_makeTables 86 = .ok (.getfield 36, 3) := by decide +kernel
theorem dX9_makeTables_89 : decode cX9_makeTables 89 = .ok (.invokevirtual 203, 3) := by decide +kernel
theorem dX9_makeTables_92 : decode cX9_makeTables 92 = .ok (.iadd, 1) := by decide +kernel
theorem dX9_makeTables_93 : decode cX9_makeTables 93 = .ok (.istore_n 1, 1) := by decide +kernel
theorem dX9_makeTables_94 : decode cX9_makeTables 94 = .ok (.iinc 2 1, 3) := by decide +kernel
theorem dX9_makeTables_97 : decode cX9_makeTables 97 = .ok (.goto (-61), 3) := by decide +kernel
theorem dX9_makeTables_100 : decode cX9_makeTables 100 = .ok (.iload_n 1, 1) := by decide +kernel
theorem dX9_makeTables_101 : decode cX9_makeTables 101 = .ok (.ireturn, 1) := by decide +kernel
theorem dX9_setRange_0 : decode cX9_setRange 0 = .ok (.aload_n 0, 1) := by decide +kernel
theorem dX9_setRange_1 : decode cX9_setRange 1 = .ok (.iload_n 1, 1) := by decide +kernel
theorem dX9_setRange_2 : decode cX9_setRange 2 = .ok (.invokevirtual 94, 3) := by decide +kernel
theorem dX9_setRange_5 : decode cX9_setRange 5 = .ok (.iload_n 2, 1) := by decide +kernel
theorem dX9_setRange_6 : decode cX9_setRange 6 = .ok (.iconst (-1), 1) := by decide +kernel
theorem dX9_setRange_7 : decode cX9_setRange 7 = .ok (.if_icmp .eq 8, 3) := by decide +kernel
theorem dX9_setRange_10 : decode cX9_setRange 10 = .ok (.aload_n 0, 1) := by decide +kernel
theorem dX9_setRange_11 : decode cX9_setRange 11 = .ok (.iload_n 2, 1) := by decide +kernel
theorem dX9_setRange_12 : decode cX9_setRange 12 = .ok (.invokevirtual 116, 3) := by decide +kernel
theorem dX9_setRange_15 : decode cX9_setRange 15 = .ok (.aload_n 0, 1) := by decide +kernel
theorem dX9_setRange_16 : decode cX9_setRange 16 = .ok (.iload_n 3, 1) := by decide +kernel
theorem dX9_setRange_17 : decode cX9_setRange 17 = .ok (.invokevirtual 150, 3) := by decide +kernel
theorem dX9_setRange_20 : decode cX9_setRange 20 = .ok (.aload_n 0, 1) := by decide +kernel
theorem dX9_setRange_21 : decode cX9_setRange 21 = .ok (.iload 4, 2) := by decide +kernel
theorem dX9_setRange_23 : decode cX9_setRange 23 = .ok (.invokevirtual 150, 3) := by decide +kernel
theorem dX9_setRange_26 : decode cX9_setRange 26 = .ok (.iload_n 2, 1) := by decide +kernel
theorem dX9_setRange_27 : decode cX9_setRange 27 = .ok (.iconst (-1), 1) := by decide +kernel
theorem dX9_setRange_28 : decode cX9_setRange 28 = .ok (.if_icmp .eq 25, 3) := by decide +kernel
theorem dX9_setRange_31 : decode cX9_setRange 31 = .ok (.aload_n 0, 1) := by decide +kernel
theorem dX9_setRange_32 : decode cX9_setRange 32 = .ok (.getfield 12, 3) := by decide +kernel
theorem dX9_setRange_35 : decode cX9_setRange 35 = .ok (.iload_n 2, 1) := by decide +kernel
theorem dX9_setRange_36 : decode cX9_setRange 36 = .ok (.iload_n 1, 1) := by decide +kernel
theorem dX9_setRange_37 : decode cX9_setRange 37 = .ok (.invokevirtual 207, 3) := by decide +kernel
theorem dX9_setRange_40 : decode cX9_setRange 40 = .ok (.ifCond .ne 13, 3) := by decide +kernel
theorem dX9_setRange_43 : decode cX9_setRange 43 = .ok (.new 101, 3) := by decide +kernel
theorem dX9_setRange_46 : decode cX9_setRange 46 = .ok (.dup, 1) := by decide +kernel
theorem dX9_setRange_47 : decode cX9_setRange 47 = .ok (.ldc 210, 2) := by decide +kernel
theorem dX9_setRange_49 : decode cX9_setRange 49 = .ok (.invokespecial 105, 3) := by decide +kernel
theorem dX9_setRange_52 : decode cX9_setRange 52 = .ok (.athrow, 1) := by decide +kernel
theorem dX9_setRange_53 : decode cX9_setRange 53 = .ok (.aload_n 0, 1) := by decide +kernel
theorem dX9_setRange_54 : decode cX9_setRange 54 = .ok (.getfield 22, 3) := by decide +kernel
theorem dX9_setRange_57 : decode cX9_setRange 57 = .ok (.aload_n 0, 1) := by decide +kernel
theorem dX9_setRange_58 : decode cX9_setRange 58 = .ok (.getfield 12, 3) := by decide +kernel
theorem dX9_setRange_61 : decode cX9_setRange 61 = .ok (.invokevirtual 83, 3) := by decide +kernel
theorem dX9_setRange_64 : decode cX9_setRange 64 = .ok (.aload_n 0, 1) := by decide +kernel
theorem dX9_setRange_65 : decode cX9_setRange 65 = .ok (.getfield 12, 3) := by decide +kernel
theorem dX9_setRange_68 : decode cX9_setRange 68 = .ok (.iload_n 1, 1) := by decide +kernel
theorem dX9_setRange_69 : decode cX9_setRange 69 = .ok (.iload_n 2, 1) := by decide +kernel
theorem dX9_setRange_70 : decode cX9_setRange 70 = .ok (.iload_n 3, 1) := by decide +kernel
theorem dX9_setRange_71 : decode cX9_setRange 71 = .ok (.iload 4, 2) := by decide +kernel
theorem dX9_setRange_73 : decode cX9_setRange 73 = .ok (.invokevirtual 212, 3) := by decide +kernel
theorem dX9_setRange_76 : decode cX9_setRange 76 = .ok (.ireturn, 1) := by decide +kernel
theorem dX9_entry_0 : decode cX9_entry 0 = .ok (.aload_n 0, 1) := by decide +kernel
theorem dX9_entry_1 : decode cX9_entry 1 = .ok (.iload_n 1, 1) := by decide +kernel
theorem dX9_entry_2 : decode cX9_entry 2 = .ok (.invokevirtual 94, 3) := by decide +kernel
theorem dX9_entry_5 : decode cX9_entry 5 = .ok (.aload_n 0, 1) := by decide +kernel
theorem dX9_entry_6 : decode cX9_entry 6 = .ok (.iload_n 2, 1) := by decide +kernel
theorem dX9_entry_7 : decode cX9_entry 7 = .ok (.invokevirtual 150, 3) := by decide +kernel
theorem dX9_entry_10 : decode cX9_entry 10 = .ok (.aload_n 0, 1) := by decide +kernel
theorem dX9_entry_11 : decode cX9_entry 11 = .ok (.getfield 12, 3) := by decide +kernel
theorem dX9_entry_14 : decode cX9_entry 14 = .ok (.iload_n 1, 1) := by decide +kernel
theorem dX9_entry_15 : decode cX9_entry 15 = .ok (.iload_n 2, 1) := by decide +kernel
theorem dX9_entry_16 : decode cX9_entry 16 = .ok (.invokevirtual 216, 3) := by decide +kernel
theorem dX9_entry_19 : decode cX9_entry 19 = .ok (.ireturn, 1) := by decide +kernel
theorem dX9_runs_0 : decode cX9_runs 0 = .ok (.aload_n 0, 1) := by decide +kernel
theorem dX9_runs_1 : decode cX9_runs 1 = .ok (.iload_n 1, 1) := by decide +kernel
theorem dX9_runs_2 : decode cX9_runs 2 = .ok (.invokevirtual 94, 3) := by decide +kernel
theorem dX9_runs_5 : decode cX9_runs 5 = .ok (.aload_n 0, 1) := by decide +kernel
theorem dX9_runs_6 : decode cX9_runs 6 = .ok (.iload_n 2, 1) := by decide +kernel
theorem dX9_runs_7 : decode cX9_runs 7 = .ok (.invokevirtual 116, 3) := by decide +kernel
theorem dX9_runs_10 : decode cX9_runs 10 = .ok (.aload_n 0, 1) := by decide +kernel
theorem dX9_runs_11 : decode cX9_runs 11 = .ok (.getfield 12, 3) := by decide +kernel
theorem dX9_runs_14 : decode cX9_runs 14 = .ok (.iload_n 2, 1) := by decide +kernel
theorem dX9_runs_15 : decode cX9_runs 15 = .ok (.iload_n 1, 1) := by decide +kernel
theorem dX9_runs_16 : decode cX9_runs 16 = .ok (.invokevirtual 207, 3) := by decide +kernel
theorem dX9_runs_19 : decode cX9_runs 19 = .ok (.ifCond .ne 13, 3) := by decide +kernel
theorem dX9_runs_22 : decode cX9_runs 22 = .ok (.new 101, 3) := by decide +kernel
theorem dX9_runs_25 : decode cX9_runs 25 = .ok (.dup, 1) := by decide +kernel
theorem dX9_runs_26 : decode cX9_runs 26 = .ok (.ldc 210, 2) := by decide +kernel
theorem dX9_runs_28 : decode cX9_runs 28 = .ok (.invokespecial 105, 3) := by decide +kernel
theorem dX9_runs_31 : decode cX9_runs 31 = .ok (.athrow, 1) := by decide +kernel
theorem dX9_runs_32 : decode cX9_runs 32 = .ok (.aload_n 0, 1) := by decide +kernel
theorem dX9_runs_33 : decode cX9_runs 33 = .ok (.getfield 36, 3) := by decide +kernel
theorem dX9_runs_36 : decode cX9_runs 36 = .ok (.aload_n 0, 1) := by decide +kernel
theorem dX9_runs_37 : decode cX9_runs 37 = .ok (.getfield 12, 3) := by decide +kernel
theorem dX9_runs_40 : decode cX9_runs 40 = .ok (.iload_n 1, 1) := by decide +kernel
theorem dX9_runs_41 : decode cX9_runs 41 = .ok (.invokevirtual 219, 3) := by decide +kernel
theorem dX9_runs_44 : decode cX9_runs 44 = .ok (.aload_n 0, 1) := by decide +kernel
theorem dX9_runs_45 : decode cX9_runs 45 = .ok (.getfield 36, 3) := by decide +kernel
theorem dX9_runs_48 : decode cX9_runs 48 = .ok (.iload_n 2, 1) := by decide +kernel
theorem dX9_runs_49 : decode cX9_runs 49 = .ok (.invokevirtual 222, 3) := by decide +kernel
theorem dX9_runs_52 : decode cX9_runs 52 = .ok (.ireturn, 1) := by decide +kernel
theorem dX9_runEnd_0 : decode cX9_runEnd 0 = .ok (.aload_n 0, 1) := by decide +kernel
theorem dX9_runEnd_1 : decode cX9_runEnd 1 = .ok (.iload_n 1, 1) := by decide +kernel
theorem dX9_runEnd_2 : decode cX9_runEnd 2 = .ok (.invokevirtual 94, 3) := by decide +kernel
theorem dX9_runEnd_5 : decode cX9_runEnd 5 = .ok (.aload_n 0, 1) := by decide +kernel
theorem dX9_runEnd_6 : decode cX9_runEnd 6 = .ok (.iload_n 2, 1) := by decide +kernel
theorem dX9_runEnd_7 : decode cX9_runEnd 7 = .ok (.invokevirtual 116, 3) := by decide +kernel
theorem dX9_runEnd_10 : decode cX9_runEnd 10 = .ok (.aload_n 0, 1) := by decide +kernel
theorem dX9_runEnd_11 : decode cX9_runEnd 11 = .ok (.getfield 12, 3) := by decide +kernel
theorem dX9_runEnd_14 : decode cX9_runEnd 14 = .ok (.iload_n 2, 1) := by decide +kernel
theorem dX9_runEnd_15 : decode cX9_runEnd 15 = .ok (.iload_n 1, 1) := by decide +kernel
theorem dX9_runEnd_16 : decode cX9_runEnd 16 = .ok (.invokevirtual 207, 3) := by decide +kernel
theorem dX9_runEnd_19 : decode cX9_runEnd 19 = .ok (.ifCond .ne 13, 3) := by decide +kernel
theorem dX9_runEnd_22 : decode cX9_runEnd 22 = .ok (.new 225, 3) := by decide +kernel
theorem dX9_runEnd_25 : decode cX9_runEnd 25 = .ok (.dup, 1) := by decide +kernel
theorem dX9_runEnd_26 : decode cX9_runEnd 26 = .ok (.ldc 210, 2) := by decide +kernel
theorem dX9_runEnd_28 : decode cX9_runEnd 28 = .ok (.invokespecial 227, 3) := by decide +kernel
theorem dX9_runEnd_31 : decode cX9_runEnd 31 = .ok (.athrow, 1) := by decide +kernel
theorem dX9_runEnd_32 : decode cX9_runEnd 32 = .ok (.aload_n 0, 1) := by decide +kernel
theorem dX9_runEnd_33 : decode cX9_runEnd 33 = .ok (.getfield 36, 3) := by decide +kernel
theorem dX9_runEnd_36 : decode cX9_runEnd 36 = .ok (.aload_n 0, 1) := by decide +kernel
theorem dX9_runEnd_37 : decode cX9_runEnd 37 = .ok (.getfield 12, 3) := by decide +kernel
theorem dX9_runEnd_40 : decode cX9_runEnd 40 = .ok (.iload_n 1, 1) := by decide +kernel
theorem dX9_runEnd_41 : decode cX9_runEnd 41 = .ok (.invokevirtual 219, 3) := by decide +kernel
theorem dX9_runEnd_44 : decode cX9_runEnd 44 = .ok (.aload_n 0, 1) := by decide +kernel
theorem dX9_runEnd_45 : decode cX9_runEnd 45 = .ok (.getfield 36, 3) := by decide +kernel
theorem dX9_runEnd_48 : decode cX9_runEnd 48 = .ok (.iload_n 2, 1) := by decide +kernel
theorem dX9_runEnd_49 : decode cX9_runEnd 49 = .ok (.iload_n 3, 1) := by decide +kernel
theorem dX9_runEnd_50 : decode cX9_runEnd 50 = .ok (.invokevirtual 228, 3) := by decide +kernel
theorem dX9_runEnd_53 : decode cX9_runEnd 53 = .ok (.istore 5, 2) := by decide +kernel
theorem dX9_runEnd_55 : decode cX9_runEnd 55 = .ok (.iload 5, 2) := by decide +kernel
theorem dX9_runEnd_57 : decode cX9_runEnd 57 = .ok (.iconst (-1), 1) := by decide +kernel
theorem dX9_runEnd_58 : decode cX9_runEnd 58 = .ok (.if_icmp .ne 13, 3) := by decide +kernel
theorem dX9_runEnd_61 : decode cX9_runEnd 61 = .ok (.new 225, 3) := by decide +kernel
theorem dX9_runEnd_64 : decode cX9_runEnd 64 = .ok (.dup, 1) := by decide +kernel
theorem dX9_runEnd_65 : decode cX9_runEnd 65 = .ok (.ldc 231, 2) := by decide +kernel
theorem dX9_runEnd_67 : decode cX9_runEnd 67 = .ok (.invokespecial 227, 3) := by decide +kernel
theorem dX9_runEnd_70 : decode cX9_runEnd 70 = .ok (.athrow, 1) := by decide +kernel
theorem dX9_runEnd_71 : decode cX9_runEnd 71 = .ok (.iload 4, 2) := by decide +kernel
theorem dX9_runEnd_73 : decode cX9_runEnd 73 = .ok (.ifCond .eq 15, 3) := by decide +kernel
theorem dX9_runEnd_76 : decode cX9_runEnd 76 = .ok (.aload_n 0, 1) := by decide +kernel
theorem dX9_runEnd_77 : decode cX9_runEnd 77 = .ok (.getfield 36, 3) := by decide +kernel
theorem dX9_runEnd_80 : decode cX9_runEnd 80 = .ok (.iload 5, 2) := by decide +kernel
theorem dX9_runEnd_82 : decode cX9_runEnd 82 = .ok (.invokevirtual 233, 3) := by decide +kernel
theorem dX9_runEnd_85 : decode cX9_runEnd 85 = .ok (.goto 5, 3) := by decide +kernel
theorem dX9_runEnd_88 : decode cX9_runEnd 88 = .ok (.iload 5, 2) := by decide +kernel
theorem dX9_runEnd_90 : decode cX9_runEnd 90 = .ok (.istore 6, 2) := by decide +kernel
theorem dX9_runEnd_92 : decode cX9_runEnd 92 = .ok (.iload 6, 2) := by decide +kernel
theorem dX9_runEnd_94 : decode cX9_runEnd 94 = .ok (.aload_n 0, 1) := by decide +kernel
theorem dX9_runEnd_95 : decode cX9_runEnd 95 = .ok (.getfield 12, 3) := by decide +kernel
theorem dX9_runEnd_98 : decode cX9_runEnd 98 = .ok (.getfield 147, 3) := by decide +kernel
theorem dX9_runEnd_101 : decode cX9_runEnd 101 = .ok (.iload_n 1, 1) := by decide +kernel
theorem dX9_runEnd_102 : decode cX9_runEnd 102 = .ok (.iaload, 1) := by decide +kernel
theorem dX9_runEnd_103 : decode cX9_runEnd 103 = .ok (.invokestatic 236, 3) := by decide +kernel
theorem dX9_runEnd_106 : decode cX9_runEnd 106 = .ok (.ireturn, 1) := by decide +kernel
theorem dX9_tableSize_0 : decode cX9_tableSize 0 = .ok (.iload_n 1, 1) := by decide +kernel
theorem dX9_tableSize_1 : decode cX9_tableSize 1 = .ok (.iconst (-1), 1) := by decide +kernel
theorem dX9_tableSize_2 : decode cX9_tableSize 2 = .ok (.if_icmp .ne 8, 3) := by decide +kernel
theorem dX9_tableSize_5 : decode cX9_tableSize 5 = .ok (.aload_n 0, 1) := by decide +kernel
theorem dX9_tableSize_6 : decode cX9_tableSize 6 = .ok (.invokevirtual 239, 3) := by decide +kernel
theorem dX9_tableSize_9 : decode cX9_tableSize 9 = .ok (.ireturn, 1) := by decide +kernel
theorem dX9_tableSize_10 : decode cX9_tableSize 10 = .ok (.aload_n 0, 1) := by decide +kernel
theorem dX9_tableSize_11 : decode cX9_tableSize 11 = .ok (.iload_n 1, 1) := by decide +kernel
theorem dX9_tableSize_12 : decode cX9_tableSize 12 = .ok (.invokevirtual 94, 3) := by decide +kernel
theorem dX9_tableSize_15 : decode cX9_tableSize 15 = .ok (.aload_n 0, 1) := by decide +kernel
theorem dX9_tableSize_16 : decode cX9_tableSize 16 = .ok (.getfield 36, 3) := by decide +kernel
theorem dX9_tableSize_19 : decode cX9_tableSize 19 = .ok (.aload_n 0, 1) := by decide +kernel
theorem dX9_tableSize_20 : decode cX9_tableSize 20 = .ok (.getfield 12, 3) := by decide +kernel
theorem dX9_tableSize_23 : decode cX9_tableSize 23 = .ok (.iload_n 1, 1) := by decide +kernel
theorem dX9_tableSize_24 : decode cX9_tableSize 24 = .ok (.invokevirtual 219, 3) := by decide +kernel
theorem dX9_tableSize_27 : decode cX9_tableSize 27 = .ok (.aload_n 0, 1) := by decide +kernel
theorem dX9_tableSize_28 : decode cX9_tableSize 28 = .ok (.getfield 36, 3) := by decide +kernel
theorem dX9_tableSize_31 : decode cX9_tableSize 31 = .ok (.invokevirtual 203, 3) := by decide +kernel
theorem dX9_tableSize_34 : decode cX9_tableSize 34 = .ok (.ireturn, 1) := by decide +kernel
theorem dX9_compactness_0 : decode cX9_compactness 0 = .ok (.iconst 0, 1) := by decide +kernel
theorem dX9_compactness_1 : decode cX9_compactness 1 = .ok (.istore_n 1, 1) := by decide +kernel
theorem dX9_compactness_2 : decode cX9_compactness 2 = .ok (.iconst 0, 1) := by decide +kernel
theorem dX9_compactness_3 : decode cX9_compactness 3 = .ok (.istore_n 2, 1) := by decide +kernel
theorem dX9_compactness_4 : decode cX9_compactness 4 = .ok (.iload_n 2, 1) := by decide +kernel
theorem dX9_compactness_5 : decode cX9_compactness 5 = .ok (.aload_n 0, 1) := by decide +kernel
theorem dX9_compactness_6 : decode cX9_compactness 6 = .ok (.getfield 12, 3) := by decide +kernel
theorem dX9_compactness_9 : decode cX9_compactness 9 = .ok (.getfield 126, 3) := by decide +kernel
theorem dX9_compactness_12 : decode cX9_compactness 12 = .ok (.if_icmp .ge 33, 3) := by decide +kernel
theorem dX9_compactness_15 : decode cX9_compactness 15 = .ok (.aload_n 0, 1) := by decide +kernel
theorem dX9_compactness_16 : decode cX9_compactness 16 = .ok (.getfield 36, 3) := by decide +kernel
theorem dX9_compactness_19 : decode cX9_compactness 19 = .ok (.aload_n 0, 1) := by decide +kernel
theorem dX9_compactness_20 : decode cX9_compactness 20 = .ok (.getfield 12, 3) := by decide +kernel
theorem dX9_compactness_23 : decode cX9_compactness 23 = .ok (.iload_n 2, 1) := by decide +kernel
theorem dX9_compactness_24 : decode cX9_compactness 24 = .ok (.invokevirtual 219, 3) := by decide +kernel
theorem dX9_compactness_27 : decode cX9_compactness 27 = .ok (.iload_n 1, 1) := by decide +kernel
theorem dX9_compactness_28 : decode cX9_compactness 28 = .ok (.aload_n 0, 1) := by decide +kernel
theorem dX9_compactness_29 : decode cX9_compactness 29 = .ok (.getfield 36, 3) := by decide +kernel
theorem dX9_compactness_32 : decode cX9_compactness 32 = .ok (.invokevirtual 242, 3) := by decide +kernel
theorem dX9_compactness_35 : decode cX9_compactness 35 = .ok (.invokestatic 245, 3) := by decide +kernel
theorem dX9_compactness_38 : decode cX9_compactness 38 = .ok (.istore_n 1, 1) := by decide +kernel
theorem dX9_compactness_39 : decode cX9_compactness 39 = .ok (.iinc 2 1, 3) := by decide +kernel
theorem dX9_compactness_42 : decode cX9_compactness 42 = .ok (.goto (-38), 3) := by decide +kernel
theorem dX9_compactness_45 : decode cX9_compactness 45 = .ok (.iload_n 1, 1) := by decide +kernel
theorem dX9_compactness_46 : decode cX9_compactness 46 = .ok (.ireturn, 1) := by decide +kernel
theorem dX9_bestSize_0 : decode cX9_bestSize 0 = .ok (.aload_n 0, 1) := by decide +kernel
theorem dX9_bestSize_1 : decode cX9_bestSize 1 = .ok (.iload_n 1, 1) := by decide +kernel
theorem dX9_bestSize_2 : decode cX9_bestSize 2 = .ok (.invokevirtual 94, 3) := by decide +kernel
theorem dX9_bestSize_5 : decode cX9_bestSize 5 = .ok (.aload_n 0, 1) := by decide +kernel
theorem dX9_bestSize_6 : decode cX9_bestSize 6 = .ok (.getfield 43, 3) := by decide +kernel
theorem dX9_bestSize_9 : decode cX9_bestSize 9 = .ok (.aload_n 0, 1) := by decide +kernel
theorem dX9_bestSize_10 : decode cX9_bestSize 10 = .ok (.getfield 12, 3) := by decide +kernel
theorem dX9_bestSize_13 : decode cX9_bestSize 13 = .ok (.getfield 147, 3) := by decide +kernel
theorem dX9_bestSize_16 : decode cX9_bestSize 16 = .ok (.aload_n 0, 1) := by decide +kernel
theorem dX9_bestSize_17 : decode cX9_bestSize 17 = .ok (.getfield 12, 3) := by decide +kernel
theorem dX9_bestSize_20 : decode cX9_bestSize 20 = .ok (.getfield 126, 3) := by decide +kernel
theorem dX9_bestSize_23 : decode cX9_bestSize 23 = .ok (.invokevirtual 191, 3) := by decide +kernel
theorem dX9_bestSize_26 : decode cX9_bestSize 26 = .ok (.aload_n 0, 1) := by decide +kernel
theorem dX9_bestSize_27 : decode cX9_bestSize 27 = .ok (.getfield 43, 3) := by decide +kernel
theorem dX9_bestSize_30 : decode cX9_bestSize 30 = .ok (.aload_n 0, 1) := by decide +kernel
theorem dX9_bestSize_31 : decode cX9_bestSize 31 = .ok (.getfield 29, 3) := by decide +kernel
theorem dX9_bestSize_34 : decode cX9_bestSize 34 = .ok (.iload_n 1, 1) := by decide +kernel
theorem dX9_bestSize_35 : decode cX9_bestSize 35 = .ok (.aload_n 0, 1) := by decide +kernel
theorem dX9_bestSize_36 : decode cX9_bestSize 36 = .ok (.getfield 12, 3) := by decide +kernel
theorem dX9_bestSize_39 : decode cX9_bestSize 39 = .ok (.getfield 147, 3) := by decide +kernel
theorem dX9_bestSize_42 : decode cX9_bestSize 42 = .ok (.iload_n 1, 1) := by decide +kernel
theorem dX9_bestSize_43 : decode cX9_bestSize 43 = .ok (.iaload, 1) := by decide +kernel
theorem dX9_bestSize_44 : decode cX9_bestSize 44 = .ok (.aload_n 0, 1) := by decide +kernel
theorem dX9_bestSize_45 : decode cX9_bestSize 45 = .ok (.getfield 36, 3) := by decide +kernel
theorem dX9_bestSize_48 : decode cX9_bestSize 48 = .ok (.invokevirtual 195, 3) := by decide +kernel
theorem dX9_bestSize_51 : decode cX9_bestSize 51 = .ok (.aload_n 0, 1) := by decide +kernel
theorem dX9_bestSize_52 : decode cX9_bestSize 52 = .ok (.getfield 36, 3) := by decide +kernel
theorem dX9_bestSize_55 : decode cX9_bestSize 55 = .ok (.invokevirtual 203, 3) := by decide +kernel
theorem dX9_bestSize_58 : decode cX9_bestSize 58 = .ok (.ireturn, 1) := by decide +kernel
theorem dX9_check_0 : decode cX9_check 0 = .ok (.aload_n 0, 1) := by decide +kernel
theorem dX9_check_1 : decode cX9_check 1 = .ok (.iload_n 1, 1) := by decide +kernel
theorem dX9_check_2 : decode cX9_check 2 = .ok (.invokevirtual 94, 3) := by decide +kernel
theorem dX9_check_5 : decode cX9_check 5 = .ok (.aload_n 0, 1) := by decide +kernel
theorem dX9_check_6 : decode cX9_check 6 = .ok (.iload_n 2, 1) := by decide +kernel
theorem dX9_check_7 : decode cX9_check 7 = .ok (.invokevirtual 94, 3) := by decide +kernel
theorem dX9_check_10 : decode cX9_check 10 = .ok (.aload_n 0, 1) := by decide +kernel
theorem dX9_check_11 : decode cX9_check 11 = .ok (.iload_n 1, 1) := by decide +kernel
theorem dX9_check_12 : decode cX9_check 12 = .ok (.iload_n 2, 1) := by decide +kernel
theorem dX9_check_13 : decode cX9_check 13 = .ok (.invokevirtual 250, 3) := by decide +kernel
theorem dX9_check_16 : decode cX9_check 16 = .ok (.ireturn, 1) := by decide +kernel
theorem dX9_checked_0 : decode cX9_checked 0 = .ok (.aload_n 0, 1) := by decide +kernel
theorem dX9_checked_1 : decode cX9_checked 1 = .ok (.iload_n 1, 1) := by decide +kernel
theorem dX9_checked_2 : decode cX9_checked 2 = .ok (.iconst 0, 1) := by decide +kernel
theorem dX9_checked_3 : decode cX9_checked 3 = .ok (.iconst 4, 1) := by decide +kernel
theorem dX9_checked_4 : decode cX9_checked 4 = .ok (.invokevirtual 75, 3) := by decide +kernel
theorem dX9_checked_7 : decode cX9_checked 7 = .ok (.aload_n 0, 1) := by decide +kernel
theorem dX9_checked_8 : decode cX9_checked 8 = .ok (.iload_n 1, 1) := by decide +kernel
theorem dX9_checked_9 : decode cX9_checked 9 = .ok (.invokevirtual 253, 3) := by decide +kernel
theorem dX9_checked_12 : decode cX9_checked 12 = .ok (.ireturn, 1) := by decide +kernel
theorem dX9_send_0 : decode cX9_send 0 = .ok (.aload_n 0, 1) := by decide +kernel
theorem dX9_send_1 : decode cX9_send 1 = .ok (.iload_n 1, 1) := by decide +kernel
theorem dX9_send_2 : decode cX9_send 2 = .ok (.invokevirtual 94, 3) := by decide +kernel
theorem dX9_send_5 : decode cX9_send 5 = .ok (.aload_n 0, 1) := by decide +kernel
theorem dX9_send_6 : decode cX9_send 6 = .ok (.iload_n 2, 1) := by decide +kernel
theorem dX9_send_7 : decode cX9_send 7 = .ok (.invokevirtual 94, 3) := by decide +kernel
theorem dX9_send_10 : decode cX9_send 10 = .ok (.aload_n 0, 1) := by decide +kernel
theorem dX9_send_11 : decode cX9_send 11 = .ok (.getfield 57, 3) := by decide +kernel
theorem dX9_send_14 : decode cX9_send 14 = .ok (.aload_n 0, 1) := by decide +kernel
theorem dX9_send_15 : decode cX9_send 15 = .ok (.getfield 12, 3) := by decide +kernel
theorem dX9_send_18 : decode cX9_send 18 = .ok (.iload_n 1, 1) := by decide +kernel
theorem dX9_send_19 : decode cX9_send 19 = .ok (.iload_n 2, 1) := by decide +kernel
theorem dX9_send_20 : decode cX9_send 20 = .ok (.iconst (-1), 1) := by decide +kernel
theorem dX9_send_21 : decode cX9_send 21 = .ok (.invokevirtual 256, 3) := by decide +kernel
theorem dX9_send_24 : decode cX9_send 24 = .ok (.aload_n 0, 1) := by decide +kernel
theorem dX9_send_25 : decode cX9_send 25 = .ok (.getfield 57, 3) := by decide +kernel
theorem dX9_send_28 : decode cX9_send 28 = .ok (.getfield 260, 3) := by decide +kernel
theorem dX9_send_31 : decode cX9_send 31 = .ok (.ifCond .eq 13, 3) := by decide +kernel
theorem dX9_send_34 : decode cX9_send 34 = .ok (.aload_n 0, 1) := by decide +kernel
theorem dX9_send_35 : decode cX9_send 35 = .ok (.getfield 57, 3) := by decide +kernel
theorem dX9_send_38 : decode cX9_send 38 = .ok (.getfield 264, 3) := by decide +kernel
theorem dX9_send_41 : decode cX9_send 41 = .ok (.goto 4, 3) := by decide +kernel
theorem dX9_send_44 : decode cX9_send 44 = .ok (.iconst (-1), 1) := by decide +kernel
theorem dX9_send_45 : decode cX9_send 45 = .ok (.ireturn, 1) := by decide +kernel
theorem dX9_wayNode_0 : decode cX9_wayNode 0 = .ok (.aload_n 0, 1) := by decide +kernel
theorem dX9_wayNode_1 : decode cX9_wayNode 1 = .ok (.iload_n 1, 1) := by decide +kernel
theorem dX9_wayNode_2 : decode cX9_wayNode 2 = .ok (.invokevirtual 94, 3) := by decide +kernel
theorem dX9_wayNode_5 : decode cX9_wayNode 5 = .ok (.aload_n 0, 1) := by decide +kernel
theorem dX9_wayNode_6 : decode cX9_wayNode 6 = .ok (.iload_n 2, 1) := by decide +kernel
theorem dX9_wayNode_7 : decode cX9_wayNode 7 = .ok (.invokevirtual 94, 3) := by decide +kernel
theorem dX9_wayNode_10 : decode cX9_wayNode 10 = .ok (.iload_n 3, 1) := by decide +kernel
theorem dX9_wayNode_11 : decode cX9_wayNode 11 = .ok (.ifCond .ge 14, 3) := by decide +kernel
theorem dX9_wayNode_14 : decode cX9_wayNode 14 = .ok (.new 101, 3) := by decide +kernel
theorem dX9_wayNode_17 : decode cX9_wayNode 17 = .ok (.dup, 1) := by decide +kernel
theorem dX9_wayNode_18 : decode cX9_wayNode 18 = .ok (.ldc_w 267, 3) := by decide +kernel
theorem dX9_wayNode_21 : decode cX9_wayNode 21 = .ok (.invokespecial 105, 3) := by decide +kernel
theorem dX9_wayNode_24 : decode cX9_wayNode 24 = .ok (.athrow, 1) := by decide +kernel
theorem dX9_wayNode_25 : decode cX9_wayNode 25 = .ok (.aload_n 0, 1) := by decide +kernel
theorem dX9_wayNode_26 : decode cX9_wayNode 26 = .ok (.getfield 57, 3) := by decide +kernel
theorem dX9_wayNode_29 : decode cX9_wayNode 29 = .ok (.aload_n 0, 1) := by decide +kernel
theorem dX9_wayNode_30 : decode cX9_wayNode 30 = .ok (.getfield 12, 3) := by decide +kernel
theorem dX9_wayNode_33 : decode cX9_wayNode 33 = .ok (.iload_n 1, 1) := by decide +kernel
theorem dX9_wayNode_34 : decode cX9_wayNode 34 = .ok (.iload_n 2, 1) := by decide +kernel
theorem dX9_wayNode_35 : decode cX9_wayNode 35 = .ok (.iconst (-1), 1) := by decide +kernel
theorem dX9_wayNode_36 : decode cX9_wayNode 36 = .ok (.invokevirtual 256, 3) := by decide +kernel
theorem dX9_wayNode_39 : decode cX9_wayNode 39 = .ok (.iload_n 3, 1) := by decide +kernel
theorem dX9_wayNode_40 : decode cX9_wayNode 40 = .ok (.aload_n 0, 1) := by decide +kernel
theorem dX9_wayNode_41 : decode cX9_wayNode 41 = .ok (.getfield 57, 3) := by decide +kernel
theorem dX9_wayNode_44 : decode cX9_wayNode 44 = .ok (.getfield 269, 3) := by decide +kernel
theorem dX9_wayNode_47 : decode cX9_wayNode 47 = .ok (.if_icmp .ge 15, 3) := by decide +kernel
theorem dX9_wayNode_50 : decode cX9_wayNode 50 = .ok (.aload_n 0, 1) := by decide +kernel
theorem dX9_wayNode_51 : decode cX9_wayNode 51 = .ok (.getfield 57, 3) := by decide +kernel
theorem dX9_wayNode_54 : decode cX9_wayNode 54 = .ok (.getfield 272, 3) := by decide +kernel
theorem dX9_wayNode_57 : decode cX9_wayNode 57 = .ok (.iload_n 3, 1) := by decide +kernel
theorem dX9_wayNode_58 : decode cX9_wayNode 58 = .ok (.iaload, 1) := by decide +kernel
theorem dX9_wayNode_59 : decode cX9_wayNode 59 = .ok (.goto 4, 3) := by decide +kernel
theorem dX9_wayNode_62 : decode cX9_wayNode 62 = .ok (.iconst (-1), 1) := by decide +kernel
theorem dX9_wayNode_63 : decode cX9_wayNode 63 = .ok (.ireturn, 1) := by decide +kernel
theorem dX9_arriving_0 : decode cX9_arriving 0 = .ok (.iconst 0, 1) := by decide +kernel
theorem dX9_arriving_1 : decode cX9_arriving 1 = .ok (.istore_n 1, 1) := by decide +kernel
theorem dX9_arriving_2 : decode cX9_arriving 2 = .ok (.iconst 0, 1) := by decide +kernel
theorem dX9_arriving_3 : decode cX9_arriving 3 = .ok (.istore_n 2, 1) := by decide +kernel
theorem dX9_arriving_4 : decode cX9_arriving 4 = .ok (.iload_n 2, 1) := by decide +kernel
theorem dX9_arriving_5 : decode cX9_arriving 5 = .ok (.aload_n 0, 1) := by decide +kernel
theorem dX9_arriving_6 : decode cX9_arriving 6 = .ok (.getfield 12, 3) := by decide +kernel
theorem dX9_arriving_9 : decode cX9_arriving 9 = .ok (.getfield 126, 3) := by decide +kernel
theorem dX9_arriving_12 : decode cX9_arriving 12 = .ok (.if_icmp .ge 46, 3) := by decide +kernel
theorem dX9_arriving_15 : decode cX9_arriving 15 = .ok (.iconst 0, 1) := by decide +kernel
theorem dX9_arriving_16 : decode cX9_arriving 16 = .ok (.istore_n 3, 1) := by decide +kernel
theorem dX9_arriving_17 : decode cX9_arriving 17 = .ok (.iload_n 3, 1) := by decide +kernel
theorem dX9_arriving_18 : decode cX9_arriving 18 = .ok (.aload_n 0, 1) := by decide +kernel
theorem dX9_arriving_19 : decode cX9_arriving 19 = .ok (.getfield 12, 3) := by decide +kernel
theorem dX9_arriving_22 : decode cX9_arriving 22 = .ok (.getfield 126, 3) := by decide +kernel
theorem dX9_arriving_25 : decode cX9_arriving 25 = .ok (.if_icmp .ge 27, 3) := by decide +kernel
theorem dX9_arriving_28 : decode cX9_arriving 28 = .ok (.iload_n 2, 1) := by decide +kernel
theorem dX9_arriving_29 : decode cX9_arriving 29 = .ok (.iload_n 3, 1) := by decide +kernel
theorem dX9_arriving_30 : decode cX9_arriving 30 = .ok (.if_icmp .eq 16, 3) := by decide +kernel
theorem dX9_arriving_33 : decode cX9_arriving 33 = .ok (.aload_n 0, 1) := by decide +kernel
theorem dX9_arriving_34 : decode cX9_arriving 34 = .ok (.iload_n 2, 1) := by decide +kernel
theorem dX9_arriving_35 : decode cX9_arriving 35 = .ok (.iload_n 3, 1) := by decide +kernel
theorem dX9_arriving_36 : decode cX9_arriving 36 = .ok (.iconst (-1), 1) := by decide +kernel
theorem dX9_arriving_37 : decode cX9_arriving 37 = .ok (.invokevirtual 275, 3) := by decide +kernel
theorem dX9_arriving_40 : decode cX9_arriving 40 = .ok (.ifCond .eq 6, 3) := by decide +kernel
theorem dX9_arriving_43 : decode cX9_arriving 43 = .ok (.iinc 1 1, 3) := by decide +kernel
theorem dX9_arriving_46 : decode cX9_arriving 46 = .ok (.iinc 3 1, 3) := by decide +kernel
theorem dX9_arriving_49 : decode cX9_arriving 49 = .ok (.goto (-32), 3) := by decide +kernel
theorem dX9_arriving_52 : decode cX9_arriving 52 = .ok (.iinc 2 1, 3) := by decide +kernel
theorem dX9_arriving_55 : decode cX9_arriving 55 = .ok (.goto (-51), 3) := by decide +kernel
theorem dX9_arriving_58 : decode cX9_arriving 58 = .ok (.iload_n 1, 1) := by decide +kernel
theorem dX9_arriving_59 : decode cX9_arriving 59 = .ok (.ireturn, 1) := by decide +kernel
theorem dX9_stretch_0 : decode cX9_stretch 0 = .ok (.dconst 0, 1) := by decide +kernel
theorem dX9_stretch_1 : decode cX9_stretch 1 = .ok (.dstore_n 1, 1) := by decide +kernel
theorem dX9_stretch_2 : decode cX9_stretch 2 = .ok (.iconst 0, 1) := by decide +kernel
theorem dX9_stretch_3 : decode cX9_stretch 3 = .ok (.istore_n 3, 1) := by decide +kernel
theorem dX9_stretch_4 : decode cX9_stretch 4 = .ok (.iload_n 3, 1) := by decide +kernel
theorem dX9_stretch_5 : decode cX9_stretch 5 = .ok (.aload_n 0, 1) := by decide +kernel
theorem dX9_stretch_6 : decode cX9_stretch 6 = .ok (.getfield 12, 3) := by decide +kernel
theorem dX9_stretch_9 : decode cX9_stretch 9 = .ok (.getfield 126, 3) := by decide +kernel
theorem dX9_stretch_12 : decode cX9_stretch 12 = .ok (.if_icmp .ge 86, 3) := by decide +kernel
theorem dX9_stretch_15 : decode cX9_stretch 15 = .ok (.iconst 0, 1) := by decide +kernel
theorem dX9_stretch_16 : decode cX9_stretch 16 = .ok (.istore 4, 2) := by decide +kernel
theorem dX9_stretch_18 : decode cX9_stretch 18 = .ok (.iload 4, 2) := by decide +kernel
theorem dX9_stretch_20 : decode cX9_stretch 20 = .ok (.aload_n 0, 1) := by decide +kernel
theorem dX9_stretch_21 : decode cX9_stretch 21 = .ok (.getfield 12, 3) := by decide +kernel
theorem dX9_stretch_24 : decode cX9_stretch 24 = .ok (.getfield 126, 3) := by decide +kernel
theorem dX9_stretch_27 : decode cX9_stretch 27 = .ok (.if_icmp .ge 65, 3) := by decide +kernel
theorem dX9_stretch_30 : decode cX9_stretch 30 = .ok (.aload_n 0, 1) := by decide +kernel
theorem dX9_stretch_31 : decode cX9_stretch 31 = .ok (.getfield 29, 3) := by decide +kernel
theorem dX9_stretch_34 : decode cX9_stretch 34 = .ok (.iload_n 3, 1) := by decide +kernel
theorem dX9_stretch_35 : decode cX9_stretch 35 = .ok (.iload 4, 2) := by decide +kernel
theorem dX9_stretch_37 : decode cX9_stretch 37 = .ok (.invokevirtual 133, 3) := by decide +kernel
theorem dX9_stretch_40 : decode cX9_stretch 40 = .ok (.istore 5, 2) := by decide +kernel
theorem dX9_stretch_42 : decode cX9_stretch 42 = .ok (.iload 5, 2) := by decide +kernel
theorem dX9_stretch_44 : decode cX9_stretch 44 = .ok (.ifCond .le 42, 3) := by decide +kernel
theorem dX9_stretch_47 : decode cX9_stretch 47 = .ok (.aload_n 0, 1) := by decide +kernel
theorem dX9_stretch_48 : decode cX9_stretch 48 = .ok (.iload_n 3, 1) := by decide +kernel
theorem dX9_stretch_49 : decode cX9_stretch 49 = .ok (.iload 4, 2) := by decide +kernel
theorem dX9_stretch_51 : decode cX9_stretch 51 = .ok (.iconst (-1), 1) := by decide +kernel
theorem dX9_stretch_52 : decode cX9_stretch 52 = .ok (.invokevirtual 275, 3) := by decide +kernel
theorem dX9_stretch_55 : decode cX9_stretch 55 = .ok (.ifCond .eq 31, 3) := by decide +kernel
theorem dX9_stretch_58 : decode cX9_stretch 58 = .ok (.aload_n 0, 1) := by decide +kernel
theorem dX9_stretch_59 : decode cX9_stretch 59 = .ok (.getfield 57, 3) := by decide +kernel
theorem dX9_stretch_62 : decode cX9_stretch 62 = .ok (.getfield 264, 3) := by decide +kernel
theorem dX9_stretch_65 : decode cX9_stretch 65 = .ok (.i2d, 1) := by decide +kernel
theorem dX9_stretch_66 : decode cX9_stretch 66 = .ok (.iload 5, 2) := by decide +kernel
theorem dX9_stretch_68 : decode cX9_stretch 68 = .ok (.i2d, 1) := by decide +kernel
theorem dX9_stretch_69 : decode cX9_stretch 69 = .ok (.ddiv, 1) := by decide +kernel
theorem dX9_stretch_70 : decode cX9_stretch 70 = .ok (.dstore 6, 2) := by decide +kernel
theorem dX9_stretch_72 : decode cX9_stretch 72 = .ok (.dload 6, 2) := by decide +kernel
theorem dX9_stretch_74 : decode cX9_stretch 74 = .ok (.dload_n 1, 1) := by decide +kernel
theorem dX9_stretch_75 : decode cX9_stretch 75 = .ok (.dcmp .l, 1) := by decide +kernel
theorem dX9_stretch_76 : decode cX9_stretch 76 = .ok (.ifCond .le 8, 3) := by decide +kernel
theorem dX9_stretch_79 : decode cX9_stretch 79 = .ok (.dload 6, 2) := by decide +kernel
theorem dX9_stretch_81 : decode cX9_stretch 81 = .ok (.goto 4, 3) := by decide +kernel
theorem dX9_stretch_84 : decode cX9_stretch 84 = .ok (.dload_n 1, 1) := by decide +kernel
theorem dX9_stretch_85 : decode cX9_stretch 85 = .ok (.dstore_n 1, 1) := by decide +kernel
theorem dX9_stretch_86 : decode cX9_stretch 86 = .ok (.iinc 4 1, 3) := by decide +kernel
theorem dX9_stretch_89 : decode cX9_stretch 89 = .ok (.goto (-71), 3) := by decide +kernel
theorem dX9_stretch_92 : decode cX9_stretch 92 = .ok (.iinc 3 1, 3) := by decide +kernel
theorem dX9_stretch_95 : decode cX9_stretch 95 = .ok (.goto (-91), 3) := by decide +kernel
theorem dX9_stretch_98 : decode cX9_stretch 98 = .ok (.dload_n 1, 1) := by decide +kernel
theorem dX9_stretch_99 : decode cX9_stretch 99 = .ok (.dreturn, 1) := by decide +kernel
theorem dX9_load_0 : decode cX9_load 0 = .ok (.aload_n 0, 1) := by decide +kernel
theorem dX9_load_1 : decode cX9_load 1 = .ok (.iload_n 1, 1) := by decide +kernel
theorem dX9_load_2 : decode cX9_load 2 = .ok (.invokevirtual 116, 3) := by decide +kernel
theorem dX9_load_5 : decode cX9_load 5 = .ok (.iconst 0, 1) := by decide +kernel
theorem dX9_load_6 : decode cX9_load 6 = .ok (.istore_n 2, 1) := by decide +kernel
theorem dX9_load_7 : decode cX9_load 7 = .ok (.iconst 0, 1) := by decide +kernel
theorem dX9_load_8 : decode cX9_load 8 = .ok (.istore_n 3, 1) := by decide +kernel
theorem dX9_load_9 : decode cX9_load 9 = .ok (.iload_n 3, 1) := by decide +kernel
theorem dX9_load_10 : decode cX9_load 10 = .ok (.aload_n 0, 1) := by decide +kernel
theorem dX9_load_11 : decode cX9_load 11 = .ok (.getfield 12, 3) := by decide +kernel
theorem dX9_load_14 : decode cX9_load 14 = .ok (.getfield 126, 3) := by decide +kernel
theorem dX9_load_17 : decode cX9_load 17 = .ok (.if_icmp .ge 61, 3) := by decide +kernel
theorem dX9_load_20 : decode cX9_load 20 = .ok (.iconst 0, 1) := by decide +kernel
theorem dX9_load_21 : decode cX9_load 21 = .ok (.istore 4, 2) := by decide +kernel
theorem dX9_load_23 : decode cX9_load 23 = .ok (.iload 4, 2) := by decide +kernel
