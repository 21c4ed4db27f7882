theorem dX10_kind_22 : decode cX10_kind 22 = .ok (.iconst 0, 1) := by decide +kernel
theorem dX10_kind_23 : decode cX10_kind 23 = .ok (.istore_n 1, 1) := by decide +kernel
theorem dX10_kind_24 : decode cX10_kind 24 = .ok (.aload_n 0, 1) := by decide +kernel
theorem dX10_kind_25 : decode cX10_kind 25 = .ok (.getfield 7, 3) := by decide +kernel
theorem dX10_kind_28 : decode cX10_kind 28 = .ok (.iconst 0, 1) := by decide +kernel
theorem dX10_kind_29 : decode cX10_kind 29 = .ok (.iaload, 1) := by decide +kernel
theorem dX10_kind_30 : decode cX10_kind 30 = .ok (.iconst 2, 1) := by decide +kernel
theorem dX10_kind_31 : decode cX10_kind 31 = .ok (.if_icmp .le 7, 3) := by decide +kernel
theorem dX10_kind_34 : decode cX10_kind 34 = .ok (.iconst 1, 1) := by decide +kernel
theorem dX10_kind_35 : decode cX10_kind 35 = .ok (.goto 4, 3) := by decide +kernel
theorem dX10_kind_38 : decode cX10_kind 38 = .ok (.iconst 0, 1) := by decide +kernel
theorem dX10_kind_39 : decode cX10_kind 39 = .ok (.istore_n 2, 1) := by decide +kernel
theorem dX10_kind_40 : decode cX10_kind 40 = .ok (.iconst 0, 1) := by decide +kernel
theorem dX10_kind_41 : decode cX10_kind 41 = .ok (.istore_n 3, 1) := by decide +kernel
theorem dX10_kind_42 : decode cX10_kind 42 = .ok (.iload_n 3, 1) := by decide +kernel
theorem dX10_kind_43 : decode cX10_kind 43 = .ok (.aload_n 0, 1) := by decide +kernel
theorem dX10_kind_44 : decode cX10_kind 44 = .ok (.getfield 7, 3) := by decide +kernel
theorem dX10_kind_47 : decode cX10_kind 47 = .ok (.iconst 0, 1) := by decide +kernel
theorem dX10_kind_48 : decode cX10_kind 48 = .ok (.iaload, 1) := by decide +kernel
theorem dX10_kind_49 : decode cX10_kind 49 = .ok (.if_icmp .ge 50, 3) := by decide +kernel
theorem dX10_kind_52 : decode cX10_kind 52 = .ok (.iload_n 1, 1) := by decide +kernel
theorem dX10_kind_53 : decode cX10_kind 53 = .ok (.ifCond .eq 19, 3) := by decide +kernel
theorem dX10_kind_56 : decode cX10_kind 56 = .ok (.aload_n 0, 1) := by decide +kernel
theorem dX10_kind_57 : decode cX10_kind 57 = .ok (.iconst 0, 1) := by decide +kernel
theorem dX10_kind_58 : decode cX10_kind 58 = .ok (.iload_n 3, 1) := by decide +kernel
theorem dX10_kind_59 : decode cX10_kind 59 = .ok (.invokevirtual 104, 3) := by decide +kernel
theorem dX10_kind_62 : decode cX10_kind 62 = .ok (.sipush 1000, 3) := by decide +kernel
theorem dX10_kind_65 : decode cX10_kind 65 = .ok (.if_icmp .ge 7, 3) := by decide +kernel
theorem dX10_kind_68 : decode cX10_kind 68 = .ok (.iconst 1, 1) := by decide +kernel
theorem dX10_kind_69 : decode cX10_kind 69 = .ok (.goto 4, 3) := by decide +kernel
theorem dX10_kind_72 : decode cX10_kind 72 = .ok (.iconst 0, 1) := by decide +kernel
theorem dX10_kind_73 : decode cX10_kind 73 = .ok (.istore_n 1, 1) := by decide +kernel
theorem dX10_kind_74 : decode cX10_kind 74 = .ok (.iload_n 2, 1) := by decide +kernel
theorem dX10_kind_75 : decode cX10_kind 75 = .ok (.ifCond .eq 16, 3) := by decide +kernel
theorem dX10_kind_78 : decode cX10_kind 78 = .ok (.aload_n 0, 1) := by decide +kernel
theorem dX10_kind_79 : decode cX10_kind 79 = .ok (.iload_n 3, 1) := by decide +kernel
theorem dX10_kind_80 : decode cX10_kind 80 = .ok (.invokevirtual 113, 3) := by decide +kernel
theorem dX10_kind_83 : decode cX10_kind 83 = .ok (.iconst 2, 1) := by decide +kernel
theorem dX10_kind_84 : decode cX10_kind 84 = .ok (.if_icmp .ne 7, 3) := by decide +kernel
theorem dX10_kind_87 : decode cX10_kind 87 = .ok (.iconst 1, 1) := by decide +kernel
theorem dX10_kind_88 : decode cX10_kind 88 = .ok (.goto 4, 3) := by decide +kernel
theorem dX10_kind_91 : decode cX10_kind 91 = .ok (.iconst 0, 1) := by decide +kernel
theorem dX10_kind_92 : decode cX10_kind 92 = .ok (.istore_n 2, 1) := by decide +kernel
theorem dX10_kind_93 : decode cX10_kind 93 = .ok (.iinc 3 1, 3) := by decide +kernel
theorem dX10_kind_96 : decode cX10_kind 96 = .ok (.goto (-54), 3) := by decide +kernel
theorem dX10_kind_99 : decode cX10_kind 99 = .ok (.iload_n 1, 1) := by decide +kernel
theorem dX10_kind_100 : decode cX10_kind 100 = .ok (.ifCond .ne 7, 3) := by decide +kernel
theorem dX10_kind_103 : decode cX10_kind 103 = .ok (.iconst 0, 1) := by decide +kernel
theorem dX10_kind_104 : decode cX10_kind 104 = .ok (.goto 33, 3) := by decide +kernel
theorem dX10_kind_107 : decode cX10_kind 107 = .ok (.aload_n 0, 1) := by decide +kernel
theorem dX10_kind_108 : decode cX10_kind 108 = .ok (.getfield 7, 3) := by decide +kernel
theorem dX10_kind_111 : decode cX10_kind 111 = .ok (.iconst 1, 1) := by decide +kernel
theorem dX10_kind_112 : decode cX10_kind 112 = .ok (.iaload, 1) := by decide +kernel
theorem dX10_kind_113 : decode cX10_kind 113 = .ok (.aload_n 0, 1) := by decide +kernel
theorem dX10_kind_114 : decode cX10_kind 114 = .ok (.getfield 7, 3) := by decide +kernel
theorem dX10_kind_117 : decode cX10_kind 117 = .ok (.iconst 0, 1) := by decide +kernel
theorem dX10_kind_118 : decode cX10_kind 118 = .ok (.iaload, 1) := by decide +kernel
theorem dX10_kind_119 : decode cX10_kind 119 = .ok (.iconst 1, 1) := by decide +kernel
theorem dX10_kind_120 : decode cX10_kind 120 = .ok (.isub, 1) := by decide +kernel
theorem dX10_kind_121 : decode cX10_kind 121 = .ok (.if_icmp .ne 7, 3) := by decide +kernel
theorem dX10_kind_124 : decode cX10_kind 124 = .ok (.iconst 1, 1) := by decide +kernel
theorem dX10_kind_125 : decode cX10_kind 125 = .ok (.goto 12, 3) := by decide +kernel
theorem dX10_kind_128 : decode cX10_kind 128 = .ok (.iload_n 2, 1) := by decide +kernel
theorem dX10_kind_129 : decode cX10_kind 129 = .ok (.ifCond .eq 7, 3) := by decide +kernel
theorem dX10_kind_132 : decode cX10_kind 132 = .ok (.iconst 2, 1) := by decide +kernel
theorem dX10_kind_133 : decode cX10_kind 133 = .ok (.goto 4, 3) := by decide +kernel
theorem dX10_kind_136 : decode cX10_kind 136 = .ok (.iconst 3, 1) := by decide +kernel
theorem dX10_kind_137 : decode cX10_kind 137 = .ok (.ireturn, 1) := by decide +kernel
theorem dX10_label_0 : decode cX10_label 0 = .ok (.aload_n 0, 1) := by decide +kernel
theorem dX10_label_1 : decode cX10_label 1 = .ok (.aload_n 0, 1) := by decide +kernel
theorem dX10_label_2 : decode cX10_label 2 = .ok (.iload_n 1, 1) := by decide +kernel
theorem dX10_label_3 : decode cX10_label 3 = .ok (.invokevirtual 85, 3) := by decide +kernel
theorem dX10_label_6 : decode cX10_label 6 = .ok (.ifCond .eq 7, 3) := by decide +kernel
theorem dX10_label_9 : decode cX10_label 9 = .ok (.iconst 0, 1) := by decide +kernel
theorem dX10_label_10 : decode cX10_label 10 = .ok (.goto 4, 3) := by decide +kernel
theorem dX10_label_13 : decode cX10_label 13 = .ok (.iconst 1, 1) := by decide +kernel
theorem dX10_label_14 : decode cX10_label 14 = .ok (.invokevirtual 67, 3) := by decide +kernel
theorem dX10_label_17 : decode cX10_label 17 = .ok (.ifCond .eq 7, 3) := by decide +kernel
theorem dX10_label_20 : decode cX10_label 20 = .ok (.iconst 0, 1) := by decide +kernel
theorem dX10_label_21 : decode cX10_label 21 = .ok (.goto 12, 3) := by decide +kernel
theorem dX10_label_24 : decode cX10_label 24 = .ok (.aload_n 0, 1) := by decide +kernel
theorem dX10_label_25 : decode cX10_label 25 = .ok (.getfield 7, 3) := by decide +kernel
theorem dX10_label_28 : decode cX10_label 28 = .ok (.bipush 50, 2) := by decide +kernel
theorem dX10_label_30 : decode cX10_label 30 = .ok (.iload_n 1, 1) := by decide +kernel
theorem dX10_label_31 : decode cX10_label 31 = .ok (.iadd, 1) := by decide +kernel
theorem dX10_label_32 : decode cX10_label 32 = .ok (.iaload, 1) := by decide +kernel
theorem dX10_label_33 : decode cX10_label 33 = .ok (.ireturn, 1) := by decide +kernel
theorem dX10_nodeOf_0 : decode cX10_nodeOf 0 = .ok (.iconst 0, 1) := by decide +kernel
theorem dX10_nodeOf_1 : decode cX10_nodeOf 1 = .ok (.istore_n 2, 1) := by decide +kernel
theorem dX10_nodeOf_2 : decode cX10_nodeOf 2 = .ok (.aload_n 0, 1) := by decide +kernel
theorem dX10_nodeOf_3 : decode cX10_nodeOf 3 = .ok (.getfield 7, 3) := by decide +kernel
theorem dX10_nodeOf_6 : decode cX10_nodeOf 6 = .ok (.bipush 50, 2) := by decide +kernel
theorem dX10_nodeOf_8 : decode cX10_nodeOf 8 = .ok (.iload_n 2, 1) := by decide +kernel
theorem dX10_nodeOf_9 : decode cX10_nodeOf 9 = .ok (.iadd, 1) := by decide +kernel
theorem dX10_nodeOf_10 : decode cX10_nodeOf 10 = .ok (.iaload, 1) := by decide +kernel
theorem dX10_nodeOf_11 : decode cX10_nodeOf 11 = .ok (.iload_n 1, 1) := by decide +kernel
theorem dX10_nodeOf_12 : decode cX10_nodeOf 12 = .ok (.if_icmp .eq 9, 3) := by decide +kernel
theorem dX10_nodeOf_15 : decode cX10_nodeOf 15 = .ok (.iinc 2 1, 3) := by decide +kernel
theorem dX10_nodeOf_18 : decode cX10_nodeOf 18 = .ok (.goto (-16), 3) := by decide +kernel
theorem dX10_nodeOf_21 : decode cX10_nodeOf 21 = .ok (.iload_n 2, 1) := by decide +kernel
theorem dX10_nodeOf_22 : decode cX10_nodeOf 22 = .ok (.ireturn, 1) := by decide +kernel
theorem dX10_nodeWith_0 : decode cX10_nodeWith 0 = .ok (.aload_n 0, 1) := by decide +kernel
theorem dX10_nodeWith_1 : decode cX10_nodeWith 1 = .ok (.aload_n 0, 1) := by decide +kernel
theorem dX10_nodeWith_2 : decode cX10_nodeWith 2 = .ok (.iload_n 1, 1) := by decide +kernel
theorem dX10_nodeWith_3 : decode cX10_nodeWith 3 = .ok (.invokevirtual 85, 3) := by decide +kernel
theorem dX10_nodeWith_6 : decode cX10_nodeWith 6 = .ok (.ifCond .eq 7, 3) := by decide +kernel
theorem dX10_nodeWith_9 : decode cX10_nodeWith 9 = .ok (.iconst 0, 1) := by decide +kernel
theorem dX10_nodeWith_10 : decode cX10_nodeWith 10 = .ok (.goto 4, 3) := by decide +kernel
theorem dX10_nodeWith_13 : decode cX10_nodeWith 13 = .ok (.iconst 1, 1) := by decide +kernel
theorem dX10_nodeWith_14 : decode cX10_nodeWith 14 = .ok (.invokevirtual 67, 3) := by decide +kernel
theorem dX10_nodeWith_17 : decode cX10_nodeWith 17 = .ok (.ifCond .eq 7, 3) := by decide +kernel
theorem dX10_nodeWith_20 : decode cX10_nodeWith 20 = .ok (.iconst 0, 1) := by decide +kernel
theorem dX10_nodeWith_21 : decode cX10_nodeWith 21 = .ok (.goto 8, 3) := by decide +kernel
theorem dX10_nodeWith_24 : decode cX10_nodeWith 24 = .ok (.aload_n 0, 1) := by decide +kernel
theorem dX10_nodeWith_25 : decode cX10_nodeWith 25 = .ok (.iload_n 1, 1) := by decide +kernel
theorem dX10_nodeWith_26 : decode cX10_nodeWith 26 = .ok (.invokevirtual 117, 3) := by decide +kernel
theorem dX10_nodeWith_29 : decode cX10_nodeWith 29 = .ok (.ireturn, 1) := by decide +kernel
theorem dX10_visits_0 : decode cX10_visits 0 = .ok (.iconst 1, 1) := by decide +kernel
theorem dX10_visits_1 : decode cX10_visits 1 = .ok (.iload_n 1, 1) := by decide +kernel
theorem dX10_visits_2 : decode cX10_visits 2 = .ok (.ishl, 1) := by decide +kernel
theorem dX10_visits_3 : decode cX10_visits 3 = .ok (.istore_n 2, 1) := by decide +kernel
theorem dX10_visits_4 : decode cX10_visits 4 = .ok (.iconst 1, 1) := by decide +kernel
theorem dX10_visits_5 : decode cX10_visits 5 = .ok (.istore_n 3, 1) := by decide +kernel
theorem dX10_visits_6 : decode cX10_visits 6 = .ok (.iconst 1, 1) := by decide +kernel
theorem dX10_visits_7 : decode cX10_visits 7 = .ok (.istore 4, 2) := by decide +kernel
theorem dX10_visits_9 : decode cX10_visits 9 = .ok (.aload_n 0, 1) := by decide +kernel
theorem dX10_visits_10 : decode cX10_visits 10 = .ok (.getfield 22, 3) := by decide +kernel
theorem dX10_visits_13 : decode cX10_visits 13 = .ok (.iconst 0, 1) := by decide +kernel
theorem dX10_visits_14 : decode cX10_visits 14 = .ok (.iload_n 1, 1) := by decide +kernel
theorem dX10_visits_15 : decode cX10_visits 15 = .ok (.iastore, 1) := by decide +kernel
theorem dX10_visits_16 : decode cX10_visits 16 = .ok (.aload_n 0, 1) := by decide +kernel
theorem dX10_visits_17 : decode cX10_visits 17 = .ok (.getfield 7, 3) := by decide +kernel
theorem dX10_visits_20 : decode cX10_visits 20 = .ok (.bipush 50, 2) := by decide +kernel
theorem dX10_visits_22 : decode cX10_visits 22 = .ok (.iload_n 1, 1) := by decide +kernel
theorem dX10_visits_23 : decode cX10_visits 23 = .ok (.iadd, 1) := by decide +kernel
theorem dX10_visits_24 : decode cX10_visits 24 = .ok (.iconst 0, 1) := by decide +kernel
theorem dX10_visits_25 : decode cX10_visits 25 = .ok (.iastore, 1) := by decide +kernel
theorem dX10_visits_26 : decode cX10_visits 26 = .ok (.iload 4, 2) := by decide +kernel
theorem dX10_visits_28 : decode cX10_visits 28 = .ok (.ifCond .le 127, 3) := by decide +kernel
theorem dX10_visits_31 : decode cX10_visits 31 = .ok (.aload_n 0, 1) := by decide +kernel
theorem dX10_visits_32 : decode cX10_visits 32 = .ok (.getfield 22, 3) := by decide +kernel
theorem dX10_visits_35 : decode cX10_visits 35 = .ok (.iload 4, 2) := by decide +kernel
theorem dX10_visits_37 : decode cX10_visits 37 = .ok (.iconst 1, 1) := by decide +kernel
theorem dX10_visits_38 : decode cX10_visits 38 = .ok (.isub, 1) := by decide +kernel
theorem dX10_visits_39 : decode cX10_visits 39 = .ok (.iaload, 1) := by decide +kernel
theorem dX10_visits_40 : decode cX10_visits 40 = .ok (.istore 5, 2) := by decide +kernel
theorem dX10_visits_42 : decode cX10_visits 42 = .ok (.iconst (-1), 1) := by decide +kernel
theorem dX10_visits_43 : decode cX10_visits 43 = .ok (.istore 6, 2) := by decide +kernel
theorem dX10_visits_45 : decode cX10_visits 45 = .ok (.aload_n 0, 1) := by decide +kernel
theorem dX10_visits_46 : decode cX10_visits 46 = .ok (.getfield 7, 3) := by decide +kernel
theorem dX10_visits_49 : decode cX10_visits 49 = .ok (.iconst 1, 1) := by decide +kernel
theorem dX10_visits_50 : decode cX10_visits 50 = .ok (.iaload, 1) := by decide +kernel
theorem dX10_visits_51 : decode cX10_visits 51 = .ok (.iconst 1, 1) := by decide +kernel
theorem dX10_visits_52 : decode cX10_visits 52 = .ok (.isub, 1) := by decide +kernel
theorem dX10_visits_53 : decode cX10_visits 53 = .ok (.istore 7, 2) := by decide +kernel
theorem dX10_visits_55 : decode cX10_visits 55 = .ok (.iload 7, 2) := by decide +kernel
theorem dX10_visits_57 : decode cX10_visits 57 = .ok (.ifCond .lt 50, 3) := by decide +kernel
theorem dX10_visits_60 : decode cX10_visits 60 = .ok (.aload_n 0, 1) := by decide +kernel
theorem dX10_visits_61 : decode cX10_visits 61 = .ok (.iload 7, 2) := by decide +kernel
theorem dX10_visits_63 : decode cX10_visits 63 = .ok (.iload 5, 2) := by decide +kernel
theorem dX10_visits_65 : decode cX10_visits 65 = .ok (.invokevirtual 81, 3) := by decide +kernel
theorem dX10_visits_68 : decode cX10_visits 68 = .ok (.ifCond .eq 29, 3) := by decide +kernel
theorem dX10_visits_71 : decode cX10_visits 71 = .ok (.iload_n 2, 1) := by decide +kernel
theorem dX10_visits_72 : decode cX10_visits 72 = .ok (.aload_n 0, 1) := by decide +kernel
theorem dX10_visits_73 : decode cX10_visits 73 = .ok (.iload 7, 2) := by decide +kernel
theorem dX10_visits_75 : decode cX10_visits 75 = .ok (.iload 5, 2) := by decide +kernel
theorem dX10_visits_77 : decode cX10_visits 77 = .ok (.invokevirtual 107, 3) := by decide +kernel
theorem dX10_visits_80 : decode cX10_visits 80 = .ok (.invokestatic 120, 3) := by decide +kernel
theorem dX10_visits_83 : decode cX10_visits 83 = .ok (.ifCond .ne 14, 3) := by decide +kernel
theorem dX10_visits_86 : decode cX10_visits 86 = .ok (.aload_n 0, 1) := by decide +kernel
theorem dX10_visits_87 : decode cX10_visits 87 = .ok (.iload 7, 2) := by decide +kernel
theorem dX10_visits_89 : decode cX10_visits 89 = .ok (.iload 5, 2) := by decide +kernel
theorem dX10_visits_91 : decode cX10_visits 91 = .ok (.invokevirtual 107, 3) := by decide +kernel
theorem dX10_visits_94 : decode cX10_visits 94 = .ok (.goto 5, 3) := by decide +kernel
theorem dX10_visits_97 : decode cX10_visits 97 = .ok (.iload 6, 2) := by decide +kernel
theorem dX10_visits_99 : decode cX10_visits 99 = .ok (.istore 6, 2) := by decide +kernel
theorem dX10_visits_101 : decode cX10_visits 101 = .ok (.iinc 7 (-1), 3) := by decide +kernel
theorem dX10_visits_104 : decode cX10_visits 104 = .ok (.goto (-49), 3) := by decide +kernel
theorem dX10_visits_107 : decode cX10_visits 107 = .ok (.iload 6, 2) := by decide +kernel
theorem dX10_visits_109 : decode cX10_visits 109 = .ok (.iconst (-1), 1) := by decide +kernel
theorem dX10_visits_110 : decode cX10_visits 110 = .ok (.if_icmp .ne 9, 3) := by decide +kernel
theorem dX10_visits_113 : decode cX10_visits 113 = .ok (.iinc 4 (-1), 3) := by decide +kernel
theorem dX10_visits_116 : decode cX10_visits 116 = .ok (.goto 36, 3) := by decide +kernel
theorem dX10_visits_119 : decode cX10_visits 119 = .ok (.iload_n 2, 1) := by decide +kernel
theorem dX10_visits_120 : decode cX10_visits 120 = .ok (.iconst 1, 1) := by decide +kernel
theorem dX10_visits_121 : decode cX10_visits 121 = .ok (.iload 6, 2) := by decide +kernel
theorem dX10_visits_123 : decode cX10_visits 123 = .ok (.ishl, 1) := by decide +kernel
theorem dX10_visits_124 : decode cX10_visits 124 = .ok (.ior, 1) := by decide +kernel
theorem dX10_visits_125 : decode cX10_visits 125 = .ok (.istore_n 2, 1) := by decide +kernel
theorem dX10_visits_126 : decode cX10_visits 126 = .ok (.aload_n 0, 1) := by decide +kernel
theorem dX10_visits_127 : decode cX10_visits 127 = .ok (.getfield 7, 3) := by decide +kernel
theorem dX10_visits_130 : decode cX10_visits 130 = .ok (.bipush 50, 2) := by decide +kernel
theorem dX10_visits_132 : decode cX10_visits 132 = .ok (.iload 6, 2) := by decide +kernel
theorem dX10_visits_134 : decode cX10_visits 134 = .ok (.iadd, 1) := by decide +kernel
theorem dX10_visits_135 : decode cX10_visits 135 = .ok (.iload_n 3, 1) := by decide +kernel
theorem dX10_visits_136 : decode cX10_visits 136 = .ok (.iastore, 1) := by decide +kernel
theorem dX10_visits_137 : decode cX10_visits 137 = .ok (.iinc 3 1, 3) := by decide +kernel
theorem dX10_visits_140 : decode cX10_visits 140 = .ok (.aload_n 0, 1) := by decide +kernel
theorem dX10_visits_141 : decode cX10_visits 141 = .ok (.getfield 22, 3) := by decide +kernel
theorem dX10_visits_144 : decode cX10_visits 144 = .ok (.iload 4, 2) := by decide +kernel
theorem dX10_visits_146 : decode cX10_visits 146 = .ok (.iload 6, 2) := by decide +kernel
theorem dX10_visits_148 : decode cX10_visits 148 = .ok (.iastore, 1) := by decide +kernel
theorem dX10_visits_149 : decode cX10_visits 149 = .ok (.iinc 4 1, 3) := by decide +kernel
theorem dX10_visits_152 : decode cX10_visits 152 = .ok (.goto (-126), 3) := by decide +kernel
theorem dX10_visits_155 : decode cX10_visits 155 = .ok (.iconst 0, 1) := by decide +kernel
theorem dX10_visits_156 : decode cX10_visits 156 = .ok (.istore 5, 2) := by decide +kernel
theorem dX10_visits_158 : decode cX10_visits 158 = .ok (.iload 5, 2) := by decide +kernel
theorem dX10_visits_160 : decode cX10_visits 160 = .ok (.aload_n 0, 1) := by decide +kernel
theorem dX10_visits_161 : decode cX10_visits 161 = .ok (.getfield 7, 3) := by decide +kernel
theorem dX10_visits_164 : decode cX10_visits 164 = .ok (.iconst 0, 1) := by decide +kernel
theorem dX10_visits_165 : decode cX10_visits 165 = .ok (.iaload, 1) := by decide +kernel
theorem dX10_visits_166 : decode cX10_visits 166 = .ok (.if_icmp .ge 32, 3) := by decide +kernel
theorem dX10_visits_169 : decode cX10_visits 169 = .ok (.iload_n 2, 1) := by decide +kernel
theorem dX10_visits_170 : decode cX10_visits 170 = .ok (.iload 5, 2) := by decide +kernel
theorem dX10_visits_172 : decode cX10_visits 172 = .ok (.invokestatic 120, 3) := by decide +kernel
theorem dX10_visits_175 : decode cX10_visits 175 = .ok (.ifCond .ne 17, 3) := by decide +kernel
theorem dX10_visits_178 : decode cX10_visits 178 = .ok (.aload_n 0, 1) := by decide +kernel
theorem dX10_visits_179 : decode cX10_visits 179 = .ok (.getfield 7, 3) := by decide +kernel
theorem dX10_visits_182 : decode cX10_visits 182 = .ok (.bipush 50, 2) := by decide +kernel
theorem dX10_visits_184 : decode cX10_visits 184 = .ok (.iload 5, 2) := by decide +kernel
theorem dX10_visits_186 : decode cX10_visits 186 = .ok (.iadd, 1) := by decide +kernel
theorem dX10_visits_187 : decode cX10_visits 187 = .ok (.iload_n 3, 1) := by decide +kernel
theorem dX10_visits_188 : decode cX10_visits 188 = .ok (.iastore, 1) := by decide +kernel
theorem dX10_visits_189 : decode cX10_visits 189 = .ok (.iinc 3 1, 3) := by decide +kernel
theorem dX10_visits_192 : decode cX10_visits 192 = .ok (.iinc 5 1, 3) := by decide +kernel
theorem dX10_visits_195 : decode cX10_visits 195 = .ok (.goto (-37), 3) := by decide +kernel
theorem dX10_visits_198 : decode cX10_visits 198 = .ok (.return_, 1) := by decide +kernel
theorem dX10_ranks_0 : decode cX10_ranks 0 = .ok (.aload_n 0, 1) := by decide +kernel
theorem dX10_ranks_1 : decode cX10_ranks 1 = .ok (.invokevirtual 101, 3) := by decide +kernel
theorem dX10_ranks_4 : decode cX10_ranks 4 = .ok (.iconst 0, 1) := by decide +kernel
theorem dX10_ranks_5 : decode cX10_ranks 5 = .ok (.istore_n 2, 1) := by decide +kernel
theorem dX10_ranks_6 : decode cX10_ranks 6 = .ok (.iload_n 2, 1) := by decide +kernel
theorem dX10_ranks_7 : decode cX10_ranks 7 = .ok (.aload_n 0, 1) := by decide +kernel
theorem dX10_ranks_8 : decode cX10_ranks 8 = .ok (.getfield 7, 3) := by decide +kernel
theorem dX10_ranks_11 : decode cX10_ranks 11 = .ok (.iconst 0, 1) := by decide +kernel
theorem dX10_ranks_12 : decode cX10_ranks 12 = .ok (.iaload, 1) := by decide +kernel
theorem dX10_ranks_13 : decode cX10_ranks 13 = .ok (.if_icmp .ge 87, 3) := by decide +kernel
theorem dX10_ranks_16 : decode cX10_ranks 16 = .ok (.iconst 0, 1) := by decide +kernel
theorem dX10_ranks_17 : decode cX10_ranks 17 = .ok (.istore_n 3, 1) := by decide +kernel
theorem dX10_ranks_18 : decode cX10_ranks 18 = .ok (.iconst 0, 1) := by decide +kernel
theorem dX10_ranks_19 : decode cX10_ranks 19 = .ok (.istore 4, 2) := by decide +kernel
theorem dX10_ranks_21 : decode cX10_ranks 21 = .ok (.iload 4, 2) := by decide +kernel
theorem dX10_ranks_23 : decode cX10_ranks 23 = .ok (.aload_n 0, 1) := by decide +kernel
theorem dX10_ranks_24 : decode cX10_ranks 24 = .ok (.getfield 7, 3) := by decide +kernel
theorem dX10_ranks_27 : decode cX10_ranks 27 = .ok (.iconst 0, 1) := by decide +kernel
theorem dX10_ranks_28 : decode cX10_ranks 28 = .ok (.iaload, 1) := by decide +kernel
theorem dX10_ranks_29 : decode cX10_ranks 29 = .ok (.if_icmp .ge 55, 3) := by decide +kernel
theorem dX10_ranks_32 : decode cX10_ranks 32 = .ok (.iload_n 3, 1) := by decide +kernel
theorem dX10_ranks_33 : decode cX10_ranks 33 = .ok (.aload_n 0, 1) := by decide +kernel
theorem dX10_ranks_34 : decode cX10_ranks 34 = .ok (.iload_n 1, 1) := by decide +kernel
theorem dX10_ranks_35 : decode cX10_ranks 35 = .ok (.iload 4, 2) := by decide +kernel
theorem dX10_ranks_37 : decode cX10_ranks 37 = .ok (.invokevirtual 104, 3) := by decide +kernel
theorem dX10_ranks_40 : decode cX10_ranks 40 = .ok (.aload_n 0, 1) := by decide +kernel
theorem dX10_ranks_41 : decode cX10_ranks 41 = .ok (.iload_n 1, 1) := by decide +kernel
theorem dX10_ranks_42 : decode cX10_ranks 42 = .ok (.iload_n 2, 1) := by decide +kernel
theorem dX10_ranks_43 : decode cX10_ranks 43 = .ok (.invokevirtual 104, 3) := by decide +kernel
theorem dX10_ranks_46 : decode cX10_ranks 46 = .ok (.if_icmp .lt 25, 3) := by decide +kernel
theorem dX10_ranks_49 : decode cX10_ranks 49 = .ok (.aload_n 0, 1) := by decide +kernel
theorem dX10_ranks_50 : decode cX10_ranks 50 = .ok (.iload_n 1, 1) := by decide +kernel
theorem dX10_ranks_51 : decode cX10_ranks 51 = .ok (.iload 4, 2) := by decide +kernel
theorem dX10_ranks_53 : decode cX10_ranks 53 = .ok (.invokevirtual 104, 3) := by decide +kernel
theorem dX10_ranks_56 : decode cX10_ranks 56 = .ok (.aload_n 0, 1) := by decide +kernel
theorem dX10_ranks_57 : decode cX10_ranks 57 = .ok (.iload_n 1, 1) := by decide +kernel
theorem dX10_ranks_58 : decode cX10_ranks 58 = .ok (.iload_n 2, 1) := by decide +kernel
theorem dX10_ranks_59 : decode cX10_ranks 59 = .ok (.invokevirtual 104, 3) := by decide +kernel
theorem dX10_ranks_62 : decode cX10_ranks 62 = .ok (.if_icmp .ne 13, 3) := by decide +kernel
theorem dX10_ranks_65 : decode cX10_ranks 65 = .ok (.iload 4, 2) := by decide +kernel
theorem dX10_ranks_67 : decode cX10_ranks 67 = .ok (.iload_n 2, 1) := by decide +kernel
theorem dX10_ranks_68 : decode cX10_ranks 68 = .ok (.if_icmp .ge 7, 3) := by decide +kernel
theorem dX10_ranks_71 : decode cX10_ranks 71 = .ok (.iconst 1, 1) := by decide +kernel
theorem dX10_ranks_72 : decode cX10_ranks 72 = .ok (.goto 4, 3) := by decide +kernel
theorem dX10_ranks_75 : decode cX10_ranks 75 = .ok (.iconst 0, 1) := by decide +kernel
theorem dX10_ranks_76 : decode cX10_ranks 76 = .ok (.iadd, 1) := by decide +kernel
theorem dX10_ranks_77 : decode cX10_ranks 77 = .ok (.istore_n 3, 1) := by decide +kernel
theorem dX10_ranks_78 : decode cX10_ranks 78 = .ok (.iinc 4 1, 3) := by decide +kernel
theorem dX10_ranks_81 : decode cX10_ranks 81 = .ok (.goto (-60), 3) := by decide +kernel
theorem dX10_ranks_84 : decode cX10_ranks 84 = .ok (.aload_n 0, 1) := by decide +kernel
theorem dX10_ranks_85 : decode cX10_ranks 85 = .ok (.getfield 7, 3) := by decide +kernel
theorem dX10_ranks_88 : decode cX10_ranks 88 = .ok (.bipush 50, 2) := by decide +kernel
theorem dX10_ranks_90 : decode cX10_ranks 90 = .ok (.iload_n 2, 1) := by decide +kernel
theorem dX10_ranks_91 : decode cX10_ranks 91 = .ok (.iadd, 1) := by decide +kernel
theorem dX10_ranks_92 : decode cX10_ranks 92 = .ok (.iload_n 3, 1) := by decide +kernel
theorem dX10_ranks_93 : decode cX10_ranks 93 = .ok (.iastore, 1) := by decide +kernel
theorem dX10_ranks_94 : decode cX10_ranks 94 = .ok (.iinc 2 1, 3) := by decide +kernel
theorem dX10_ranks_97 : decode cX10_ranks 97 = .ok (.goto (-91), 3) := by decide +kernel
theorem dX10_ranks_100 : decode cX10_ranks 100 = .ok (.return_, 1) := by decide +kernel
theorem dX10_setLabels_0 : decode cX10_setLabels 0 = .ok (.aload_n 0, 1) := by decide +kernel
theorem dX10_setLabels_1 : decode cX10_setLabels 1 = .ok (.iload_n 1, 1) := by decide +kernel
theorem dX10_setLabels_2 : decode cX10_setLabels 2 = .ok (.iconst 0, 1) := by decide +kernel
theorem dX10_setLabels_3 : decode cX10_setLabels 3 = .ok (.iconst 3, 1) := by decide +kernel
theorem dX10_setLabels_4 : decode cX10_setLabels 4 = .ok (.invokestatic 56, 3) := by decide +kernel
theorem dX10_setLabels_7 : decode cX10_setLabels 7 = .ok (.ifCond .ne 7, 3) := by decide +kernel
theorem dX10_setLabels_10 : decode cX10_setLabels 10 = .ok (.iconst 1, 1) := by decide +kernel
theorem dX10_setLabels_11 : decode cX10_setLabels 11 = .ok (.goto 36, 3) := by decide +kernel
theorem dX10_setLabels_14 : decode cX10_setLabels 14 = .ok (.aload_n 0, 1) := by decide +kernel
theorem dX10_setLabels_15 : decode cX10_setLabels 15 = .ok (.iload_n 2, 1) := by decide +kernel
theorem dX10_setLabels_16 : decode cX10_setLabels 16 = .ok (.invokevirtual 85, 3) := by decide +kernel
theorem dX10_setLabels_19 : decode cX10_setLabels 19 = .ok (.ifCond .ne 7, 3) := by decide +kernel
theorem dX10_setLabels_22 : decode cX10_setLabels 22 = .ok (.iconst 2, 1) := by decide +kernel
theorem dX10_setLabels_23 : decode cX10_setLabels 23 = .ok (.goto 24, 3) := by decide +kernel
theorem dX10_setLabels_26 : decode cX10_setLabels 26 = .ok (.iload_n 1, 1) := by decide +kernel
theorem dX10_setLabels_27 : decode cX10_setLabels 27 = .ok (.iconst 3, 1) := by decide +kernel
theorem dX10_setLabels_28 : decode cX10_setLabels 28 = .ok (.if_icmp .ne 18, 3) := by decide +kernel
theorem dX10_setLabels_31 : decode cX10_setLabels 31 = .ok (.aload_n 0, 1) := by decide +kernel
theorem dX10_setLabels_32 : decode cX10_setLabels 32 = .ok (.getfield 7, 3) := by decide +kernel
theorem dX10_setLabels_35 : decode cX10_setLabels 35 = .ok (.iconst 0, 1) := by decide +kernel
theorem dX10_setLabels_36 : decode cX10_setLabels 36 = .ok (.iaload, 1) := by decide +kernel
theorem dX10_setLabels_37 : decode cX10_setLabels 37 = .ok (.bipush 6, 2) := by decide +kernel
theorem dX10_setLabels_39 : decode cX10_setLabels 39 = .ok (.if_icmp .le 7, 3) := by decide +kernel
theorem dX10_setLabels_42 : decode cX10_setLabels 42 = .ok (.iconst 3, 1) := by decide +kernel
theorem dX10_setLabels_43 : decode cX10_setLabels 43 = .ok (.goto 4, 3) := by decide +kernel
theorem dX10_setLabels_46 : decode cX10_setLabels 46 = .ok (.iconst 0, 1) := by decide +kernel
theorem dX10_setLabels_47 : decode cX10_setLabels 47 = .ok (.invokevirtual 67, 3) := by decide +kernel
theorem dX10_setLabels_50 : decode cX10_setLabels 50 = .ok (.ifCond .eq 5, 3) := by decide +kernel
theorem dX10_setLabels_53 : decode cX10_setLabels 53 = .ok (.iconst 0, 1) := by decide +kernel
theorem dX10_setLabels_54 : decode cX10_setLabels 54 = .ok (.ireturn, 1) := by decide +kernel
theorem dX10_setLabels_55 : decode cX10_setLabels 55 = .ok (.aload_n 0, 1) := by decide +kernel
theorem dX10_setLabels_56 : decode cX10_setLabels 56 = .ok (.invokevirtual 74, 3) := by decide +kernel
theorem dX10_setLabels_59 : decode cX10_setLabels 59 = .ok (.iload_n 1, 1) := by decide +kernel
theorem dX10_setLabels_60 : decode cX10_setLabels 60 = .ok (.iconst 1, 1) := by decide +kernel
theorem dX10_setLabels_61 : decode cX10_setLabels 61 = .ok (.if_icmp .ne 11, 3) := by decide +kernel
theorem dX10_setLabels_64 : decode cX10_setLabels 64 = .ok (.aload_n 0, 1) := by decide +kernel
theorem dX10_setLabels_65 : decode cX10_setLabels 65 = .ok (.iload_n 2, 1) := by decide +kernel
theorem dX10_setLabels_66 : decode cX10_setLabels 66 = .ok (.invokevirtual 123, 3) := by decide +kernel
theorem dX10_setLabels_69 : decode cX10_setLabels 69 = .ok (.goto 77, 3) := by decide +kernel
theorem dX10_setLabels_72 : decode cX10_setLabels 72 = .ok (.iload_n 1, 1) := by decide +kernel
theorem dX10_setLabels_73 : decode cX10_setLabels 73 = .ok (.iconst 2, 1) := by decide +kernel
theorem dX10_setLabels_74 : decode cX10_setLabels 74 = .ok (.if_icmp .ne 11, 3) := by decide +kernel
theorem dX10_setLabels_77 : decode cX10_setLabels 77 = .ok (.aload_n 0, 1) := by decide +kernel
theorem dX10_setLabels_78 : decode cX10_setLabels 78 = .ok (.iload_n 2, 1) := by decide +kernel
theorem dX10_setLabels_79 : decode cX10_setLabels 79 = .ok (.invokevirtual 126, 3) := by decide +kernel
theorem dX10_setLabels_82 : decode cX10_setLabels 82 = .ok (.goto 64, 3) := by decide +kernel
theorem dX10_setLabels_85 : decode cX10_setLabels 85 = .ok (.iload_n 1, 1) := by decide +kernel
theorem dX10_setLabels_86 : decode cX10_setLabels 86 = .ok (.iconst 3, 1) := by decide +kernel
theorem dX10_setLabels_87 : decode cX10_setLabels 87 = .ok (.if_icmp .ne 10, 3) := by decide +kernel
theorem dX10_setLabels_90 : decode cX10_setLabels 90 = .ok (.aload_n 0, 1) := by decide +kernel
theorem dX10_setLabels_91 : decode cX10_setLabels 91 = .ok (.invokevirtual 129, 3) := by decide +kernel
theorem dX10_setLabels_94 : decode cX10_setLabels 94 = .ok (.goto 4, 3) := by decide +kernel
theorem dX10_setLabels_97 : decode cX10_setLabels 97 = .ok (.iconst 0, 1) := by decide +kernel
theorem dX10_setLabels_98 : decode cX10_setLabels 98 = .ok (.istore_n 3, 1) := by decide +kernel
theorem dX10_setLabels_99 : decode cX10_setLabels 99 = .ok (.iconst 0, 1) := by decide +kernel
theorem dX10_setLabels_100 : decode cX10_setLabels 100 = .ok (.istore 4, 2) := by decide +kernel
theorem dX10_setLabels_102 : decode cX10_setLabels 102 = .ok (.iload 4, 2) := by decide +kernel
theorem dX10_setLabels_104 : decode cX10_setLabels 104 = .ok (.aload_n 0, 1) := by decide +kernel
theorem dX10_setLabels_105 : decode cX10_setLabels 105 = .ok (.getfield 7, 3) := by decide +kernel
theorem dX10_setLabels_108 : decode cX10_setLabels 108 = .ok (.iconst 0, 1) := by decide +kernel
theorem dX10_setLabels_109 : decode cX10_setLabels 109 = .ok (.iaload, 1) := by decide +kernel
theorem dX10_setLabels_110 : decode cX10_setLabels 110 = .ok (.if_icmp .ge 36, 3) := by decide +kernel
theorem dX10_setLabels_113 : decode cX10_setLabels 113 = .ok (.aload_n 0, 1) := by decide +kernel
theorem dX10_setLabels_114 : decode cX10_setLabels 114 = .ok (.getfield 7, 3) := by decide +kernel
theorem dX10_setLabels_117 : decode cX10_setLabels 117 = .ok (.bipush 50, 2) := by decide +kernel
theorem dX10_setLabels_119 : decode cX10_setLabels 119 = .ok (.iload 4, 2) := by decide +kernel
theorem dX10_setLabels_121 : decode cX10_setLabels 121 = .ok (.iadd, 1) := by decide +kernel
theorem dX10_setLabels_122 : decode cX10_setLabels 122 = .ok (.iload_n 1, 1) := by decide +kernel
theorem dX10_setLabels_123 : decode cX10_setLabels 123 = .ok (.iconst 3, 1) := by decide +kernel
theorem dX10_setLabels_124 : decode cX10_setLabels 124 = .ok (.if_icmp .ne 13, 3) := by decide +kernel
theorem dX10_setLabels_127 : decode cX10_setLabels 127 = .ok (.aload_n 0, 1) := by decide +kernel
theorem dX10_setLabels_128 : decode cX10_setLabels 128 = .ok (.getfield 40, 3) := by decide +kernel
theorem dX10_setLabels_131 : decode cX10_setLabels 131 = .ok (.iload 4, 2) := by decide +kernel
theorem dX10_setLabels_133 : decode cX10_setLabels 133 = .ok (.iaload, 1) := by decide +kernel
theorem dX10_setLabels_134 : decode cX10_setLabels 134 = .ok (.goto 5, 3) := by decide +kernel
theorem dX10_setLabels_137 : decode cX10_setLabels 137 = .ok (.iload 4, 2) := by decide +kernel
theorem dX10_setLabels_139 : decode cX10_setLabels 139 = .ok (.iastore, 1) := by decide +kernel
theorem dX10_setLabels_140 : decode cX10_setLabels 140 = .ok (.iinc 4 1, 3) := by decide +kernel
theorem dX10_setLabels_143 : decode cX10_setLabels 143 = .ok (.goto (-41), 3) := by decide +kernel
theorem dX10_setLabels_146 : decode cX10_setLabels 146 = .ok (.aload_n 0, 1) := by decide +kernel
theorem dX10_setLabels_147 : decode cX10_setLabels 147 = .ok (.invokevirtual 71, 3) := by decide +kernel
theorem dX10_setLabels_150 : decode cX10_setLabels 150 = .ok (.aload_n 0, 1) := by decide +kernel
theorem dX10_setLabels_151 : decode cX10_setLabels 151 = .ok (.getfield 7, 3) := by decide +kernel
theorem dX10_setLabels_154 : decode cX10_setLabels 154 = .ok (.bipush 50, 2) := by decide +kernel
theorem dX10_setLabels_156 : decode cX10_setLabels 156 = .ok (.aload_n 0, 1) := by decide +kernel
theorem dX10_setLabels_157 : decode cX10_setLabels 157 = .ok (.getfield 7, 3) := by decide +kernel
theorem dX10_setLabels_160 : decode cX10_setLabels 160 = .ok (.iconst 0, 1) := by decide +kernel
theorem dX10_setLabels_161 : decode cX10_setLabels 161 = .ok (.iaload, 1) := by decide +kernel
theorem dX10_setLabels_162 : decode cX10_setLabels 162 = .ok (.iadd, 1) := by decide +kernel
theorem dX10_setLabels_163 : decode cX10_setLabels 163 = .ok (.iconst 1, 1) := by decide +kernel
theorem dX10_setLabels_164 : decode cX10_setLabels 164 = .ok (.isub, 1) := by decide +kernel
theorem dX10_setLabels_165 : decode cX10_setLabels 165 = .ok (.iaload, 1) := by decide +kernel
theorem dX10_setLabels_166 : decode cX10_setLabels 166 = .ok (.ireturn, 1) := by decide +kernel
theorem dX10_swapLabels_0 : decode cX10_swapLabels 0 = .ok (.aload_n 0, 1) := by decide +kernel
theorem dX10_swapLabels_1 : decode cX10_swapLabels 1 = .ok (.aload_n 0, 1) := by decide +kernel
theorem dX10_swapLabels_2 : decode cX10_swapLabels 2 = .ok (.iload_n 1, 1) := by decide +kernel
theorem dX10_swapLabels_3 : decode cX10_swapLabels 3 = .ok (.invokevirtual 85, 3) := by decide +kernel
theorem dX10_swapLabels_6 : decode cX10_swapLabels 6 = .ok (.ifCond .eq 15, 3) := by decide +kernel
theorem dX10_swapLabels_9 : decode cX10_swapLabels 9 = .ok (.aload_n 0, 1) := by decide +kernel
theorem dX10_swapLabels_10 : decode cX10_swapLabels 10 = .ok (.iload_n 2, 1) := by decide +kernel
theorem dX10_swapLabels_11 : decode cX10_swapLabels 11 = .ok (.invokevirtual 85, 3) := by decide +kernel
theorem dX10_swapLabels_14 : decode cX10_swapLabels 14 = .ok (.ifCond .eq 7, 3) := by decide +kernel
theorem dX10_swapLabels_17 : decode cX10_swapLabels 17 = .ok (.iconst 0, 1) := by decide +kernel
theorem dX10_swapLabels_18 : decode cX10_swapLabels 18 = .ok (.goto 4, 3) := by decide +kernel
theorem dX10_swapLabels_21 : decode cX10_swapLabels 21 = .ok (.iconst 1, 1) := by decide +kernel
theorem dX10_swapLabels_22 : decode cX10_swapLabels 22 = .ok (.invokevirtual 67, 3) := by decide +kernel
theorem dX10_swapLabels_25 : decode cX10_swapLabels 25 = .ok (.ifCond .eq 5, 3) := by decide +kernel
theorem dX10_swapLabels_28 : decode cX10_swapLabels 28 = .ok (.iconst 0, 1) := by decide +kernel
theorem dX10_swapLabels_29 : decode cX10_swapLabels 29 = .ok (.ireturn, 1) := by decide +kernel
theorem dX10_swapLabels_30 : decode cX10_swapLabels 30 = .ok (.aload_n 0, 1) := by decide +kernel
theorem dX10_swapLabels_31 : decode cX10_swapLabels 31 = .ok (.invokevirtual 74, 3) := by decide +kernel
theorem dX10_swapLabels_34 : decode cX10_swapLabels 34 = .ok (.aload_n 0, 1) := by decide +kernel
theorem dX10_swapLabels_35 : decode cX10_swapLabels 35 = .ok (.iload_n 1, 1) := by decide +kernel
theorem dX10_swapLabels_36 : decode cX10_swapLabels 36 = .ok (.iload_n 2, 1) := by decide +kernel
theorem dX10_swapLabels_37 : decode cX10_swapLabels 37 = .ok (.invokevirtual 133, 3) := by decide +kernel
theorem dX10_swapLabels_40 : decode cX10_swapLabels 40 = .ok (.aload_n 0, 1) := by decide +kernel
theorem dX10_swapLabels_41 : decode cX10_swapLabels 41 = .ok (.invokevirtual 71, 3) := by decide +kernel
theorem dX10_swapLabels_44 : decode cX10_swapLabels 44 = .ok (.aload_n 0, 1) := by decide +kernel
theorem dX10_swapLabels_45 : decode cX10_swapLabels 45 = .ok (.getfield 7, 3) := by decide +kernel
theorem dX10_swapLabels_48 : decode cX10_swapLabels 48 = .ok (.bipush 50, 2) := by decide +kernel
theorem dX10_swapLabels_50 : decode cX10_swapLabels 50 = .ok (.iload_n 1, 1) := by decide +kernel
theorem dX10_swapLabels_51 : decode cX10_swapLabels 51 = .ok (.iadd, 1) := by decide +kernel
theorem dX10_swapLabels_52 : decode cX10_swapLabels 52 = .ok (.iaload, 1) := by decide +kernel
theorem dX10_swapLabels_53 : decode cX10_swapLabels 53 = .ok (.ireturn, 1) := by decide +kernel
theorem dX10_swaps_0 : decode cX10_swaps 0 = .ok (.aload_n 0, 1) := by decide +kernel
theorem dX10_swaps_1 : decode cX10_swaps 1 = .ok (.getfield 7, 3) := by decide +kernel
theorem dX10_swaps_4 : decode cX10_swaps 4 = .ok (.bipush 50, 2) := by decide +kernel
theorem dX10_swaps_6 : decode cX10_swaps 6 = .ok (.iload_n 1, 1) := by decide +kernel
theorem dX10_swaps_7 : decode cX10_swaps 7 = .ok (.iadd, 1) := by decide +kernel
theorem dX10_swaps_8 : decode cX10_swaps 8 = .ok (.iaload, 1) := by decide +kernel
theorem dX10_swaps_9 : decode cX10_swaps 9 = .ok (.istore_n 3, 1) := by decide +kernel
theorem dX10_swaps_10 : decode cX10_swaps 10 = .ok (.aload_n 0, 1) := by decide +kernel
theorem dX10_swaps_11 : decode cX10_swaps 11 = .ok (.getfield 7, 3) := by decide +kernel
theorem dX10_swaps_14 : decode cX10_swaps 14 = .ok (.bipush 50, 2) := by decide +kernel
theorem dX10_swaps_16 : decode cX10_swaps 16 = .ok (.iload_n 1, 1) := by decide +kernel
theorem dX10_swaps_17 : decode cX10_swaps 17 = .ok (.iadd, 1) := by decide +kernel
theorem dX10_swaps_18 : decode cX10_swaps 18 = .ok (.aload_n 0, 1) := by decide +kernel
theorem dX10_swaps_19 : decode cX10_swaps 19 = .ok (.getfield 7, 3) := by decide +kernel
theorem dX10_swaps_22 : decode cX10_swaps 22 = .ok (.bipush 50, 2) := by decide +kernel
theorem dX10_swaps_24 : decode cX10_swaps 24 = .ok (.iload_n 2, 1) := by decide +kernel
theorem dX10_swaps_25 : decode cX10_swaps 25 = .ok (.iadd, 1) := by decide +kernel
theorem dX10_swaps_26 : decode cX10_swaps 26 = .ok (.iaload, 1) := by decide +kernel
theorem dX10_swaps_27 : decode cX10_swaps 27 = .ok (.iastore, 1) := by decide +kernel
theorem dX10_swaps_28 : decode cX10_swaps 28 = .ok (.aload_n 0, 1) := by decide +kernel
theorem dX10_swaps_29 : decode cX10_swaps 29 = .ok (.getfield 7, 3) := by decide +kernel
theorem dX10_swaps_32 : decode cX10_swaps 32 = .ok (.bipush 50, 2) := by decide +kernel
theorem dX10_swaps_34 : decode cX10_swaps 34 = .ok (.iload_n 2, 1) := by decide +kernel
theorem dX10_swaps_35 : decode cX10_swaps 35 = .ok (.iadd, 1) := by decide +kernel
theorem dX10_swaps_36 : decode cX10_swaps 36 = .ok (.iload_n 3, 1) := by decide +kernel
theorem dX10_swaps_37 : decode cX10_swaps 37 = .ok (.iastore, 1) := by decide +kernel
theorem dX10_swaps_38 : decode cX10_swaps 38 = .ok (.return_, 1) := by decide +kernel
theorem dX10_turn_0 : decode cX10_turn 0 = .ok (.aload_n 0, 1) := by decide +kernel
theorem dX10_turn_1 : decode cX10_turn 1 = .ok (.iload_n 1, 1) := by decide +kernel
theorem dX10_turn_2 : decode cX10_turn 2 = .ok (.iconst 0, 1) := by decide +kernel
theorem dX10_turn_3 : decode cX10_turn 3 = .ok (.bipush 9, 2) := by decide +kernel
theorem dX10_turn_5 : decode cX10_turn 5 = .ok (.invokestatic 56, 3) := by decide +kernel
theorem dX10_turn_8 : decode cX10_turn 8 = .ok (.ifCond .ne 7, 3) := by decide +kernel
theorem dX10_turn_11 : decode cX10_turn 11 = .ok (.iconst 1, 1) := by decide +kernel
theorem dX10_turn_12 : decode cX10_turn 12 = .ok (.goto 17, 3) := by decide +kernel
theorem dX10_turn_15 : decode cX10_turn 15 = .ok (.aload_n 0, 1) := by decide +kernel
theorem dX10_turn_16 : decode cX10_turn 16 = .ok (.getfield 7, 3) := by decide +kernel
theorem dX10_turn_19 : decode cX10_turn 19 = .ok (.iconst 0, 1) := by decide +kernel
theorem dX10_turn_20 : decode cX10_turn 20 = .ok (.iaload, 1) := by decide +kernel
theorem dX10_turn_21 : decode cX10_turn 21 = .ok (.ifCond .ne 7, 3) := by decide +kernel
theorem dX10_turn_24 : decode cX10_turn 24 = .ok (.iconst 2, 1) := by decide +kernel
theorem dX10_turn_25 : decode cX10_turn 25 = .ok (.goto 4, 3) := by decide +kernel
theorem dX10_turn_28 : decode cX10_turn 28 = .ok (.iconst 0, 1) := by decide +kernel
theorem dX10_turn_29 : decode cX10_turn 29 = .ok (.invokevirtual 67, 3) := by decide +kernel
theorem dX10_turn_32 : decode cX10_turn 32 = .ok (.ifCond .eq 5, 3) := by decide +kernel
theorem dX10_turn_35 : decode cX10_turn 35 = .ok (.iconst 0, 1) := by decide +kernel
theorem dX10_turn_36 : decode cX10_turn 36 = .ok (.ireturn, 1) := by decide +kernel
theorem dX10_turn_37 : decode cX10_turn 37 = .ok (.aload_n 0, 1) := by decide +kernel
theorem dX10_turn_38 : decode cX10_turn 38 = .ok (.invokevirtual 74, 3) := by decide +kernel
theorem dX10_turn_41 : decode cX10_turn 41 = .ok (.iconst 0, 1) := by decide +kernel
theorem dX10_turn_42 : decode cX10_turn 42 = .ok (.istore_n 2, 1) := by decide +kernel
theorem dX10_turn_43 : decode cX10_turn 43 = .ok (.iload_n 2, 1) := by decide +kernel
theorem dX10_turn_44 : decode cX10_turn 44 = .ok (.aload_n 0, 1) := by decide +kernel
theorem dX10_turn_45 : decode cX10_turn 45 = .ok (.getfield 7, 3) := by decide +kernel
theorem dX10_turn_48 : decode cX10_turn 48 = .ok (.iconst 0, 1) := by decide +kernel
theorem dX10_turn_49 : decode cX10_turn 49 = .ok (.iaload, 1) := by decide +kernel
theorem dX10_turn_50 : decode cX10_turn 50 = .ok (.if_icmp .ge 36, 3) := by decide +kernel
theorem dX10_turn_53 : decode cX10_turn 53 = .ok (.aload_n 0, 1) := by decide +kernel
theorem dX10_turn_54 : decode cX10_turn 54 = .ok (.getfield 7, 3) := by decide +kernel
theorem dX10_turn_57 : decode cX10_turn 57 = .ok (.bipush 50, 2) := by decide +kernel
theorem dX10_turn_59 : decode cX10_turn 59 = .ok (.iload_n 2, 1) := by decide +kernel
theorem dX10_turn_60 : decode cX10_turn 60 = .ok (.iadd, 1) := by decide +kernel
theorem dX10_turn_61 : decode cX10_turn 61 = .ok (.aload_n 0, 1) := by decide +kernel
theorem dX10_turn_62 : decode cX10_turn 62 = .ok (.getfield 7, 3) := by decide +kernel
theorem dX10_turn_65 : decode cX10_turn 65 = .ok (.bipush 50, 2) := by decide +kernel
theorem dX10_turn_67 : decode cX10_turn 67 = .ok (.iload_n 2, 1) := by decide +kernel
theorem dX10_turn_68 : decode cX10_turn 68 = .ok (.iadd, 1) := by decide +kernel
theorem dX10_turn_69 : decode cX10_turn 69 = .ok (.iaload, 1) := by decide +kernel
theorem dX10_turn_70 : decode cX10_turn 70 = .ok (.iload_n 1, 1) := by decide +kernel
theorem dX10_turn_71 : decode cX10_turn 71 = .ok (.iadd, 1) := by decide +kernel
theorem dX10_turn_72 : decode cX10_turn 72 = .ok (.aload_n 0, 1) := by decide +kernel
theorem dX10_turn_73 : decode cX10_turn 73 = .ok (.getfield 7, 3) := by decide +kernel
theorem dX10_turn_76 : decode cX10_turn 76 = .ok (.iconst 0, 1) := by decide +kernel
theorem dX10_turn_77 : decode cX10_turn 77 = .ok (.iaload, 1) := by decide +kernel
theorem dX10_turn_78 : decode cX10_turn 78 = .ok (.irem, 1) := by decide +kernel
theorem dX10_turn_79 : decode cX10_turn 79 = .ok (.iastore, 1) := by decide +kernel
theorem dX10_turn_80 : decode cX10_turn 80 = .ok (.iinc 2 1, 3) := by decide +kernel
theorem dX10_turn_83 : decode cX10_turn 83 = .ok (.goto (-40), 3) := by decide +kernel
theorem dX10_turn_86 : decode cX10_turn 86 = .ok (.aload_n 0, 1) := by decide +kernel
theorem dX10_turn_87 : decode cX10_turn 87 = .ok (.invokevirtual 71, 3) := by decide +kernel
theorem dX10_turn_90 : decode cX10_turn 90 = .ok (.aload_n 0, 1) := by decide +kernel
theorem dX10_turn_91 : decode cX10_turn 91 = .ok (.getfield 7, 3) := by decide +kernel
theorem dX10_turn_94 : decode cX10_turn 94 = .ok (.bipush 50, 2) := by decide +kernel
theorem dX10_turn_96 : decode cX10_turn 96 = .ok (.iaload, 1) := by decide +kernel
theorem dX10_turn_97 : decode cX10_turn 97 = .ok (.ireturn, 1) := by decide +kernel
theorem dX10_shuffle_0 : decode cX10_shuffle 0 = .ok (.aload_n 0, 1) := by decide +kernel
theorem dX10_shuffle_1 : decode cX10_shuffle 1 = .ok (.iload_n 1, 1) := by decide +kernel
theorem dX10_shuffle_2 : decode cX10_shuffle 2 = .ok (.iconst 0, 1) := by decide +kernel
theorem dX10_shuffle_3 : decode cX10_shuffle 3 = .ok (.ldc 137, 2) := by decide +kernel
theorem dX10_shuffle_5 : decode cX10_shuffle 5 = .ok (.invokestatic 56, 3) := by decide +kernel
theorem dX10_shuffle_8 : decode cX10_shuffle 8 = .ok (.ifCond .eq 7, 3) := by decide +kernel
theorem dX10_shuffle_11 : decode cX10_shuffle 11 = .ok (.iconst 0, 1) := by decide +kernel
theorem dX10_shuffle_12 : decode cX10_shuffle 12 = .ok (.goto 4, 3) := by decide +kernel
theorem dX10_shuffle_15 : decode cX10_shuffle 15 = .ok (.iconst 1, 1) := by decide +kernel
theorem dX10_shuffle_16 : decode cX10_shuffle 16 = .ok (.invokevirtual 67, 3) := by decide +kernel
theorem dX10_shuffle_19 : decode cX10_shuffle 19 = .ok (.ifCond .eq 5, 3) := by decide +kernel
theorem dX10_shuffle_22 : decode cX10_shuffle 22 = .ok (.iconst 0, 1) := by decide +kernel
theorem dX10_shuffle_23 : decode cX10_shuffle 23 = .ok (.ireturn, 1) := by decide +kernel
theorem dX10_shuffle_24 : decode cX10_shuffle 24 = .ok (.aload_n 0, 1) := by decide +kernel
theorem dX10_shuffle_25 : decode cX10_shuffle 25 = .ok (.invokevirtual 74, 3) := by decide +kernel
theorem dX10_shuffle_28 : decode cX10_shuffle 28 = .ok (.iconst 0, 1) := by decide +kernel
theorem dX10_shuffle_29 : decode cX10_shuffle 29 = .ok (.istore_n 2, 1) := by decide +kernel
theorem dX10_shuffle_30 : decode cX10_shuffle 30 = .ok (.iload_n 2, 1) := by decide +kernel
theorem dX10_shuffle_31 : decode cX10_shuffle 31 = .ok (.aload_n 0, 1) := by decide +kernel
theorem dX10_shuffle_32 : decode cX10_shuffle 32 = .ok (.getfield 7, 3) := by decide +kernel
theorem dX10_shuffle_35 : decode cX10_shuffle 35 = .ok (.iconst 0, 1) := by decide +kernel
theorem dX10_shuffle_36 : decode cX10_shuffle 36 = .ok (.iaload, 1) := by decide +kernel
theorem dX10_shuffle_37 : decode cX10_shuffle 37 = .ok (.if_icmp .ge 19, 3) := by decide +kernel
theorem dX10_shuffle_40 : decode cX10_shuffle 40 = .ok (.aload_n 0, 1) := by decide +kernel
theorem dX10_shuffle_41 : decode cX10_shuffle 41 = .ok (.getfield 7, 3) := by decide +kernel
theorem dX10_shuffle_44 : decode cX10_shuffle 44 = .ok (.bipush 50, 2) := by decide +kernel
theorem dX10_shuffle_46 : decode cX10_shuffle 46 = .ok (.iload_n 2, 1) := by decide +kernel
theorem dX10_shuffle_47 : decode cX10_shuffle 47 = .ok (.iadd, 1) := by decide +kernel
theorem dX10_shuffle_48 : decode cX10_shuffle 48 = .ok (.iload_n 2, 1) := by decide +kernel
theorem dX10_shuffle_49 : decode cX10_shuffle 49 = .ok (.iastore, 1) := by decide +kernel
theorem dX10_shuffle_50 : decode cX10_shuffle 50 = .ok (.iinc 2 1, 3) := by decide +kernel
theorem dX10_shuffle_53 : decode cX10_shuffle 53 = .ok (.goto (-23), 3) := by decide +kernel
theorem dX10_shuffle_56 : decode cX10_shuffle 56 = .ok (.iload_n 1, 1) := by decide +kernel
theorem dX10_shuffle_57 : decode cX10_shuffle 57 = .ok (.i2l, 1) := by decide +kernel
theorem dX10_shuffle_58 : decode cX10_shuffle 58 = .ok (.lstore_n 2, 1) := by decide +kernel
theorem dX10_shuffle_59 : decode cX10_shuffle 59 = .ok (.aload_n 0, 1) := by decide +kernel
theorem dX10_shuffle_60 : decode cX10_shuffle 60 = .ok (.getfield 7, 3) := by decide +kernel
theorem dX10_shuffle_63 : decode cX10_shuffle 63 = .ok (.iconst 0, 1) := by decide +kernel
theorem dX10_shuffle_64 : decode cX10_shuffle 64 = .ok (.iaload, 1) := by decide +kernel
theorem dX10_shuffle_65 : decode cX10_shuffle 65 = .ok (.iconst 1, 1) := by decide +kernel
theorem dX10_shuffle_66 : decode cX10_shuffle 66 = .ok (.isub, 1) := by decide +kernel
theorem dX10_shuffle_67 : decode cX10_shuffle 67 = .ok (.istore 4, 2) := by decide +kernel
theorem dX10_shuffle_69 : decode cX10_shuffle 69 = .ok (.iload 4, 2) := by decide +kernel
theorem dX10_shuffle_71 : decode cX10_shuffle 71 = .ok (.ifCond .le 40, 3) := by decide +kernel
theorem dX10_shuffle_74 : decode cX10_shuffle 74 = .ok (.ldc2_w 138, 3) := by decide +kernel
theorem dX10_shuffle_77 : decode cX10_shuffle 77 = .ok (.lload_n 2, 1) := by decide +kernel
theorem dX10_shuffle_78 : decode cX10_shuffle 78 = .ok (.lmul, 1) := by decide +kernel
theorem dX10_shuffle_79 : decode cX10_shuffle 79 = .ok (.ldc2_w 140, 3) := by decide +kernel
theorem dX10_shuffle_82 : decode cX10_shuffle 82 = .ok (.ladd, 1) := by decide +kernel
theorem dX10_shuffle_83 : decode cX10_shuffle 83 = .ok (.ldc2_w 142, 3) := by decide +kernel
theorem dX10_shuffle_86 : decode cX10_shuffle 86 = .ok (.lrem, 1) := by decide +kernel
theorem dX10_shuffle_87 : decode cX10_shuffle 87 = .ok (.lstore_n 2, 1) := by decide +kernel
theorem dX10_shuffle_88 : decode cX10_shuffle 88 = .ok (.aload_n 0, 1) := by decide +kernel
theorem dX10_shuffle_89 : decode cX10_shuffle 89 = .ok (.iload 4, 2) := by decide +kernel
theorem dX10_shuffle_91 : decode cX10_shuffle 91 = .ok (.lload_n 2, 1) := by decide +kernel
theorem dX10_shuffle_92 : decode cX10_shuffle 92 = .ok (.ldc2_w 144, 3) := by decide +kernel
theorem dX10_shuffle_95 : decode cX10_shuffle 95 = .ok (.ldiv, 1) := by decide +kernel
theorem dX10_shuffle_96 : decode cX10_shuffle 96 = .ok (.l2i, 1) := by decide +kernel
theorem dX10_shuffle_97 : decode cX10_shuffle 97 = .ok (.iload 4, 2) := by decide +kernel
theorem dX10_shuffle_99 : decode cX10_shuffle 99 = .ok (.iconst 1, 1) := by decide +kernel
theorem dX10_shuffle_100 : decode cX10_shuffle 100 = .ok (.iadd, 1) := by decide +kernel
theorem dX10_shuffle_101 : decode cX10_shuffle 101 = .ok (.irem, 1) := by decide +kernel
theorem dX10_shuffle_102 : decode cX10_shuffle 102 = .ok (.invokevirtual 133, 3) := by decide +kernel
theorem dX10_shuffle_105 : decode cX10_shuffle 105 = .ok (.iinc 4 (-1), 3) := by decide +kernel
theorem dX10_shuffle_108 : decode cX10_shuffle 108 = .ok (.goto (-39), 3) := by decide +kernel
theorem dX10_shuffle_111 : decode cX10_shuffle 111 = .ok (.aload_n 0, 1) := by decide +kernel
theorem dX10_shuffle_112 : decode cX10_shuffle 112 = .ok (.invokevirtual 71, 3) := by decide +kernel
theorem dX10_shuffle_115 : decode cX10_shuffle 115 = .ok (.aload_n 0, 1) := by decide +kernel
theorem dX10_shuffle_116 : decode cX10_shuffle 116 = .ok (.getfield 7, 3) := by decide +kernel
theorem dX10_shuffle_119 : decode cX10_shuffle 119 = .ok (.iconst 0, 1) := by decide +kernel
theorem dX10_shuffle_120 : decode cX10_shuffle 120 = .ok (.iaload, 1) := by decide +kernel
theorem dX10_shuffle_121 : decode cX10_shuffle 121 = .ok (.ifCond .ne 7, 3) := by decide +kernel
theorem dX10_shuffle_124 : decode cX10_shuffle 124 = .ok (.iconst (-1), 1) := by decide +kernel
theorem dX10_shuffle_125 : decode cX10_shuffle 125 = .ok (.goto 10, 3) := by decide +kernel
theorem dX10_shuffle_128 : decode cX10_shuffle 128 = .ok (.aload_n 0, 1) := by decide +kernel
theorem dX10_shuffle_129 : decode cX10_shuffle 129 = .ok (.getfield 7, 3) := by decide +kernel
theorem dX10_shuffle_132 : decode cX10_shuffle 132 = .ok (.bipush 50, 2) := by decide +kernel
theorem dX10_shuffle_134 : decode cX10_shuffle 134 = .ok (.iaload, 1) := by decide +kernel
theorem dX10_shuffle_135 : decode cX10_shuffle 135 = .ok (.ireturn, 1) := by decide +kernel
theorem dX10_laysRing_0 : decode cX10_laysRing 0 = .ok (.aload_n 0, 1) := by decide +kernel
theorem dX10_laysRing_1 : decode cX10_laysRing 1 = .ok (.iconst 0, 1) := by decide +kernel
theorem dX10_laysRing_2 : decode cX10_laysRing 2 = .ok (.putfield 146, 3) := by decide +kernel
theorem dX10_laysRing_5 : decode cX10_laysRing 5 = .ok (.iconst 0, 1) := by decide +kernel
theorem dX10_laysRing_6 : decode cX10_laysRing 6 = .ok (.istore_n 2, 1) := by decide +kernel
theorem dX10_laysRing_7 : decode cX10_laysRing 7 = .ok (.iload_n 2, 1) := by decide +kernel
theorem dX10_laysRing_8 : decode cX10_laysRing 8 = .ok (.aload_n 0, 1) := by decide +kernel
theorem dX10_laysRing_9 : decode cX10_laysRing 9 = .ok (.getfield 7, 3) := by decide +kernel
theorem dX10_laysRing_12 : decode cX10_laysRing 12 = .ok (.iconst 0, 1) := by decide +kernel
theorem dX10_laysRing_13 : decode cX10_laysRing 13 = .ok (.iaload, 1) := by decide +kernel
theorem dX10_laysRing_14 : decode cX10_laysRing 14 = .ok (.if_icmp .ge 57, 3) := by decide +kernel
theorem dX10_laysRing_17 : decode cX10_laysRing 17 = .ok (.iload_n 2, 1) := by decide +kernel
theorem dX10_laysRing_18 : decode cX10_laysRing 18 = .ok (.aload_n 0, 1) := by decide +kernel
theorem dX10_laysRing_19 : decode cX10_laysRing 19 = .ok (.getfield 7, 3) := by decide +kernel
theorem dX10_laysRing_22 : decode cX10_laysRing 22 = .ok (.bipush 50, 2) := by decide +kernel
theorem dX10_laysRing_24 : decode cX10_laysRing 24 = .ok (.iload_n 1, 1) := by decide +kernel
theorem dX10_laysRing_25 : decode cX10_laysRing 25 = .ok (.iadd, 1) := by decide +kernel
theorem dX10_laysRing_26 : decode cX10_laysRing 26 = .ok (.iaload, 1) := by decide +kernel
theorem dX10_laysRing_27 : decode cX10_laysRing 27 = .ok (.if_icmp .eq 38, 3) := by decide +kernel
theorem dX10_laysRing_30 : decode cX10_laysRing 30 = .ok (.aload_n 0, 1) := by decide +kernel
theorem dX10_laysRing_31 : decode cX10_laysRing 31 = .ok (.getfield 28, 3) := by decide +kernel
theorem dX10_laysRing_34 : decode cX10_laysRing 34 = .ok (.aload_n 0, 1) := by decide +kernel
theorem dX10_laysRing_35 : decode cX10_laysRing 35 = .ok (.getfield 146, 3) := by decide +kernel
theorem dX10_laysRing_38 : decode cX10_laysRing 38 = .ok (.iload_n 2, 1) := by decide +kernel
theorem dX10_laysRing_39 : decode cX10_laysRing 39 = .ok (.iastore, 1) := by decide +kernel
theorem dX10_laysRing_40 : decode cX10_laysRing 40 = .ok (.aload_n 0, 1) := by decide +kernel
theorem dX10_laysRing_41 : decode cX10_laysRing 41 = .ok (.getfield 25, 3) := by decide +kernel
theorem dX10_laysRing_44 : decode cX10_laysRing 44 = .ok (.aload_n 0, 1) := by decide +kernel
theorem dX10_laysRing_45 : decode cX10_laysRing 45 = .ok (.getfield 146, 3) := by decide +kernel
theorem dX10_laysRing_48 : decode cX10_laysRing 48 = .ok (.aload_n 0, 1) := by decide +kernel
theorem dX10_laysRing_49 : decode cX10_laysRing 49 = .ok (.iload_n 1, 1) := by decide +kernel
theorem dX10_laysRing_50 : decode cX10_laysRing 50 = .ok (.iload_n 2, 1) := by decide +kernel
theorem dX10_laysRing_51 : decode cX10_laysRing 51 = .ok (.invokevirtual 149, 3) := by decide +kernel
theorem dX10_laysRing_54 : decode cX10_laysRing 54 = .ok (.iastore, 1) := by decide +kernel
theorem dX10_laysRing_55 : decode cX10_laysRing 55 = .ok (.aload_n 0, 1) := by decide +kernel
theorem dX10_laysRing_56 : decode cX10_laysRing 56 = .ok (.dup, 1) := by decide +kernel
theorem dX10_laysRing_57 : decode cX10_laysRing 57 = .ok (.getfield 146, 3) := by decide +kernel
theorem dX10_laysRing_60 : decode cX10_laysRing 60 = .ok (.iconst 1, 1) := by decide +kernel
theorem dX10_laysRing_61 : decode cX10_laysRing 61 = .ok (.iadd, 1) := by decide +kernel
theorem dX10_laysRing_62 : decode cX10_laysRing 62 = .ok (.putfield 146, 3) := by decide +kernel
theorem dX10_laysRing_65 : decode cX10_laysRing 65 = .ok (.iinc 2 1, 3) := by decide +kernel
theorem dX10_laysRing_68 : decode cX10_laysRing 68 = .ok (.goto (-61), 3) := by decide +kernel
theorem dX10_laysRing_71 : decode cX10_laysRing 71 = .ok (.return_, 1) := by decide +kernel
theorem dX10_beginsAt_0 : decode cX10_beginsAt 0 = .ok (.aload_n 0, 1) := by decide +kernel
theorem dX10_beginsAt_1 : decode cX10_beginsAt 1 = .ok (.getfield 25, 3) := by decide +kernel
theorem dX10_beginsAt_4 : decode cX10_beginsAt 4 = .ok (.iload_n 1, 1) := by decide +kernel
theorem dX10_beginsAt_5 : decode cX10_beginsAt 5 = .ok (.iaload, 1) := by decide +kernel
theorem dX10_beginsAt_6 : decode cX10_beginsAt 6 = .ok (.aload_n 0, 1) := by decide +kernel
theorem dX10_beginsAt_7 : decode cX10_beginsAt 7 = .ok (.getfield 25, 3) := by decide +kernel
theorem dX10_beginsAt_10 : decode cX10_beginsAt 10 = .ok (.iload_n 1, 1) := by decide +kernel
theorem dX10_beginsAt_11 : decode cX10_beginsAt 11 = .ok (.aload_n 0, 1) := by decide +kernel
theorem dX10_beginsAt_12 : decode cX10_beginsAt 12 = .ok (.getfield 146, 3) := by decide +kernel
theorem dX10_beginsAt_15 : decode cX10_beginsAt 15 = .ok (.iadd, 1) := by decide +kernel
theorem dX10_beginsAt_16 : decode cX10_beginsAt 16 = .ok (.iconst 1, 1) := by decide +kernel
theorem dX10_beginsAt_17 : decode cX10_beginsAt 17 = .ok (.isub, 1) := by decide +kernel
theorem dX10_beginsAt_18 : decode cX10_beginsAt 18 = .ok (.aload_n 0, 1) := by decide +kernel
theorem dX10_beginsAt_19 : decode cX10_beginsAt 19 = .ok (.getfield 146, 3) := by decide +kernel
theorem dX10_beginsAt_22 : decode cX10_beginsAt 22 = .ok (.irem, 1) := by decide +kernel
theorem dX10_beginsAt_23 : decode cX10_beginsAt 23 = .ok (.iaload, 1) := by decide +kernel
theorem dX10_beginsAt_24 : decode cX10_beginsAt 24 = .ok (.if_icmp .eq 7, 3) := by decide +kernel
theorem dX10_beginsAt_27 : decode cX10_beginsAt 27 = .ok (.iconst 1, 1) := by decide +kernel
theorem dX10_beginsAt_28 : decode cX10_beginsAt 28 = .ok (.goto 4, 3) := by decide +kernel
theorem dX10_beginsAt_31 : decode cX10_beginsAt 31 = .ok (.iconst 0, 1) := by decide +kernel
theorem dX10_beginsAt_32 : decode cX10_beginsAt 32 = .ok (.ireturn, 1) := by decide +kernel
theorem dX10_isRound_0 : decode cX10_isRound 0 = .ok (.aload_n 0, 1) := by decide +kernel
theorem dX10_isRound_1 : decode cX10_isRound 1 = .ok (.getfield 146, 3) := by decide +kernel
theorem dX10_isRound_4 : decode cX10_isRound 4 = .ok (.ifCond .le 7, 3) := by decide +kernel
theorem dX10_isRound_7 : decode cX10_isRound 7 = .ok (.iconst 1, 1) := by decide +kernel
theorem dX10_isRound_8 : decode cX10_isRound 8 = .ok (.goto 4, 3) := by decide +kernel
theorem dX10_isRound_11 : decode cX10_isRound 11 = .ok (.iconst 0, 1) := by decide +kernel
theorem dX10_isRound_12 : decode cX10_isRound 12 = .ok (.istore_n 1, 1) := by decide +kernel
theorem dX10_isRound_13 : decode cX10_isRound 13 = .ok (.iconst 1, 1) := by decide +kernel
theorem dX10_isRound_14 : decode cX10_isRound 14 = .ok (.istore_n 2, 1) := by decide +kernel
theorem dX10_isRound_15 : decode cX10_isRound 15 = .ok (.iload_n 2, 1) := by decide +kernel
theorem dX10_isRound_16 : decode cX10_isRound 16 = .ok (.aload_n 0, 1) := by decide +kernel
theorem dX10_isRound_17 : decode cX10_isRound 17 = .ok (.getfield 146, 3) := by decide +kernel
theorem dX10_isRound_20 : decode cX10_isRound 20 = .ok (.if_icmp .ge 34, 3) := by decide +kernel
theorem dX10_isRound_23 : decode cX10_isRound 23 = .ok (.iload_n 1, 1) := by decide +kernel
theorem dX10_isRound_24 : decode cX10_isRound 24 = .ok (.ifCond .eq 22, 3) := by decide +kernel
theorem dX10_isRound_27 : decode cX10_isRound 27 = .ok (.aload_n 0, 1) := by decide +kernel
theorem dX10_isRound_28 : decode cX10_isRound 28 = .ok (.getfield 25, 3) := by decide +kernel
theorem dX10_isRound_31 : decode cX10_isRound 31 = .ok (.iload_n 2, 1) := by decide +kernel
theorem dX10_isRound_32 : decode cX10_isRound 32 = .ok (.iaload, 1) := by decide +kernel
theorem dX10_isRound_33 : decode cX10_isRound 33 = .ok (.aload_n 0, 1) := by decide +kernel
theorem dX10_isRound_34 : decode cX10_isRound 34 = .ok (.getfield 25, 3) := by decide +kernel
theorem dX10_isRound_37 : decode cX10_isRound 37 = .ok (.iconst 0, 1) := by decide +kernel
theorem dX10_isRound_38 : decode cX10_isRound 38 = .ok (.iaload, 1) := by decide +kernel
theorem dX10_isRound_39 : decode cX10_isRound 39 = .ok (.if_icmp .ne 7, 3) := by decide +kernel
theorem dX10_isRound_42 : decode cX10_isRound 42 = .ok (.iconst 1, 1) := by decide +kernel
theorem dX10_isRound_43 : decode cX10_isRound 43 = .ok (.goto 4, 3) := by decide +kernel
theorem dX10_isRound_46 : decode cX10_isRound 46 = .ok (.iconst 0, 1) := by decide +kernel
theorem dX10_isRound_47 : decode cX10_isRound 47 = .ok (.istore_n 1, 1) := by decide +kernel
theorem dX10_isRound_48 : decode cX10_isRound 48 = .ok (.iinc 2 1, 3) := by decide +kernel
theorem dX10_isRound_51 : decode cX10_isRound 51 = .ok (.goto (-36), 3) := by decide +kernel
theorem dX10_isRound_54 : decode cX10_isRound 54 = .ok (.iload_n 1, 1) := by decide +kernel
theorem dX10_isRound_55 : decode cX10_isRound 55 = .ok (.ireturn, 1) := by decide +kernel
theorem dX10_runsOf_0 : decode cX10_runsOf 0 = .ok (.aload_n 0, 1) := by decide +kernel
theorem dX10_runsOf_1 : decode cX10_runsOf 1 = .ok (.invokevirtual 152, 3) := by decide +kernel
theorem dX10_runsOf_4 : decode cX10_runsOf 4 = .ok (.ifCond .eq 19, 3) := by decide +kernel
theorem dX10_runsOf_7 : decode cX10_runsOf 7 = .ok (.aload_n 0, 1) := by decide +kernel
theorem dX10_runsOf_8 : decode cX10_runsOf 8 = .ok (.getfield 25, 3) := by decide +kernel
theorem dX10_runsOf_11 : decode cX10_runsOf 11 = .ok (.iconst 0, 1) := by decide +kernel
theorem dX10_runsOf_12 : decode cX10_runsOf 12 = .ok (.iaload, 1) := by decide +kernel
theorem dX10_runsOf_13 : decode cX10_runsOf 13 = .ok (.iload_n 1, 1) := by decide +kernel
theorem dX10_runsOf_14 : decode cX10_runsOf 14 = .ok (.if_icmp .ne 7, 3) := by decide +kernel
theorem dX10_runsOf_17 : decode cX10_runsOf 17 = .ok (.iconst 1, 1) := by decide +kernel
theorem dX10_runsOf_18 : decode cX10_runsOf 18 = .ok (.goto 4, 3) := by decide +kernel
theorem dX10_runsOf_21 : decode cX10_runsOf 21 = .ok (.iconst 0, 1) := by decide +kernel
theorem dX10_runsOf_22 : decode cX10_runsOf 22 = .ok (.ireturn, 1) := by decide +kernel
theorem dX10_runsOf_23 : decode cX10_runsOf 23 = .ok (.iconst 0, 1) := by decide +kernel
theorem dX10_runsOf_24 : decode cX10_runsOf 24 = .ok (.istore_n 2, 1) := by decide +kernel
theorem dX10_runsOf_25 : decode cX10_runsOf 25 = .ok (.iconst 0, 1) := by decide +kernel
theorem dX10_runsOf_26 : decode cX10_runsOf 26 = .ok (.istore_n 3, 1) := by decide +kernel
theorem dX10_runsOf_27 : decode cX10_runsOf 27 = .ok (.iload_n 3, 1) := by decide +kernel
theorem dX10_runsOf_28 : decode cX10_runsOf 28 = .ok (.aload_n 0, 1) := by decide +kernel
theorem dX10_runsOf_29 : decode cX10_runsOf 29 = .ok (.getfield 146, 3) := by decide +kernel
theorem dX10_runsOf_32 : decode cX10_runsOf 32 = .ok (.if_icmp .ge 35, 3) := by decide +kernel
theorem dX10_runsOf_35 : decode cX10_runsOf 35 = .ok (.iload_n 2, 1) := by decide +kernel
theorem dX10_runsOf_36 : decode cX10_runsOf 36 = .ok (.aload_n 0, 1) := by decide +kernel
theorem dX10_runsOf_37 : decode cX10_runsOf 37 = .ok (.getfield 25, 3) := by decide +kernel
theorem dX10_runsOf_40 : decode cX10_runsOf 40 = .ok (.iload_n 3, 1) := by decide +kernel
theorem dX10_runsOf_41 : decode cX10_runsOf 41 = .ok (.iaload, 1) := by decide +kernel
theorem dX10_runsOf_42 : decode cX10_runsOf 42 = .ok (.iload_n 1, 1) := by decide +kernel
theorem dX10_runsOf_43 : decode cX10_runsOf 43 = .ok (.if_icmp .ne 15, 3) := by decide +kernel
theorem dX10_runsOf_46 : decode cX10_runsOf 46 = .ok (.aload_n 0, 1) := by decide +kernel
theorem dX10_runsOf_47 : decode cX10_runsOf 47 = .ok (.iload_n 3, 1) := by decide +kernel
theorem dX10_runsOf_48 : decode cX10_runsOf 48 = .ok (.invokevirtual 156, 3) := by decide +kernel
theorem dX10_runsOf_51 : decode cX10_runsOf 51 = .ok (.ifCond .eq 7, 3) := by decide +kernel
theorem dX10_runsOf_54 : decode cX10_runsOf 54 = .ok (.iconst 1, 1) := by decide +kernel
theorem dX10_runsOf_55 : decode cX10_runsOf 55 = .ok (.goto 4, 3) := by decide +kernel
theorem dX10_runsOf_58 : decode cX10_runsOf 58 = .ok (.iconst 0, 1) := by decide +kernel
theorem dX10_runsOf_59 : decode cX10_runsOf 59 = .ok (.iadd, 1) := by decide +kernel
theorem dX10_runsOf_60 : decode cX10_runsOf 60 = .ok (.istore_n 2, 1) := by decide +kernel
theorem dX10_runsOf_61 : decode cX10_runsOf 61 = .ok (.iinc 3 1, 3) := by decide +kernel
theorem dX10_runsOf_64 : decode cX10_runsOf 64 = .ok (.goto (-37), 3) := by decide +kernel
theorem dX10_runsOf_67 : decode cX10_runsOf 67 = .ok (.iload_n 2, 1) := by decide +kernel
theorem dX10_runsOf_68 : decode cX10_runsOf 68 = .ok (.ireturn, 1) := by decide +kernel
theorem dX10_ringSize_0 : decode cX10_ringSize 0 = .ok (.iconst 0, 1) := by decide +kernel
theorem dX10_ringSize_1 : decode cX10_ringSize 1 = .ok (.istore_n 1, 1) := by decide +kernel
theorem dX10_ringSize_2 : decode cX10_ringSize 2 = .ok (.iconst 0, 1) := by decide +kernel
theorem dX10_ringSize_3 : decode cX10_ringSize 3 = .ok (.istore_n 2, 1) := by decide +kernel
theorem dX10_ringSize_4 : decode cX10_ringSize 4 = .ok (.iload_n 2, 1) := by decide +kernel
theorem dX10_ringSize_5 : decode cX10_ringSize 5 = .ok (.aload_n 0, 1) := by decide +kernel
theorem dX10_ringSize_6 : decode cX10_ringSize 6 = .ok (.getfield 7, 3) := by decide +kernel
theorem dX10_ringSize_9 : decode cX10_ringSize 9 = .ok (.iconst 1, 1) := by decide +kernel
theorem dX10_ringSize_10 : decode cX10_ringSize 10 = .ok (.iaload, 1) := by decide +kernel
theorem dX10_ringSize_11 : decode cX10_ringSize 11 = .ok (.if_icmp .ge 17, 3) := by decide +kernel
theorem dX10_ringSize_14 : decode cX10_ringSize 14 = .ok (.iload_n 1, 1) := by decide +kernel
theorem dX10_ringSize_15 : decode cX10_ringSize 15 = .ok (.aload_n 0, 1) := by decide +kernel
theorem dX10_ringSize_16 : decode cX10_ringSize 16 = .ok (.iload_n 2, 1) := by decide +kernel
theorem dX10_ringSize_17 : decode cX10_ringSize 17 = .ok (.invokevirtual 159, 3) := by decide +kernel
theorem dX10_ringSize_20 : decode cX10_ringSize 20 = .ok (.iadd, 1) := by decide +kernel
theorem dX10_ringSize_21 : decode cX10_ringSize 21 = .ok (.istore_n 1, 1) := by decide +kernel
theorem dX10_ringSize_22 : decode cX10_ringSize 22 = .ok (.iinc 2 1, 3) := by decide +kernel
theorem dX10_ringSize_25 : decode cX10_ringSize 25 = .ok (.goto (-21), 3) := by decide +kernel
theorem dX10_ringSize_28 : decode cX10_ringSize 28 = .ok (.iload_n 1, 1) := by decide +kernel
theorem dX10_ringSize_29 : decode cX10_ringSize 29 = .ok (.ireturn, 1) := by decide +kernel
theorem dX10_ringMost_0 : decode cX10_ringMost 0 = .ok (.iconst 0, 1) := by decide +kernel
theorem dX10_ringMost_1 : decode cX10_ringMost 1 = .ok (.istore_n 1, 1) := by decide +kernel
theorem dX10_ringMost_2 : decode cX10_ringMost 2 = .ok (.iconst 0, 1) := by decide +kernel
theorem dX10_ringMost_3 : decode cX10_ringMost 3 = .ok (.istore_n 2, 1) := by decide +kernel
theorem dX10_ringMost_4 : decode cX10_ringMost 4 = .ok (.iload_n 2, 1) := by decide +kernel
theorem dX10_ringMost_5 : decode cX10_ringMost 5 = .ok (.aload_n 0, 1) := by decide +kernel
theorem dX10_ringMost_6 : decode cX10_ringMost 6 = .ok (.getfield 7, 3) := by decide +kernel
theorem dX10_ringMost_9 : decode cX10_ringMost 9 = .ok (.iconst 1, 1) := by decide +kernel
theorem dX10_ringMost_10 : decode cX10_ringMost 10 = .ok (.iaload, 1) := by decide +kernel
theorem dX10_ringMost_11 : decode cX10_ringMost 11 = .ok (.if_icmp .ge 28, 3) := by decide +kernel
theorem dX10_ringMost_14 : decode cX10_ringMost 14 = .ok (.aload_n 0, 1) := by decide +kernel
theorem dX10_ringMost_15 : decode cX10_ringMost 15 = .ok (.iload_n 2, 1) := by decide +kernel
theorem dX10_ringMost_16 : decode cX10_ringMost 16 = .ok (.invokevirtual 159, 3) := by decide +kernel
theorem dX10_ringMost_19 : decode cX10_ringMost 19 = .ok (.iload_n 1, 1) := by decide +kernel
theorem dX10_ringMost_20 : decode cX10_ringMost 20 = .ok (.if_icmp .le 11, 3) := by decide +kernel
theorem dX10_ringMost_23 : decode cX10_ringMost 23 = .ok (.aload_n 0, 1) := by decide +kernel
theorem dX10_ringMost_24 : decode cX10_ringMost 24 = .ok (.iload_n 2, 1) := by decide +kernel
theorem dX10_ringMost_25 : decode cX10_ringMost 25 = .ok (.invokevirtual 159, 3) := by decide +kernel
theorem dX10_ringMost_28 : decode cX10_ringMost 28 = .ok (.goto 4, 3) := by decide +kernel
theorem dX10_ringMost_31 : decode cX10_ringMost 31 = .ok (.iload_n 1, 1) := by decide +kernel
theorem dX10_ringMost_32 : decode cX10_ringMost 32 = .ok (.istore_n 1, 1) := by decide +kernel
theorem dX10_ringMost_33 : decode cX10_ringMost 33 = .ok (.iinc 2 1, 3) := by decide +kernel
theorem dX10_ringMost_36 : decode cX10_ringMost 36 = .ok (.goto (-32), 3) := by decide +kernel
theorem dX10_ringMost_39 : decode cX10_ringMost 39 = .ok (.iload_n 1, 1) := by decide +kernel
theorem dX10_ringMost_40 : decode cX10_ringMost 40 = .ok (.ireturn, 1) := by decide +kernel
theorem dX10_cost_0 : decode cX10_cost 0 = .ok (.iload_n 1, 1) := by decide +kernel
theorem dX10_cost_1 : decode cX10_cost 1 = .ok (.bipush 16, 2) := by decide +kernel
theorem dX10_cost_3 : decode cX10_cost 3 = .ok (.if_icmp .eq 12, 3) := by decide +kernel
theorem dX10_cost_6 : decode cX10_cost 6 = .ok (.iload_n 1, 1) := by decide +kernel
theorem dX10_cost_7 : decode cX10_cost 7 = .ok (.iload_n 0, 1) := by decide +kernel
theorem dX10_cost_8 : decode cX10_cost 8 = .ok (.if_icmp .eq 7, 3) := by decide +kernel
theorem dX10_cost_11 : decode cX10_cost 11 = .ok (.iconst 1, 1) := by decide +kernel
theorem dX10_cost_12 : decode cX10_cost 12 = .ok (.goto 4, 3) := by decide +kernel
theorem dX10_cost_15 : decode cX10_cost 15 = .ok (.iconst 0, 1) := by decide +kernel
theorem dX10_cost_16 : decode cX10_cost 16 = .ok (.ireturn, 1) := by decide +kernel
theorem dX10_laysRest_0 : decode cX10_laysRest 0 = .ok (.iconst 0, 1) := by decide +kernel
theorem dX10_laysRest_1 : decode cX10_laysRest 1 = .ok (.istore_n 2, 1) := by decide +kernel
theorem dX10_laysRest_2 : decode cX10_laysRest 2 = .ok (.iload_n 2, 1) := by decide +kernel
theorem dX10_laysRest_3 : decode cX10_laysRest 3 = .ok (.bipush 16, 2) := by decide +kernel
theorem dX10_laysRest_5 : decode cX10_laysRest 5 = .ok (.if_icmp .gt 28, 3) := by decide +kernel
theorem dX10_laysRest_8 : decode cX10_laysRest 8 = .ok (.aload_n 0, 1) := by decide +kernel
theorem dX10_laysRest_9 : decode cX10_laysRest 9 = .ok (.getfield 34, 3) := by decide +kernel
theorem dX10_laysRest_12 : decode cX10_laysRest 12 = .ok (.bipush 17, 2) := by decide +kernel
theorem dX10_laysRest_14 : decode cX10_laysRest 14 = .ok (.aload_n 0, 1) := by decide +kernel
theorem dX10_laysRest_15 : decode cX10_laysRest 15 = .ok (.getfield 146, 3) := by decide +kernel
theorem dX10_laysRest_18 : decode cX10_laysRest 18 = .ok (.imul, 1) := by decide +kernel
theorem dX10_laysRest_19 : decode cX10_laysRest 19 = .ok (.iload_n 2, 1) := by decide +kernel
theorem dX10_laysRest_20 : decode cX10_laysRest 20 = .ok (.iadd, 1) := by decide +kernel
theorem dX10_laysRest_21 : decode cX10_laysRest 21 = .ok (.iload_n 2, 1) := by decide +kernel
theorem dX10_laysRest_22 : decode cX10_laysRest 22 = .ok (.iload_n 1, 1) := by decide +kernel
theorem dX10_laysRest_23 : decode cX10_laysRest 23 = .ok (.invokestatic 162, 3) := by decide +kernel
theorem dX10_laysRest_26 : decode cX10_laysRest 26 = .ok (.iastore, 1) := by decide +kernel
theorem dX10_laysRest_27 : decode cX10_laysRest 27 = .ok (.iinc 2 1, 3) := by decide +kernel
theorem dX10_laysRest_30 : decode cX10_laysRest 30 = .ok (.goto (-28), 3) := by decide +kernel
theorem dX10_laysRest_33 : decode cX10_laysRest 33 = .ok (.aload_n 0, 1) := by decide +kernel
theorem dX10_laysRest_34 : decode cX10_laysRest 34 = .ok (.getfield 146, 3) := by decide +kernel
theorem dX10_laysRest_37 : decode cX10_laysRest 37 = .ok (.iconst 1, 1) := by decide +kernel
theorem dX10_laysRest_38 : decode cX10_laysRest 38 = .ok (.isub, 1) := by decide +kernel
theorem dX10_laysRest_39 : decode cX10_laysRest 39 = .ok (.istore_n 2, 1) := by decide +kernel
theorem dX10_laysRest_40 : decode cX10_laysRest 40 = .ok (.iload_n 2, 1) := by decide +kernel
theorem dX10_laysRest_41 : decode cX10_laysRest 41 = .ok (.ifCond .le 116, 3) := by decide +kernel
theorem dX10_laysRest_44 : decode cX10_laysRest 44 = .ok (.iconst 0, 1) := by decide +kernel
theorem dX10_laysRest_45 : decode cX10_laysRest 45 = .ok (.istore_n 3, 1) := by decide +kernel
theorem dX10_laysRest_46 : decode cX10_laysRest 46 = .ok (.iload_n 3, 1) := by decide +kernel
theorem dX10_laysRest_47 : decode cX10_laysRest 47 = .ok (.bipush 16, 2) := by decide +kernel
theorem dX10_laysRest_49 : decode cX10_laysRest 49 = .ok (.if_icmp .gt 102, 3) := by decide +kernel
theorem dX10_laysRest_52 : decode cX10_laysRest 52 = .ok (.sipush 1000, 3) := by decide +kernel
theorem dX10_laysRest_55 : decode cX10_laysRest 55 = .ok (.istore 4, 2) := by decide +kernel
theorem dX10_laysRest_57 : decode cX10_laysRest 57 = .ok (.iconst 0, 1) := by decide +kernel
theorem dX10_laysRest_58 : decode cX10_laysRest 58 = .ok (.istore 5, 2) := by decide +kernel
theorem dX10_laysRest_60 : decode cX10_laysRest 60 = .ok (.iload 5, 2) := by decide +kernel
theorem dX10_laysRest_62 : decode cX10_laysRest 62 = .ok (.bipush 16, 2) := by decide +kernel
theorem dX10_laysRest_64 : decode cX10_laysRest 64 = .ok (.if_icmp .gt 68, 3) := by decide +kernel
theorem dX10_laysRest_67 : decode cX10_laysRest 67 = .ok (.aload_n 0, 1) := by decide +kernel
theorem dX10_laysRest_68 : decode cX10_laysRest 68 = .ok (.getfield 31, 3) := by decide +kernel
theorem dX10_laysRest_71 : decode cX10_laysRest 71 = .ok (.iload_n 2, 1) := by decide +kernel
theorem dX10_laysRest_72 : decode cX10_laysRest 72 = .ok (.iaload, 1) := by decide +kernel
theorem dX10_laysRest_73 : decode cX10_laysRest 73 = .ok (.iload 5, 2) := by decide +kernel
theorem dX10_laysRest_75 : decode cX10_laysRest 75 = .ok (.invokestatic 120, 3) := by decide +kernel
theorem dX10_laysRest_78 : decode cX10_laysRest 78 = .ok (.ifCond .eq 27, 3) := by decide +kernel
theorem dX10_laysRest_81 : decode cX10_laysRest 81 = .ok (.iload_n 3, 1) := by decide +kernel
theorem dX10_laysRest_82 : decode cX10_laysRest 82 = .ok (.iload 5, 2) := by decide +kernel
theorem dX10_laysRest_84 : decode cX10_laysRest 84 = .ok (.invokestatic 162, 3) := by decide +kernel
theorem dX10_laysRest_87 : decode cX10_laysRest 87 = .ok (.aload_n 0, 1) := by decide +kernel
theorem dX10_laysRest_88 : decode cX10_laysRest 88 = .ok (.getfield 34, 3) := by decide +kernel
theorem dX10_laysRest_91 : decode cX10_laysRest 91 = .ok (.bipush 17, 2) := by decide +kernel
theorem dX10_laysRest_93 : decode cX10_laysRest 93 = .ok (.iload_n 2, 1) := by decide +kernel
theorem dX10_laysRest_94 : decode cX10_laysRest 94 = .ok (.iconst 1, 1) := by decide +kernel
theorem dX10_laysRest_95 : decode cX10_laysRest 95 = .ok (.iadd, 1) := by decide +kernel
theorem dX10_laysRest_96 : decode cX10_laysRest 96 = .ok (.imul, 1) := by decide +kernel
theorem dX10_laysRest_97 : decode cX10_laysRest 97 = .ok (.iload 5, 2) := by decide +kernel
theorem dX10_laysRest_99 : decode cX10_laysRest 99 = .ok (.iadd, 1) := by decide +kernel
theorem dX10_laysRest_100 : decode cX10_laysRest 100 = .ok (.iaload, 1) := by decide +kernel
theorem dX10_laysRest_101 : decode cX10_laysRest 101 = .ok (.iadd, 1) := by decide +kernel
theorem dX10_laysRest_102 : decode cX10_laysRest 102 = .ok (.goto 6, 3) := by decide +kernel
theorem dX10_laysRest_105 : decode cX10_laysRest 105 = .ok (.sipush 1000, 3) := by decide +kernel
theorem dX10_laysRest_108 : decode cX10_laysRest 108 = .ok (.istore 6, 2) := by decide +kernel
theorem dX10_laysRest_110 : decode cX10_laysRest 110 = .ok (.iload 6, 2) := by decide +kernel
theorem dX10_laysRest_112 : decode cX10_laysRest 112 = .ok (.iload 4, 2) := by decide +kernel
theorem dX10_laysRest_114 : decode cX10_laysRest 114 = .ok (.if_icmp .ge 8, 3) := by decide +kernel
theorem dX10_laysRest_117 : decode cX10_laysRest 117 = .ok (.iload 6, 2) := by decide +kernel
theorem dX10_laysRest_119 : decode cX10_laysRest 119 = .ok (.goto 5, 3) := by decide +kernel
theorem dX10_laysRest_122 : decode cX10_laysRest 122 = .ok (.iload 4, 2) := by decide +kernel
theorem dX10_laysRest_124 : decode cX10_laysRest 124 = .ok (.istore 4, 2) := by decide +kernel
theorem dX10_laysRest_126 : decode cX10_laysRest 126 = .ok (.iinc 5 1, 3) := by decide +kernel
theorem dX10_laysRest_129 : decode cX10_laysRest 129 = .ok (.goto (-69), 3) := by decide +kernel
theorem dX10_laysRest_132 : decode cX10_laysRest 132 = .ok (.aload_n 0, 1) := by decide +kernel
theorem dX10_laysRest_133 : decode cX10_laysRest 133 = .ok (.getfield 34, 3) := by decide +kernel
theorem dX10_laysRest_136 : decode cX10_laysRest 136 = .ok (.bipush 17, 2) := by decide +kernel
theorem dX10_laysRest_138 : decode cX10_laysRest 138 = .ok (.iload_n 2, 1) := by decide +kernel
theorem dX10_laysRest_139 : decode cX10_laysRest 139 = .ok (.imul, 1) := by decide +kernel
theorem dX10_laysRest_140 : decode cX10_laysRest 140 = .ok (.iload_n 3, 1) := by decide +kernel
theorem dX10_laysRest_141 : decode cX10_laysRest 141 = .ok (.iadd, 1) := by decide +kernel
theorem dX10_laysRest_142 : decode cX10_laysRest 142 = .ok (.iload 4, 2) := by decide +kernel
theorem dX10_laysRest_144 : decode cX10_laysRest 144 = .ok (.iastore, 1) := by decide +kernel
theorem dX10_laysRest_145 : decode cX10_laysRest 145 = .ok (.iinc 3 1, 3) := by decide +kernel
theorem dX10_laysRest_148 : decode cX10_laysRest 148 = .ok (.goto (-102), 3) := by decide +kernel
theorem dX10_laysRest_151 : decode cX10_laysRest 151 = .ok (.iinc 2 (-1), 3) := by decide +kernel
theorem dX10_laysRest_154 : decode cX10_laysRest 154 = .ok (.goto (-114), 3) := by decide +kernel
theorem dX10_laysRest_157 : decode cX10_laysRest 157 = .ok (.return_, 1) := by decide +kernel
theorem dX10_laysBest_0 : decode cX10_laysBest 0 = .ok (.aload_n 0, 1) := by decide +kernel
theorem dX10_laysBest_1 : decode cX10_laysBest 1 = .ok (.iload_n 1, 1) := by decide +kernel
theorem dX10_laysBest_2 : decode cX10_laysBest 2 = .ok (.invokevirtual 165, 3) := by decide +kernel
theorem dX10_laysBest_5 : decode cX10_laysBest 5 = .ok (.iconst 0, 1) := by decide +kernel
theorem dX10_laysBest_6 : decode cX10_laysBest 6 = .ok (.istore_n 2, 1) := by decide +kernel
theorem dX10_laysBest_7 : decode cX10_laysBest 7 = .ok (.iload_n 2, 1) := by decide +kernel
theorem dX10_laysBest_8 : decode cX10_laysBest 8 = .ok (.aload_n 0, 1) := by decide +kernel
theorem dX10_laysBest_9 : decode cX10_laysBest 9 = .ok (.getfield 146, 3) := by decide +kernel
theorem dX10_laysBest_12 : decode cX10_laysBest 12 = .ok (.if_icmp .ge 41, 3) := by decide +kernel
theorem dX10_laysBest_15 : decode cX10_laysBest 15 = .ok (.aload_n 0, 1) := by decide +kernel
theorem dX10_laysBest_16 : decode cX10_laysBest 16 = .ok (.iload_n 1, 1) := by decide +kernel
theorem dX10_laysBest_17 : decode cX10_laysBest 17 = .ok (.aload_n 0, 1) := by decide +kernel
theorem dX10_laysBest_18 : decode cX10_laysBest 18 = .ok (.aload_n 0, 1) := by decide +kernel
theorem dX10_laysBest_19 : decode cX10_laysBest 19 = .ok (.getfield 28, 3) := by decide +kernel
theorem dX10_laysBest_22 : decode cX10_laysBest 22 = .ok (.iload_n 2, 1) := by decide +kernel
theorem dX10_laysBest_23 : decode cX10_laysBest 23 = .ok (.iaload, 1) := by decide +kernel
theorem dX10_laysBest_24 : decode cX10_laysBest 24 = .ok (.invokevirtual 117, 3) := by decide +kernel
theorem dX10_laysBest_27 : decode cX10_laysBest 27 = .ok (.invokevirtual 110, 3) := by decide +kernel
theorem dX10_laysBest_30 : decode cX10_laysBest 30 = .ok (.istore_n 3, 1) := by decide +kernel
theorem dX10_laysBest_31 : decode cX10_laysBest 31 = .ok (.aload_n 0, 1) := by decide +kernel
theorem dX10_laysBest_32 : decode cX10_laysBest 32 = .ok (.getfield 31, 3) := by decide +kernel
theorem dX10_laysBest_35 : decode cX10_laysBest 35 = .ok (.iload_n 2, 1) := by decide +kernel
theorem dX10_laysBest_36 : decode cX10_laysBest 36 = .ok (.iload_n 3, 1) := by decide +kernel
theorem dX10_laysBest_37 : decode cX10_laysBest 37 = .ok (.ifCond .ne 8, 3) := by decide +kernel
theorem dX10_laysBest_40 : decode cX10_laysBest 40 = .ok (.ldc 168, 2) := by decide +kernel
theorem dX10_laysBest_42 : decode cX10_laysBest 42 = .ok (.goto 4, 3) := by decide +kernel
theorem dX10_laysBest_45 : decode cX10_laysBest 45 = .ok (.iload_n 3, 1) := by decide +kernel
theorem dX10_laysBest_46 : decode cX10_laysBest 46 = .ok (.iastore, 1) := by decide +kernel
theorem dX10_laysBest_47 : decode cX10_laysBest 47 = .ok (.iinc 2 1, 3) := by decide +kernel
theorem dX10_laysBest_50 : decode cX10_laysBest 50 = .ok (.goto (-43), 3) := by decide +kernel
theorem dX10_laysBest_53 : decode cX10_laysBest 53 = .ok (.iconst (-1), 1) := by decide +kernel
theorem dX10_laysBest_54 : decode cX10_laysBest 54 = .ok (.istore_n 2, 1) := by decide +kernel
theorem dX10_laysBest_55 : decode cX10_laysBest 55 = .ok (.sipush 1000, 3) := by decide +kernel
theorem dX10_laysBest_58 : decode cX10_laysBest 58 = .ok (.istore_n 3, 1) := by decide +kernel
theorem dX10_laysBest_59 : decode cX10_laysBest 59 = .ok (.iconst 0, 1) := by decide +kernel
theorem dX10_laysBest_60 : decode cX10_laysBest 60 = .ok (.istore 4, 2) := by decide +kernel
theorem dX10_laysBest_62 : decode cX10_laysBest 62 = .ok (.iload 4, 2) := by decide +kernel
theorem dX10_laysBest_64 : decode cX10_laysBest 64 = .ok (.bipush 16, 2) := by decide +kernel
theorem dX10_laysBest_66 : decode cX10_laysBest 66 = .ok (.if_icmp .gt 86, 3) := by decide +kernel
theorem dX10_laysBest_69 : decode cX10_laysBest 69 = .ok (.aload_n 0, 1) := by decide +kernel
theorem dX10_laysBest_70 : decode cX10_laysBest 70 = .ok (.getfield 146, 3) := by decide +kernel
theorem dX10_laysBest_73 : decode cX10_laysBest 73 = .ok (.ifCond .le 79, 3) := by decide +kernel
theorem dX10_laysBest_76 : decode cX10_laysBest 76 = .ok (.aload_n 0, 1) := by decide +kernel
theorem dX10_laysBest_77 : decode cX10_laysBest 77 = .ok (.getfield 31, 3) := by decide +kernel
theorem dX10_laysBest_80 : decode cX10_laysBest 80 = .ok (.iconst 0, 1) := by decide +kernel
theorem dX10_laysBest_81 : decode cX10_laysBest 81 = .ok (.iaload, 1) := by decide +kernel
theorem dX10_laysBest_82 : decode cX10_laysBest 82 = .ok (.iload 4, 2) := by decide +kernel
theorem dX10_laysBest_84 : decode cX10_laysBest 84 = .ok (.invokestatic 120, 3) := by decide +kernel
theorem dX10_laysBest_87 : decode cX10_laysBest 87 = .ok (.ifCond .eq 59, 3) := by decide +kernel
