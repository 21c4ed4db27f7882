theorem dX9_load_25 : decode cX9_load 25 = .ok (.aload_n 0, 1) := by decide +kernel
theorem dX9_load_26 : decode cX9_load 26 = .ok (.getfield 12, 3) := by decide +kernel
theorem dX9_load_29 : decode cX9_load 29 = .ok (.getfield 126, 3) := by decide +kernel
theorem dX9_load_32 : decode cX9_load 32 = .ok (.if_icmp .ge 40, 3) := by decide +kernel
theorem dX9_load_35 : decode cX9_load 35 = .ok (.iload_n 3, 1) := by decide +kernel
theorem dX9_load_36 : decode cX9_load 36 = .ok (.iload 4, 2) := by decide +kernel
theorem dX9_load_38 : decode cX9_load 38 = .ok (.if_icmp .eq 28, 3) := by decide +kernel
theorem dX9_load_41 : decode cX9_load 41 = .ok (.aload_n 0, 1) := by decide +kernel
theorem dX9_load_42 : decode cX9_load 42 = .ok (.iload_n 3, 1) := by decide +kernel
theorem dX9_load_43 : decode cX9_load 43 = .ok (.iload 4, 2) := by decide +kernel
theorem dX9_load_45 : decode cX9_load 45 = .ok (.iconst (-1), 1) := by decide +kernel
theorem dX9_load_46 : decode cX9_load 46 = .ok (.invokevirtual 275, 3) := by decide +kernel
theorem dX9_load_49 : decode cX9_load 49 = .ok (.ifCond .eq 17, 3) := by decide +kernel
theorem dX9_load_52 : decode cX9_load 52 = .ok (.aload_n 0, 1) := by decide +kernel
theorem dX9_load_53 : decode cX9_load 53 = .ok (.getfield 57, 3) := by decide +kernel
theorem dX9_load_56 : decode cX9_load 56 = .ok (.iload_n 1, 1) := by decide +kernel
theorem dX9_load_57 : decode cX9_load 57 = .ok (.invokevirtual 279, 3) := by decide +kernel
theorem dX9_load_60 : decode cX9_load 60 = .ok (.ifCond .eq 6, 3) := by decide +kernel
theorem dX9_load_63 : decode cX9_load 63 = .ok (.iinc 2 1, 3) := by decide +kernel
theorem dX9_load_66 : decode cX9_load 66 = .ok (.iinc 4 1, 3) := by decide +kernel
theorem dX9_load_69 : decode cX9_load 69 = .ok (.goto (-46), 3) := by decide +kernel
theorem dX9_load_72 : decode cX9_load 72 = .ok (.iinc 3 1, 3) := by decide +kernel
theorem dX9_load_75 : decode cX9_load 75 = .ok (.goto (-66), 3) := by decide +kernel
theorem dX9_load_78 : decode cX9_load 78 = .ok (.iload_n 2, 1) := by decide +kernel
theorem dX9_load_79 : decode cX9_load 79 = .ok (.ireturn, 1) := by decide +kernel
theorem dX9_lostWithout_0 : decode cX9_lostWithout 0 = .ok (.aload_n 0, 1) := by decide +kernel
theorem dX9_lostWithout_1 : decode cX9_lostWithout 1 = .ok (.iload_n 1, 1) := by decide +kernel
theorem dX9_lostWithout_2 : decode cX9_lostWithout 2 = .ok (.invokevirtual 116, 3) := by decide +kernel
theorem dX9_lostWithout_5 : decode cX9_lostWithout 5 = .ok (.iconst 0, 1) := by decide +kernel
theorem dX9_lostWithout_6 : decode cX9_lostWithout 6 = .ok (.istore_n 2, 1) := by decide +kernel
theorem dX9_lostWithout_7 : decode cX9_lostWithout 7 = .ok (.iconst 0, 1) := by decide +kernel
theorem dX9_lostWithout_8 : decode cX9_lostWithout 8 = .ok (.istore_n 3, 1) := by decide +kernel
theorem dX9_lostWithout_9 : decode cX9_lostWithout 9 = .ok (.iload_n 3, 1) := by decide +kernel
theorem dX9_lostWithout_10 : decode cX9_lostWithout 10 = .ok (.aload_n 0, 1) := by decide +kernel
theorem dX9_lostWithout_11 : decode cX9_lostWithout 11 = .ok (.getfield 12, 3) := by decide +kernel
theorem dX9_lostWithout_14 : decode cX9_lostWithout 14 = .ok (.getfield 126, 3) := by decide +kernel
theorem dX9_lostWithout_17 : decode cX9_lostWithout 17 = .ok (.if_icmp .ge 61, 3) := by decide +kernel
theorem dX9_lostWithout_20 : decode cX9_lostWithout 20 = .ok (.iconst 0, 1) := by decide +kernel
theorem dX9_lostWithout_21 : decode cX9_lostWithout 21 = .ok (.istore 4, 2) := by decide +kernel
theorem dX9_lostWithout_23 : decode cX9_lostWithout 23 = .ok (.iload 4, 2) := by decide +kernel
theorem dX9_lostWithout_25 : decode cX9_lostWithout 25 = .ok (.aload_n 0, 1) := by decide +kernel
theorem dX9_lostWithout_26 : decode cX9_lostWithout 26 = .ok (.getfield 12, 3) := by decide +kernel
theorem dX9_lostWithout_29 : decode cX9_lostWithout 29 = .ok (.getfield 126, 3) := by decide +kernel
theorem dX9_lostWithout_32 : decode cX9_lostWithout 32 = .ok (.if_icmp .ge 40, 3) := by decide +kernel
theorem dX9_lostWithout_35 : decode cX9_lostWithout 35 = .ok (.iload_n 3, 1) := by decide +kernel
theorem dX9_lostWithout_36 : decode cX9_lostWithout 36 = .ok (.iload 4, 2) := by decide +kernel
theorem dX9_lostWithout_38 : decode cX9_lostWithout 38 = .ok (.if_icmp .eq 28, 3) := by decide +kernel
theorem dX9_lostWithout_41 : decode cX9_lostWithout 41 = .ok (.aload_n 0, 1) := by decide +kernel
theorem dX9_lostWithout_42 : decode cX9_lostWithout 42 = .ok (.iload_n 3, 1) := by decide +kernel
theorem dX9_lostWithout_43 : decode cX9_lostWithout 43 = .ok (.iload 4, 2) := by decide +kernel
theorem dX9_lostWithout_45 : decode cX9_lostWithout 45 = .ok (.iconst (-1), 1) := by decide +kernel
theorem dX9_lostWithout_46 : decode cX9_lostWithout 46 = .ok (.invokevirtual 275, 3) := by decide +kernel
theorem dX9_lostWithout_49 : decode cX9_lostWithout 49 = .ok (.ifCond .eq 17, 3) := by decide +kernel
theorem dX9_lostWithout_52 : decode cX9_lostWithout 52 = .ok (.aload_n 0, 1) := by decide +kernel
theorem dX9_lostWithout_53 : decode cX9_lostWithout 53 = .ok (.iload_n 3, 1) := by decide +kernel
theorem dX9_lostWithout_54 : decode cX9_lostWithout 54 = .ok (.iload 4, 2) := by decide +kernel
theorem dX9_lostWithout_56 : decode cX9_lostWithout 56 = .ok (.iload_n 1, 1) := by decide +kernel
theorem dX9_lostWithout_57 : decode cX9_lostWithout 57 = .ok (.invokevirtual 275, 3) := by decide +kernel
theorem dX9_lostWithout_60 : decode cX9_lostWithout 60 = .ok (.ifCond .ne 6, 3) := by decide +kernel
theorem dX9_lostWithout_63 : decode cX9_lostWithout 63 = .ok (.iinc 2 1, 3) := by decide +kernel
theorem dX9_lostWithout_66 : decode cX9_lostWithout 66 = .ok (.iinc 4 1, 3) := by decide +kernel
theorem dX9_lostWithout_69 : decode cX9_lostWithout 69 = .ok (.goto (-46), 3) := by decide +kernel
theorem dX9_lostWithout_72 : decode cX9_lostWithout 72 = .ok (.iinc 3 1, 3) := by decide +kernel
theorem dX9_lostWithout_75 : decode cX9_lostWithout 75 = .ok (.goto (-66), 3) := by decide +kernel
theorem dX9_lostWithout_78 : decode cX9_lostWithout 78 = .ok (.iload_n 2, 1) := by decide +kernel
theorem dX9_lostWithout_79 : decode cX9_lostWithout 79 = .ok (.ireturn, 1) := by decide +kernel
theorem dX9_bestCompactness_0 : decode cX9_bestCompactness 0 = .ok (.aload_n 0, 1) := by decide +kernel
theorem dX9_bestCompactness_1 : decode cX9_bestCompactness 1 = .ok (.invokevirtual 157, 3) := by decide +kernel
theorem dX9_bestCompactness_4 : decode cX9_bestCompactness 4 = .ok (.aload_n 0, 1) := by decide +kernel
theorem dX9_bestCompactness_5 : decode cX9_bestCompactness 5 = .ok (.getfield 50, 3) := by decide +kernel
theorem dX9_bestCompactness_8 : decode cX9_bestCompactness 8 = .ok (.aload_n 0, 1) := by decide +kernel
theorem dX9_bestCompactness_9 : decode cX9_bestCompactness 9 = .ok (.getfield 29, 3) := by decide +kernel
theorem dX9_bestCompactness_12 : decode cX9_bestCompactness 12 = .ok (.aload_n 0, 1) := by decide +kernel
theorem dX9_bestCompactness_13 : decode cX9_bestCompactness 13 = .ok (.getfield 12, 3) := by decide +kernel
theorem dX9_bestCompactness_16 : decode cX9_bestCompactness 16 = .ok (.getfield 126, 3) := by decide +kernel
theorem dX9_bestCompactness_19 : decode cX9_bestCompactness 19 = .ok (.aload_n 0, 1) := by decide +kernel
theorem dX9_bestCompactness_20 : decode cX9_bestCompactness 20 = .ok (.getfield 43, 3) := by decide +kernel
theorem dX9_bestCompactness_23 : decode cX9_bestCompactness 23 = .ok (.invokevirtual 171, 3) := by decide +kernel
theorem dX9_bestCompactness_26 : decode cX9_bestCompactness 26 = .ok (.aload_n 0, 1) := by decide +kernel
theorem dX9_bestCompactness_27 : decode cX9_bestCompactness 27 = .ok (.getfield 50, 3) := by decide +kernel
theorem dX9_bestCompactness_30 : decode cX9_bestCompactness 30 = .ok (.getfield 282, 3) := by decide +kernel
theorem dX9_bestCompactness_33 : decode cX9_bestCompactness 33 = .ok (.ireturn, 1) := by decide +kernel
theorem dX9_labelings_0 : decode cX9_labelings 0 = .ok (.aload_n 0, 1) := by decide +kernel
theorem dX9_labelings_1 : decode cX9_labelings 1 = .ok (.iload_n 1, 1) := by decide +kernel
theorem dX9_labelings_2 : decode cX9_labelings 2 = .ok (.iconst 0, 1) := by decide +kernel
theorem dX9_labelings_3 : decode cX9_labelings 3 = .ok (.bipush 9, 2) := by decide +kernel
theorem dX9_labelings_5 : decode cX9_labelings 5 = .ok (.invokevirtual 75, 3) := by decide +kernel
theorem dX9_labelings_8 : decode cX9_labelings 8 = .ok (.aload_n 0, 1) := by decide +kernel
theorem dX9_labelings_9 : decode cX9_labelings 9 = .ok (.invokevirtual 157, 3) := by decide +kernel
theorem dX9_labelings_12 : decode cX9_labelings 12 = .ok (.aload_n 0, 1) := by decide +kernel
theorem dX9_labelings_13 : decode cX9_labelings 13 = .ok (.getfield 50, 3) := by decide +kernel
theorem dX9_labelings_16 : decode cX9_labelings 16 = .ok (.aload_n 0, 1) := by decide +kernel
theorem dX9_labelings_17 : decode cX9_labelings 17 = .ok (.getfield 29, 3) := by decide +kernel
theorem dX9_labelings_20 : decode cX9_labelings 20 = .ok (.aload_n 0, 1) := by decide +kernel
theorem dX9_labelings_21 : decode cX9_labelings 21 = .ok (.getfield 12, 3) := by decide +kernel
theorem dX9_labelings_24 : decode cX9_labelings 24 = .ok (.getfield 126, 3) := by decide +kernel
theorem dX9_labelings_27 : decode cX9_labelings 27 = .ok (.aload_n 0, 1) := by decide +kernel
theorem dX9_labelings_28 : decode cX9_labelings 28 = .ok (.getfield 43, 3) := by decide +kernel
theorem dX9_labelings_31 : decode cX9_labelings 31 = .ok (.invokevirtual 171, 3) := by decide +kernel
theorem dX9_labelings_34 : decode cX9_labelings 34 = .ok (.aload_n 0, 1) := by decide +kernel
theorem dX9_labelings_35 : decode cX9_labelings 35 = .ok (.getfield 50, 3) := by decide +kernel
theorem dX9_labelings_38 : decode cX9_labelings 38 = .ok (.iload_n 1, 1) := by decide +kernel
theorem dX9_labelings_39 : decode cX9_labelings 39 = .ok (.invokevirtual 285, 3) := by decide +kernel
theorem dX9_labelings_42 : decode cX9_labelings 42 = .ok (.ireturn, 1) := by decide +kernel
theorem dX9_append_0 : decode cX9_append 0 = .ok (.aload_n 0, 1) := by decide +kernel
theorem dX9_append_1 : decode cX9_append 1 = .ok (.iload_n 1, 1) := by decide +kernel
theorem dX9_append_2 : decode cX9_append 2 = .ok (.iconst 0, 1) := by decide +kernel
theorem dX9_append_3 : decode cX9_append 3 = .ok (.bipush 127, 2) := by decide +kernel
theorem dX9_append_5 : decode cX9_append 5 = .ok (.invokevirtual 75, 3) := by decide +kernel
theorem dX9_append_8 : decode cX9_append 8 = .ok (.aload_n 0, 1) := by decide +kernel
theorem dX9_append_9 : decode cX9_append 9 = .ok (.getfield 71, 3) := by decide +kernel
theorem dX9_append_12 : decode cX9_append 12 = .ok (.getfield 288, 3) := by decide +kernel
theorem dX9_append_15 : decode cX9_append 15 = .ok (.bipush 100, 2) := by decide +kernel
theorem dX9_append_17 : decode cX9_append 17 = .ok (.if_icmp .lt 14, 3) := by decide +kernel
theorem dX9_append_20 : decode cX9_append 20 = .ok (.new 108, 3) := by decide +kernel
theorem dX9_append_23 : decode cX9_append 23 = .ok (.dup, 1) := by decide +kernel
theorem dX9_append_24 : decode cX9_append 24 = .ok (.ldc_w 291, 3) := by decide +kernel
theorem dX9_append_27 : decode cX9_append 27 = .ok (.invokespecial 112, 3) := by decide +kernel
theorem dX9_append_30 : decode cX9_append 30 = .ok (.athrow, 1) := by decide +kernel
theorem dX9_append_31 : decode cX9_append 31 = .ok (.aload_n 0, 1) := by decide +kernel
theorem dX9_append_32 : decode cX9_append 32 = .ok (.getfield 71, 3) := by decide +kernel
theorem dX9_append_35 : decode cX9_append 35 = .ok (.iload_n 1, 1) := by decide +kernel
theorem dX9_append_36 : decode cX9_append 36 = .ok (.invokevirtual 293, 3) := by decide +kernel
theorem dX9_append_39 : decode cX9_append 39 = .ok (.aload_n 0, 1) := by decide +kernel
theorem dX9_append_40 : decode cX9_append 40 = .ok (.getfield 71, 3) := by decide +kernel
theorem dX9_append_43 : decode cX9_append 43 = .ok (.getfield 288, 3) := by decide +kernel
theorem dX9_append_46 : decode cX9_append 46 = .ok (.ireturn, 1) := by decide +kernel
theorem dX9_clearText_0 : decode cX9_clearText 0 = .ok (.aload_n 0, 1) := by decide +kernel
theorem dX9_clearText_1 : decode cX9_clearText 1 = .ok (.getfield 71, 3) := by decide +kernel
theorem dX9_clearText_4 : decode cX9_clearText 4 = .ok (.getfield 288, 3) := by decide +kernel
theorem dX9_clearText_7 : decode cX9_clearText 7 = .ok (.istore_n 1, 1) := by decide +kernel
theorem dX9_clearText_8 : decode cX9_clearText 8 = .ok (.aload_n 0, 1) := by decide +kernel
theorem dX9_clearText_9 : decode cX9_clearText 9 = .ok (.getfield 71, 3) := by decide +kernel
theorem dX9_clearText_12 : decode cX9_clearText 12 = .ok (.iconst 0, 1) := by decide +kernel
theorem dX9_clearText_13 : decode cX9_clearText 13 = .ok (.putfield 288, 3) := by decide +kernel
theorem dX9_clearText_16 : decode cX9_clearText 16 = .ok (.iload_n 1, 1) := by decide +kernel
theorem dX9_clearText_17 : decode cX9_clearText 17 = .ok (.ireturn, 1) := by decide +kernel
theorem dX9_parse_0 : decode cX9_parse 0 = .ok (.aload_n 0, 1) := by decide +kernel
theorem dX9_parse_1 : decode cX9_parse 1 = .ok (.getfield 71, 3) := by decide +kernel
theorem dX9_parse_4 : decode cX9_parse 4 = .ok (.aload_n 0, 1) := by decide +kernel
theorem dX9_parse_5 : decode cX9_parse 5 = .ok (.getfield 16, 3) := by decide +kernel
theorem dX9_parse_8 : decode cX9_parse 8 = .ok (.invokevirtual 296, 3) := by decide +kernel
theorem dX9_parse_11 : decode cX9_parse 11 = .ok (.istore_n 1, 1) := by decide +kernel
theorem dX9_parse_12 : decode cX9_parse 12 = .ok (.iload_n 1, 1) := by decide +kernel
theorem dX9_parse_13 : decode cX9_parse 13 = .ok (.iconst (-1), 1) := by decide +kernel
theorem dX9_parse_14 : decode cX9_parse 14 = .ok (.if_icmp .eq 8, 3) := by decide +kernel
theorem dX9_parse_17 : decode cX9_parse 17 = .ok (.bipush (-10), 2) := by decide +kernel
theorem dX9_parse_19 : decode cX9_parse 19 = .ok (.iload_n 1, 1) := by decide +kernel
theorem dX9_parse_20 : decode cX9_parse 20 = .ok (.isub, 1) := by decide +kernel
theorem dX9_parse_21 : decode cX9_parse 21 = .ok (.ireturn, 1) := by decide +kernel
theorem dX9_parse_22 : decode cX9_parse 22 = .ok (.aload_n 0, 1) := by decide +kernel
theorem dX9_parse_23 : decode cX9_parse 23 = .ok (.getfield 22, 3) := by decide +kernel
theorem dX9_parse_26 : decode cX9_parse 26 = .ok (.aload_n 0, 1) := by decide +kernel
theorem dX9_parse_27 : decode cX9_parse 27 = .ok (.getfield 12, 3) := by decide +kernel
theorem dX9_parse_30 : decode cX9_parse 30 = .ok (.invokevirtual 83, 3) := by decide +kernel
theorem dX9_parse_33 : decode cX9_parse 33 = .ok (.aload_n 0, 1) := by decide +kernel
theorem dX9_parse_34 : decode cX9_parse 34 = .ok (.getfield 12, 3) := by decide +kernel
theorem dX9_parse_37 : decode cX9_parse 37 = .ok (.aload_n 0, 1) := by decide +kernel
theorem dX9_parse_38 : decode cX9_parse 38 = .ok (.getfield 16, 3) := by decide +kernel
theorem dX9_parse_41 : decode cX9_parse 41 = .ok (.invokevirtual 300, 3) := by decide +kernel
theorem dX9_parse_44 : decode cX9_parse 44 = .ok (.aload_n 0, 1) := by decide +kernel
theorem dX9_parse_45 : decode cX9_parse 45 = .ok (.invokevirtual 91, 3) := by decide +kernel
theorem dX9_parse_48 : decode cX9_parse 48 = .ok (.aload_n 0, 1) := by decide +kernel
theorem dX9_parse_49 : decode cX9_parse 49 = .ok (.getfield 12, 3) := by decide +kernel
theorem dX9_parse_52 : decode cX9_parse 52 = .ok (.getfield 79, 3) := by decide +kernel
theorem dX9_parse_55 : decode cX9_parse 55 = .ok (.ireturn, 1) := by decide +kernel
theorem dX9_undo_0 : decode cX9_undo 0 = .ok (.aload_n 0, 1) := by decide +kernel
theorem dX9_undo_1 : decode cX9_undo 1 = .ok (.getfield 22, 3) := by decide +kernel
theorem dX9_undo_4 : decode cX9_undo 4 = .ok (.getfield 303, 3) := by decide +kernel
theorem dX9_undo_7 : decode cX9_undo 7 = .ok (.ifCond .ne 14, 3) := by decide +kernel
theorem dX9_undo_10 : decode cX9_undo 10 = .ok (.new 108, 3) := by decide +kernel
theorem dX9_undo_13 : decode cX9_undo 13 = .ok (.dup, 1) := by decide +kernel
theorem dX9_undo_14 : decode cX9_undo 14 = .ok (.ldc_w 306, 3) := by decide +kernel
theorem dX9_undo_17 : decode cX9_undo 17 = .ok (.invokespecial 112, 3) := by decide +kernel
theorem dX9_undo_20 : decode cX9_undo 20 = .ok (.athrow, 1) := by decide +kernel
theorem dX9_undo_21 : decode cX9_undo 21 = .ok (.aload_n 0, 1) := by decide +kernel
theorem dX9_undo_22 : decode cX9_undo 22 = .ok (.getfield 22, 3) := by decide +kernel
theorem dX9_undo_25 : decode cX9_undo 25 = .ok (.aload_n 0, 1) := by decide +kernel
theorem dX9_undo_26 : decode cX9_undo 26 = .ok (.getfield 12, 3) := by decide +kernel
theorem dX9_undo_29 : decode cX9_undo 29 = .ok (.invokevirtual 308, 3) := by decide +kernel
theorem dX9_undo_32 : decode cX9_undo 32 = .ok (.aload_n 0, 1) := by decide +kernel
theorem dX9_undo_33 : decode cX9_undo 33 = .ok (.invokevirtual 311, 3) := by decide +kernel
theorem dX9_undo_36 : decode cX9_undo 36 = .ok (.aload_n 0, 1) := by decide +kernel
theorem dX9_undo_37 : decode cX9_undo 37 = .ok (.getfield 22, 3) := by decide +kernel
theorem dX9_undo_40 : decode cX9_undo 40 = .ok (.getfield 303, 3) := by decide +kernel
theorem dX9_undo_43 : decode cX9_undo 43 = .ok (.ireturn, 1) := by decide +kernel
theorem dX9_digest_0 : decode cX9_digest 0 = .ok (.ldc2_w 314, 3) := by decide +kernel
theorem dX9_digest_3 : decode cX9_digest 3 = .ok (.lstore_n 1, 1) := by decide +kernel
theorem dX9_digest_4 : decode cX9_digest 4 = .ok (.ldc2_w 316, 3) := by decide +kernel
theorem dX9_digest_7 : decode cX9_digest 7 = .ok (.lload_n 1, 1) := by decide +kernel
theorem dX9_digest_8 : decode cX9_digest 8 = .ok (.lmul, 1) := by decide +kernel
theorem dX9_digest_9 : decode cX9_digest 9 = .ok (.aload_n 0, 1) := by decide +kernel
theorem dX9_digest_10 : decode cX9_digest 10 = .ok (.getfield 71, 3) := by decide +kernel
theorem dX9_digest_13 : decode cX9_digest 13 = .ok (.getfield 288, 3) := by decide +kernel
theorem dX9_digest_16 : decode cX9_digest 16 = .ok (.i2l, 1) := by decide +kernel
theorem dX9_digest_17 : decode cX9_digest 17 = .ok (.ladd, 1) := by decide +kernel
theorem dX9_digest_18 : decode cX9_digest 18 = .ok (.lstore_n 1, 1) := by decide +kernel
theorem dX9_digest_19 : decode cX9_digest 19 = .ok (.aload_n 0, 1) := by decide +kernel
theorem dX9_digest_20 : decode cX9_digest 20 = .ok (.getfield 12, 3) := by decide +kernel
theorem dX9_digest_23 : decode cX9_digest 23 = .ok (.lload_n 1, 1) := by decide +kernel
theorem dX9_digest_24 : decode cX9_digest 24 = .ok (.invokevirtual 318, 3) := by decide +kernel
theorem dX9_digest_27 : decode cX9_digest 27 = .ok (.lstore_n 1, 1) := by decide +kernel
theorem dX9_digest_28 : decode cX9_digest 28 = .ok (.ldc2_w 316, 3) := by decide +kernel
theorem dX9_digest_31 : decode cX9_digest 31 = .ok (.lload_n 1, 1) := by decide +kernel
theorem dX9_digest_32 : decode cX9_digest 32 = .ok (.lmul, 1) := by decide +kernel
theorem dX9_digest_33 : decode cX9_digest 33 = .ok (.aload_n 0, 1) := by decide +kernel
theorem dX9_digest_34 : decode cX9_digest 34 = .ok (.invokevirtual 239, 3) := by decide +kernel
theorem dX9_digest_37 : decode cX9_digest 37 = .ok (.i2l, 1) := by decide +kernel
theorem dX9_digest_38 : decode cX9_digest 38 = .ok (.ladd, 1) := by decide +kernel
theorem dX9_digest_39 : decode cX9_digest 39 = .ok (.lstore_n 1, 1) := by decide +kernel
theorem dX9_digest_40 : decode cX9_digest 40 = .ok (.ldc2_w 316, 3) := by decide +kernel
theorem dX9_digest_43 : decode cX9_digest 43 = .ok (.lload_n 1, 1) := by decide +kernel
theorem dX9_digest_44 : decode cX9_digest 44 = .ok (.lmul, 1) := by decide +kernel
theorem dX9_digest_45 : decode cX9_digest 45 = .ok (.aload_n 0, 1) := by decide +kernel
theorem dX9_digest_46 : decode cX9_digest 46 = .ok (.invokevirtual 322, 3) := by decide +kernel
theorem dX9_digest_49 : decode cX9_digest 49 = .ok (.i2l, 1) := by decide +kernel
theorem dX9_digest_50 : decode cX9_digest 50 = .ok (.ladd, 1) := by decide +kernel
theorem dX9_digest_51 : decode cX9_digest 51 = .ok (.lstore_n 1, 1) := by decide +kernel
theorem dX9_digest_52 : decode cX9_digest 52 = .ok (.iconst 0, 1) := by decide +kernel
theorem dX9_digest_53 : decode cX9_digest 53 = .ok (.istore_n 3, 1) := by decide +kernel
theorem dX9_digest_54 : decode cX9_digest 54 = .ok (.iload_n 3, 1) := by decide +kernel
theorem dX9_digest_55 : decode cX9_digest 55 = .ok (.iconst 5, 1) := by decide +kernel
theorem dX9_digest_56 : decode cX9_digest 56 = .ok (.if_icmp .ge 22, 3) := by decide +kernel
theorem dX9_digest_59 : decode cX9_digest 59 = .ok (.ldc2_w 316, 3) := by decide +kernel
theorem dX9_digest_62 : decode cX9_digest 62 = .ok (.lload_n 1, 1) := by decide +kernel
theorem dX9_digest_63 : decode cX9_digest 63 = .ok (.lmul, 1) := by decide +kernel
theorem dX9_digest_64 : decode cX9_digest 64 = .ok (.aload_n 0, 1) := by decide +kernel
theorem dX9_digest_65 : decode cX9_digest 65 = .ok (.iload_n 3, 1) := by decide +kernel
theorem dX9_digest_66 : decode cX9_digest 66 = .ok (.invokevirtual 253, 3) := by decide +kernel
theorem dX9_digest_69 : decode cX9_digest 69 = .ok (.i2l, 1) := by decide +kernel
theorem dX9_digest_70 : decode cX9_digest 70 = .ok (.ladd, 1) := by decide +kernel
theorem dX9_digest_71 : decode cX9_digest 71 = .ok (.lstore_n 1, 1) := by decide +kernel
theorem dX9_digest_72 : decode cX9_digest 72 = .ok (.iinc 3 1, 3) := by decide +kernel
theorem dX9_digest_75 : decode cX9_digest 75 = .ok (.goto (-21), 3) := by decide +kernel
theorem dX9_digest_78 : decode cX9_digest 78 = .ok (.ldc2_w 316, 3) := by decide +kernel
theorem dX9_digest_81 : decode cX9_digest 81 = .ok (.lload_n 1, 1) := by decide +kernel
theorem dX9_digest_82 : decode cX9_digest 82 = .ok (.lmul, 1) := by decide +kernel
theorem dX9_digest_83 : decode cX9_digest 83 = .ok (.aload_n 0, 1) := by decide +kernel
theorem dX9_digest_84 : decode cX9_digest 84 = .ok (.invokevirtual 325, 3) := by decide +kernel
theorem dX9_digest_87 : decode cX9_digest 87 = .ok (.i2l, 1) := by decide +kernel
theorem dX9_digest_88 : decode cX9_digest 88 = .ok (.ladd, 1) := by decide +kernel
theorem dX9_digest_89 : decode cX9_digest 89 = .ok (.lstore_n 1, 1) := by decide +kernel
theorem dX9_digest_90 : decode cX9_digest 90 = .ok (.ldc2_w 316, 3) := by decide +kernel
theorem dX9_digest_93 : decode cX9_digest 93 = .ok (.lload_n 1, 1) := by decide +kernel
theorem dX9_digest_94 : decode cX9_digest 94 = .ok (.lmul, 1) := by decide +kernel
theorem dX9_digest_95 : decode cX9_digest 95 = .ok (.aload_n 0, 1) := by decide +kernel
theorem dX9_digest_96 : decode cX9_digest 96 = .ok (.getfield 22, 3) := by decide +kernel
theorem dX9_digest_99 : decode cX9_digest 99 = .ok (.getfield 303, 3) := by decide +kernel
theorem dX9_digest_102 : decode cX9_digest 102 = .ok (.i2l, 1) := by decide +kernel
theorem dX9_digest_103 : decode cX9_digest 103 = .ok (.ladd, 1) := by decide +kernel
theorem dX9_digest_104 : decode cX9_digest 104 = .ok (.lreturn, 1) := by decide +kernel
theorem dX9_needRange_0 : decode cX9_needRange 0 = .ok (.iload_n 1, 1) := by decide +kernel
theorem dX9_needRange_1 : decode cX9_needRange 1 = .ok (.iload_n 2, 1) := by decide +kernel
theorem dX9_needRange_2 : decode cX9_needRange 2 = .ok (.if_icmp .lt 8, 3) := by decide +kernel
theorem dX9_needRange_5 : decode cX9_needRange 5 = .ok (.iload_n 1, 1) := by decide +kernel
theorem dX9_needRange_6 : decode cX9_needRange 6 = .ok (.iload_n 3, 1) := by decide +kernel
theorem dX9_needRange_7 : decode cX9_needRange 7 = .ok (.if_icmp .le 14, 3) := by decide +kernel
theorem dX9_needRange_10 : decode cX9_needRange 10 = .ok (.new 101, 3) := by decide +kernel
theorem dX9_needRange_13 : decode cX9_needRange 13 = .ok (.dup, 1) := by decide +kernel
theorem dX9_needRange_14 : decode cX9_needRange 14 = .ok (.ldc_w 328, 3) := by decide +kernel
theorem dX9_needRange_17 : decode cX9_needRange 17 = .ok (.invokespecial 105, 3) := by decide +kernel
theorem dX9_needRange_20 : decode cX9_needRange 20 = .ok (.athrow, 1) := by decide +kernel
theorem dX9_needRange_21 : decode cX9_needRange 21 = .ok (.return_, 1) := by decide +kernel
theorem dX9_needNode_0 : decode cX9_needNode 0 = .ok (.iload_n 1, 1) := by decide +kernel
theorem dX9_needNode_1 : decode cX9_needNode 1 = .ok (.ifCond .lt 14, 3) := by decide +kernel
theorem dX9_needNode_4 : decode cX9_needNode 4 = .ok (.iload_n 1, 1) := by decide +kernel
theorem dX9_needNode_5 : decode cX9_needNode 5 = .ok (.aload_n 0, 1) := by decide +kernel
theorem dX9_needNode_6 : decode cX9_needNode 6 = .ok (.getfield 12, 3) := by decide +kernel
theorem dX9_needNode_9 : decode cX9_needNode 9 = .ok (.getfield 126, 3) := by decide +kernel
theorem dX9_needNode_12 : decode cX9_needNode 12 = .ok (.if_icmp .lt 14, 3) := by decide +kernel
theorem dX9_needNode_15 : decode cX9_needNode 15 = .ok (.new 225, 3) := by decide +kernel
theorem dX9_needNode_18 : decode cX9_needNode 18 = .ok (.dup, 1) := by decide +kernel
theorem dX9_needNode_19 : decode cX9_needNode 19 = .ok (.ldc_w 330, 3) := by decide +kernel
theorem dX9_needNode_22 : decode cX9_needNode 22 = .ok (.invokespecial 227, 3) := by decide +kernel
theorem dX9_needNode_25 : decode cX9_needNode 25 = .ok (.athrow, 1) := by decide +kernel
theorem dX9_needNode_26 : decode cX9_needNode 26 = .ok (.return_, 1) := by decide +kernel
theorem dX9_needLabel_0 : decode cX9_needLabel 0 = .ok (.iload_n 1, 1) := by decide +kernel
theorem dX9_needLabel_1 : decode cX9_needLabel 1 = .ok (.ifCond .lt 14, 3) := by decide +kernel
theorem dX9_needLabel_4 : decode cX9_needLabel 4 = .ok (.iload_n 1, 1) := by decide +kernel
theorem dX9_needLabel_5 : decode cX9_needLabel 5 = .ok (.aload_n 0, 1) := by decide +kernel
theorem dX9_needLabel_6 : decode cX9_needLabel 6 = .ok (.getfield 12, 3) := by decide +kernel
theorem dX9_needLabel_9 : decode cX9_needLabel 9 = .ok (.getfield 126, 3) := by decide +kernel
theorem dX9_needLabel_12 : decode cX9_needLabel 12 = .ok (.if_icmp .lt 14, 3) := by decide +kernel
theorem dX9_needLabel_15 : decode cX9_needLabel 15 = .ok (.new 225, 3) := by decide +kernel
theorem dX9_needLabel_18 : decode cX9_needLabel 18 = .ok (.dup, 1) := by decide +kernel
theorem dX9_needLabel_19 : decode cX9_needLabel 19 = .ok (.ldc_w 332, 3) := by decide +kernel
theorem dX9_needLabel_22 : decode cX9_needLabel 22 = .ok (.invokespecial 227, 3) := by decide +kernel
theorem dX9_needLabel_25 : decode cX9_needLabel 25 = .ok (.athrow, 1) := by decide +kernel
theorem dX9_needLabel_26 : decode cX9_needLabel 26 = .ok (.return_, 1) := by decide +kernel
theorem dX9_needLink_0 : decode cX9_needLink 0 = .ok (.iload_n 1, 1) := by decide +kernel
theorem dX9_needLink_1 : decode cX9_needLink 1 = .ok (.ifCond .lt 14, 3) := by decide +kernel
theorem dX9_needLink_4 : decode cX9_needLink 4 = .ok (.iload_n 1, 1) := by decide +kernel
theorem dX9_needLink_5 : decode cX9_needLink 5 = .ok (.aload_n 0, 1) := by decide +kernel
theorem dX9_needLink_6 : decode cX9_needLink 6 = .ok (.getfield 12, 3) := by decide +kernel
theorem dX9_needLink_9 : decode cX9_needLink 9 = .ok (.getfield 79, 3) := by decide +kernel
theorem dX9_needLink_12 : decode cX9_needLink 12 = .ok (.if_icmp .lt 14, 3) := by decide +kernel
theorem dX9_needLink_15 : decode cX9_needLink 15 = .ok (.new 225, 3) := by decide +kernel
theorem dX9_needLink_18 : decode cX9_needLink 18 = .ok (.dup, 1) := by decide +kernel
theorem dX9_needLink_19 : decode cX9_needLink 19 = .ok (.ldc_w 334, 3) := by decide +kernel
theorem dX9_needLink_22 : decode cX9_needLink 22 = .ok (.invokespecial 227, 3) := by decide +kernel
theorem dX9_needLink_25 : decode cX9_needLink 25 = .ok (.athrow, 1) := by decide +kernel
theorem dX9_needLink_26 : decode cX9_needLink 26 = .ok (.return_, 1) := by decide +kernel
theorem dX9_needSearchable_0 : decode cX9_needSearchable 0 = .ok (.aload_n 0, 1) := by decide +kernel
theorem dX9_needSearchable_1 : decode cX9_needSearchable 1 = .ok (.getfield 12, 3) := by decide +kernel
theorem dX9_needSearchable_4 : decode cX9_needSearchable 4 = .ok (.getfield 126, 3) := by decide +kernel
theorem dX9_needSearchable_7 : decode cX9_needSearchable 7 = .ok (.bipush 6, 2) := by decide +kernel
theorem dX9_needSearchable_9 : decode cX9_needSearchable 9 = .ok (.if_icmp .le 14, 3) := by decide +kernel
theorem dX9_needSearchable_12 : decode cX9_needSearchable 12 = .ok (.new 108, 3) := by decide +kernel
theorem dX9_needSearchable_15 : decode cX9_needSearchable 15 = .ok (.dup, 1) := by decide +kernel
theorem dX9_needSearchable_16 : decode cX9_needSearchable 16 = .ok (.ldc_w 336, 3) := by decide +kernel
theorem dX9_needSearchable_19 : decode cX9_needSearchable 19 = .ok (.invokespecial 112, 3) := by decide +kernel
theorem dX9_needSearchable_22 : decode cX9_needSearchable 22 = .ok (.athrow, 1) := by decide +kernel
theorem dX9_needSearchable_23 : decode cX9_needSearchable 23 = .ok (.return_, 1) := by decide +kernel
theorem dX9_networkChanged_0 : decode cX9_networkChanged 0 = .ok (.aload_n 0, 1) := by decide +kernel
theorem dX9_networkChanged_1 : decode cX9_networkChanged 1 = .ok (.getfield 12, 3) := by decide +kernel
theorem dX9_networkChanged_4 : decode cX9_networkChanged 4 = .ok (.invokevirtual 178, 3) := by decide +kernel
theorem dX9_networkChanged_7 : decode cX9_networkChanged 7 = .ok (.aload_n 0, 1) := by decide +kernel
theorem dX9_networkChanged_8 : decode cX9_networkChanged 8 = .ok (.invokevirtual 311, 3) := by decide +kernel
theorem dX9_networkChanged_11 : decode cX9_networkChanged 11 = .ok (.return_, 1) := by decide +kernel
theorem dX9_measureNetwork_0 : decode cX9_measureNetwork 0 = .ok (.aload_n 0, 1) := by decide +kernel
theorem dX9_measureNetwork_1 : decode cX9_measureNetwork 1 = .ok (.getfield 29, 3) := by decide +kernel
theorem dX9_measureNetwork_4 : decode cX9_measureNetwork 4 = .ok (.aload_n 0, 1) := by decide +kernel
theorem dX9_measureNetwork_5 : decode cX9_measureNetwork 5 = .ok (.getfield 12, 3) := by decide +kernel
theorem dX9_measureNetwork_8 : decode cX9_measureNetwork 8 = .ok (.invokevirtual 338, 3) := by decide +kernel
theorem dX9_measureNetwork_11 : decode cX9_measureNetwork 11 = .ok (.aload_n 0, 1) := by decide +kernel
theorem dX9_measureNetwork_12 : decode cX9_measureNetwork 12 = .ok (.getfield 50, 3) := by decide +kernel
theorem dX9_measureNetwork_15 : decode cX9_measureNetwork 15 = .ok (.invokevirtual 341, 3) := by decide +kernel
theorem dX9_measureNetwork_18 : decode cX9_measureNetwork 18 = .ok (.return_, 1) := by decide +kernel
theorem dX9_isRing_0 : decode cX9_isRing 0 = .ok (.aload_n 0, 1) := by decide +kernel
theorem dX9_isRing_1 : decode cX9_isRing 1 = .ok (.getfield 12, 3) := by decide +kernel
theorem dX9_isRing_4 : decode cX9_isRing 4 = .ok (.getfield 126, 3) := by decide +kernel
theorem dX9_isRing_7 : decode cX9_isRing 7 = .ok (.iconst 3, 1) := by decide +kernel
theorem dX9_isRing_8 : decode cX9_isRing 8 = .ok (.if_icmp .ge 5, 3) := by decide +kernel
theorem dX9_isRing_11 : decode cX9_isRing 11 = .ok (.iconst 0, 1) := by decide +kernel
theorem dX9_isRing_12 : decode cX9_isRing 12 = .ok (.ireturn, 1) := by decide +kernel
theorem dX9_isRing_13 : decode cX9_isRing 13 = .ok (.iconst 0, 1) := by decide +kernel
theorem dX9_isRing_14 : decode cX9_isRing 14 = .ok (.istore_n 1, 1) := by decide +kernel
theorem dX9_isRing_15 : decode cX9_isRing 15 = .ok (.iload_n 1, 1) := by decide +kernel
theorem dX9_isRing_16 : decode cX9_isRing 16 = .ok (.aload_n 0, 1) := by decide +kernel
theorem dX9_isRing_17 : decode cX9_isRing 17 = .ok (.getfield 12, 3) := by decide +kernel
theorem dX9_isRing_20 : decode cX9_isRing 20 = .ok (.getfield 126, 3) := by decide +kernel
theorem dX9_isRing_23 : decode cX9_isRing 23 = .ok (.if_icmp .ge 23, 3) := by decide +kernel
theorem dX9_isRing_26 : decode cX9_isRing 26 = .ok (.aload_n 0, 1) := by decide +kernel
theorem dX9_isRing_27 : decode cX9_isRing 27 = .ok (.getfield 12, 3) := by decide +kernel
theorem dX9_isRing_30 : decode cX9_isRing 30 = .ok (.iload_n 1, 1) := by decide +kernel
theorem dX9_isRing_31 : decode cX9_isRing 31 = .ok (.invokevirtual 344, 3) := by decide +kernel
theorem dX9_isRing_34 : decode cX9_isRing 34 = .ok (.iconst 2, 1) := by decide +kernel
theorem dX9_isRing_35 : decode cX9_isRing 35 = .ok (.if_icmp .eq 5, 3) := by decide +kernel
theorem dX9_isRing_38 : decode cX9_isRing 38 = .ok (.iconst 0, 1) := by decide +kernel
theorem dX9_isRing_39 : decode cX9_isRing 39 = .ok (.ireturn, 1) := by decide +kernel
theorem dX9_isRing_40 : decode cX9_isRing 40 = .ok (.iinc 1 1, 3) := by decide +kernel
theorem dX9_isRing_43 : decode cX9_isRing 43 = .ok (.goto (-28), 3) := by decide +kernel
theorem dX9_isRing_46 : decode cX9_isRing 46 = .ok (.iconst 1, 1) := by decide +kernel
theorem dX9_isRing_47 : decode cX9_isRing 47 = .ok (.ireturn, 1) := by decide +kernel
theorem dX9_networkSize_0 : decode cX9_networkSize 0 = .ok (.iconst 0, 1) := by decide +kernel
theorem dX9_networkSize_1 : decode cX9_networkSize 1 = .ok (.istore_n 1, 1) := by decide +kernel
theorem dX9_networkSize_2 : decode cX9_networkSize 2 = .ok (.iconst 0, 1) := by decide +kernel
theorem dX9_networkSize_3 : decode cX9_networkSize 3 = .ok (.istore_n 2, 1) := by decide +kernel
theorem dX9_networkSize_4 : decode cX9_networkSize 4 = .ok (.iload_n 2, 1) := by decide +kernel
theorem dX9_networkSize_5 : decode cX9_networkSize 5 = .ok (.aload_n 0, 1) := by decide +kernel
theorem dX9_networkSize_6 : decode cX9_networkSize 6 = .ok (.getfield 12, 3) := by decide +kernel
theorem dX9_networkSize_9 : decode cX9_networkSize 9 = .ok (.getfield 126, 3) := by decide +kernel
theorem dX9_networkSize_12 : decode cX9_networkSize 12 = .ok (.if_icmp .ge 31, 3) := by decide +kernel
theorem dX9_networkSize_15 : decode cX9_networkSize 15 = .ok (.aload_n 0, 1) := by decide +kernel
theorem dX9_networkSize_16 : decode cX9_networkSize 16 = .ok (.getfield 36, 3) := by decide +kernel
theorem dX9_networkSize_19 : decode cX9_networkSize 19 = .ok (.aload_n 0, 1) := by decide +kernel
theorem dX9_networkSize_20 : decode cX9_networkSize 20 = .ok (.getfield 12, 3) := by decide +kernel
theorem dX9_networkSize_23 : decode cX9_networkSize 23 = .ok (.iload_n 2, 1) := by decide +kernel
theorem dX9_networkSize_24 : decode cX9_networkSize 24 = .ok (.invokevirtual 219, 3) := by decide +kernel
theorem dX9_networkSize_27 : decode cX9_networkSize 27 = .ok (.iload_n 1, 1) := by decide +kernel
theorem dX9_networkSize_28 : decode cX9_networkSize 28 = .ok (.aload_n 0, 1) := by decide +kernel
theorem dX9_networkSize_29 : decode cX9_networkSize 29 = .ok (.getfield 36, 3) := by decide +kernel
theorem dX9_networkSize_32 : decode cX9_networkSize 32 = .ok (.invokevirtual 203, 3) := by decide +kernel
theorem dX9_networkSize_35 : decode cX9_networkSize 35 = .ok (.iadd, 1) := by decide +kernel
theorem dX9_networkSize_36 : decode cX9_networkSize 36 = .ok (.istore_n 1, 1) := by decide +kernel
theorem dX9_networkSize_37 : decode cX9_networkSize 37 = .ok (.iinc 2 1, 3) := by decide +kernel
theorem dX9_networkSize_40 : decode cX9_networkSize 40 = .ok (.goto (-36), 3) := by decide +kernel
theorem dX9_networkSize_43 : decode cX9_networkSize 43 = .ok (.iload_n 1, 1) := by decide +kernel
theorem dX9_networkSize_44 : decode cX9_networkSize 44 = .ok (.ireturn, 1) := by decide +kernel
theorem dX9_judge_0 : decode cX9_judge 0 = .ok (.iload_n 1, 1) := by decide +kernel
theorem dX9_judge_1 : decode cX9_judge 1 = .ok (.iload_n 2, 1) := by decide +kernel
theorem dX9_judge_2 : decode cX9_judge 2 = .ok (.if_icmp .ne 5, 3) := by decide +kernel
theorem dX9_judge_5 : decode cX9_judge 5 = .ok (.iconst 0, 1) := by decide +kernel
theorem dX9_judge_6 : decode cX9_judge 6 = .ok (.ireturn, 1) := by decide +kernel
theorem dX9_judge_7 : decode cX9_judge 7 = .ok (.aload_n 0, 1) := by decide +kernel
theorem dX9_judge_8 : decode cX9_judge 8 = .ok (.getfield 29, 3) := by decide +kernel
theorem dX9_judge_11 : decode cX9_judge 11 = .ok (.iload_n 1, 1) := by decide +kernel
theorem dX9_judge_12 : decode cX9_judge 12 = .ok (.iload_n 2, 1) := by decide +kernel
theorem dX9_judge_13 : decode cX9_judge 13 = .ok (.invokevirtual 133, 3) := by decide +kernel
theorem dX9_judge_16 : decode cX9_judge 16 = .ok (.sipush 1000, 3) := by decide +kernel
theorem dX9_judge_19 : decode cX9_judge 19 = .ok (.if_icmp .ne 5, 3) := by decide +kernel
theorem dX9_judge_22 : decode cX9_judge 22 = .ok (.iconst 4, 1) := by decide +kernel
theorem dX9_judge_23 : decode cX9_judge 23 = .ok (.ireturn, 1) := by decide +kernel
theorem dX9_judge_24 : decode cX9_judge 24 = .ok (.aload_n 0, 1) := by decide +kernel
theorem dX9_judge_25 : decode cX9_judge 25 = .ok (.getfield 12, 3) := by decide +kernel
theorem dX9_judge_28 : decode cX9_judge 28 = .ok (.iload_n 1, 1) := by decide +kernel
theorem dX9_judge_29 : decode cX9_judge 29 = .ok (.aload_n 0, 1) := by decide +kernel
theorem dX9_judge_30 : decode cX9_judge 30 = .ok (.getfield 12, 3) := by decide +kernel
theorem dX9_judge_33 : decode cX9_judge 33 = .ok (.getfield 147, 3) := by decide +kernel
theorem dX9_judge_36 : decode cX9_judge 36 = .ok (.iload_n 2, 1) := by decide +kernel
theorem dX9_judge_37 : decode cX9_judge 37 = .ok (.iaload, 1) := by decide +kernel
theorem dX9_judge_38 : decode cX9_judge 38 = .ok (.invokevirtual 216, 3) := by decide +kernel
theorem dX9_judge_41 : decode cX9_judge 41 = .ok (.istore_n 3, 1) := by decide +kernel
theorem dX9_judge_42 : decode cX9_judge 42 = .ok (.iload_n 3, 1) := by decide +kernel
theorem dX9_judge_43 : decode cX9_judge 43 = .ok (.iconst (-1), 1) := by decide +kernel
theorem dX9_judge_44 : decode cX9_judge 44 = .ok (.if_icmp .ne 5, 3) := by decide +kernel
theorem dX9_judge_47 : decode cX9_judge 47 = .ok (.iconst 3, 1) := by decide +kernel
theorem dX9_judge_48 : decode cX9_judge 48 = .ok (.ireturn, 1) := by decide +kernel
theorem dX9_judge_49 : decode cX9_judge 49 = .ok (.aload_n 0, 1) := by decide +kernel
theorem dX9_judge_50 : decode cX9_judge 50 = .ok (.getfield 29, 3) := by decide +kernel
theorem dX9_judge_53 : decode cX9_judge 53 = .ok (.iload_n 1, 1) := by decide +kernel
theorem dX9_judge_54 : decode cX9_judge 54 = .ok (.iload_n 2, 1) := by decide +kernel
theorem dX9_judge_55 : decode cX9_judge 55 = .ok (.invokevirtual 136, 3) := by decide +kernel
theorem dX9_judge_58 : decode cX9_judge 58 = .ok (.iload_n 3, 1) := by decide +kernel
theorem dX9_judge_59 : decode cX9_judge 59 = .ok (.ishr, 1) := by decide +kernel
theorem dX9_judge_60 : decode cX9_judge 60 = .ok (.iconst 1, 1) := by decide +kernel
theorem dX9_judge_61 : decode cX9_judge 61 = .ok (.iand, 1) := by decide +kernel
theorem dX9_judge_62 : decode cX9_judge 62 = .ok (.iconst 1, 1) := by decide +kernel
theorem dX9_judge_63 : decode cX9_judge 63 = .ok (.if_icmp .ne 7, 3) := by decide +kernel
theorem dX9_judge_66 : decode cX9_judge 66 = .ok (.iconst 1, 1) := by decide +kernel
theorem dX9_judge_67 : decode cX9_judge 67 = .ok (.goto 4, 3) := by decide +kernel
theorem dX9_judge_70 : decode cX9_judge 70 = .ok (.iconst 2, 1) := by decide +kernel
theorem dX9_judge_71 : decode cX9_judge 71 = .ok (.ireturn, 1) := by decide +kernel
theorem dX9_pairsJudged_0 : decode cX9_pairsJudged 0 = .ok (.iconst 0, 1) := by decide +kernel
theorem dX9_pairsJudged_1 : decode cX9_pairsJudged 1 = .ok (.istore_n 2, 1) := by decide +kernel
theorem dX9_pairsJudged_2 : decode cX9_pairsJudged 2 = .ok (.iconst 0, 1) := by decide +kernel
theorem dX9_pairsJudged_3 : decode cX9_pairsJudged 3 = .ok (.istore_n 3, 1) := by decide +kernel
theorem dX9_pairsJudged_4 : decode cX9_pairsJudged 4 = .ok (.iload_n 3, 1) := by decide +kernel
theorem dX9_pairsJudged_5 : decode cX9_pairsJudged 5 = .ok (.aload_n 0, 1) := by decide +kernel
theorem dX9_pairsJudged_6 : decode cX9_pairsJudged 6 = .ok (.getfield 12, 3) := by decide +kernel
theorem dX9_pairsJudged_9 : decode cX9_pairsJudged 9 = .ok (.getfield 126, 3) := by decide +kernel
theorem dX9_pairsJudged_12 : decode cX9_pairsJudged 12 = .ok (.if_icmp .ge 44, 3) := by decide +kernel
theorem dX9_pairsJudged_15 : decode cX9_pairsJudged 15 = .ok (.iconst 0, 1) := by decide +kernel
theorem dX9_pairsJudged_16 : decode cX9_pairsJudged 16 = .ok (.istore 4, 2) := by decide +kernel
theorem dX9_pairsJudged_18 : decode cX9_pairsJudged 18 = .ok (.iload 4, 2) := by decide +kernel
theorem dX9_pairsJudged_20 : decode cX9_pairsJudged 20 = .ok (.aload_n 0, 1) := by decide +kernel
theorem dX9_pairsJudged_21 : decode cX9_pairsJudged 21 = .ok (.getfield 12, 3) := by decide +kernel
theorem dX9_pairsJudged_24 : decode cX9_pairsJudged 24 = .ok (.getfield 126, 3) := by decide +kernel
theorem dX9_pairsJudged_27 : decode cX9_pairsJudged 27 = .ok (.if_icmp .ge 23, 3) := by decide +kernel
theorem dX9_pairsJudged_30 : decode cX9_pairsJudged 30 = .ok (.aload_n 0, 1) := by decide +kernel
theorem dX9_pairsJudged_31 : decode cX9_pairsJudged 31 = .ok (.iload_n 3, 1) := by decide +kernel
theorem dX9_pairsJudged_32 : decode cX9_pairsJudged 32 = .ok (.iload 4, 2) := by decide +kernel
theorem dX9_pairsJudged_34 : decode cX9_pairsJudged 34 = .ok (.invokevirtual 250, 3) := by decide +kernel
theorem dX9_pairsJudged_37 : decode cX9_pairsJudged 37 = .ok (.iload_n 1, 1) := by decide +kernel
theorem dX9_pairsJudged_38 : decode cX9_pairsJudged 38 = .ok (.if_icmp .ne 6, 3) := by decide +kernel
theorem dX9_pairsJudged_41 : decode cX9_pairsJudged 41 = .ok (.iinc 2 1, 3) := by decide +kernel
theorem dX9_pairsJudged_44 : decode cX9_pairsJudged 44 = .ok (.iinc 4 1, 3) := by decide +kernel
theorem dX9_pairsJudged_47 : decode cX9_pairsJudged 47 = .ok (.goto (-29), 3) := by decide +kernel
theorem dX9_pairsJudged_50 : decode cX9_pairsJudged 50 = .ok (.iinc 3 1, 3) := by decide +kernel
theorem dX9_pairsJudged_53 : decode cX9_pairsJudged 53 = .ok (.goto (-49), 3) := by decide +kernel
theorem dX9_pairsJudged_56 : decode cX9_pairsJudged 56 = .ok (.iload_n 2, 1) := by decide +kernel
theorem dX9_pairsJudged_57 : decode cX9_pairsJudged 57 = .ok (.ireturn, 1) := by decide +kernel
theorem dX9_arrives_0 : decode cX9_arrives 0 = .ok (.aload_n 0, 1) := by decide +kernel
theorem dX9_arrives_1 : decode cX9_arrives 1 = .ok (.getfield 57, 3) := by decide +kernel
theorem dX9_arrives_4 : decode cX9_arrives 4 = .ok (.aload_n 0, 1) := by decide +kernel
theorem dX9_arrives_5 : decode cX9_arrives 5 = .ok (.getfield 12, 3) := by decide +kernel
theorem dX9_arrives_8 : decode cX9_arrives 8 = .ok (.iload_n 1, 1) := by decide +kernel
theorem dX9_arrives_9 : decode cX9_arrives 9 = .ok (.iload_n 2, 1) := by decide +kernel
theorem dX9_arrives_10 : decode cX9_arrives 10 = .ok (.iload_n 3, 1) := by decide +kernel
theorem dX9_arrives_11 : decode cX9_arrives 11 = .ok (.invokevirtual 256, 3) := by decide +kernel
theorem dX9_arrives_14 : decode cX9_arrives 14 = .ok (.aload_n 0, 1) := by decide +kernel
theorem dX9_arrives_15 : decode cX9_arrives 15 = .ok (.getfield 57, 3) := by decide +kernel
theorem dX9_arrives_18 : decode cX9_arrives 18 = .ok (.getfield 260, 3) := by decide +kernel
theorem dX9_arrives_21 : decode cX9_arrives 21 = .ok (.ireturn, 1) := by decide +kernel
