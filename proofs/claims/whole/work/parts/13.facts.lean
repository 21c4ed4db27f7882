theorem sh_0 : shT[0]? = some (.inl 9) := rfl
theorem sh_1 : shT[1]? = some (.inl 6) := rfl
theorem sh_2 : shT[2]? = some (.inr (0, 16)) := rfl
theorem sh_3 : shT[3]? = some (.inr (0, 16)) := rfl
theorem sh_4 : shT[4]? = some (.inr (0, 16)) := rfl
theorem sh_5 : shT[5]? = some (.inr (0, 9)) := rfl
theorem sh_6 : shT[6]? = some (.inr (0, 81)) := rfl
theorem sh_7 : shT[7]? = some (.inl 6) := rfl
theorem sh_8 : shT[8]? = some (.inr (0, 16)) := rfl
theorem sh_9 : shT[9]? = some (.inr (0, 16)) := rfl
theorem sh_10 : shT[10]? = some (.inr (0, 16)) := rfl
theorem sh_11 : shT[11]? = some (.inr (0, 9)) := rfl
theorem sh_12 : shT[12]? = some (.inr (0, 81)) := rfl
theorem sh_13 : shT[13]? = some (.inl 0) := rfl
theorem sh_14 : shT[14]? = some (.inr (2, 4)) := rfl
theorem sh_15 : shT[15]? = some (.inl 6) := rfl
theorem sh_16 : shT[16]? = some (.inr (0, 16)) := rfl
theorem sh_17 : shT[17]? = some (.inr (0, 16)) := rfl
theorem sh_18 : shT[18]? = some (.inr (0, 16)) := rfl
theorem sh_19 : shT[19]? = some (.inr (0, 9)) := rfl
theorem sh_20 : shT[20]? = some (.inr (0, 81)) := rfl
theorem sh_21 : shT[21]? = some (.inl 6) := rfl
theorem sh_22 : shT[22]? = some (.inr (0, 16)) := rfl
theorem sh_23 : shT[23]? = some (.inr (0, 16)) := rfl
theorem sh_24 : shT[24]? = some (.inr (0, 16)) := rfl
theorem sh_25 : shT[25]? = some (.inr (0, 9)) := rfl
theorem sh_26 : shT[26]? = some (.inr (0, 81)) := rfl
theorem sh_27 : shT[27]? = some (.inl 6) := rfl
theorem sh_28 : shT[28]? = some (.inr (0, 16)) := rfl
theorem sh_29 : shT[29]? = some (.inr (0, 16)) := rfl
theorem sh_30 : shT[30]? = some (.inr (0, 16)) := rfl
theorem sh_31 : shT[31]? = some (.inr (0, 9)) := rfl
theorem sh_32 : shT[32]? = some (.inr (0, 81)) := rfl
theorem sh_33 : shT[33]? = some (.inl 6) := rfl
theorem sh_34 : shT[34]? = some (.inr (0, 16)) := rfl
theorem sh_35 : shT[35]? = some (.inr (0, 16)) := rfl
theorem sh_36 : shT[36]? = some (.inr (0, 16)) := rfl
theorem sh_37 : shT[37]? = some (.inr (0, 9)) := rfl
theorem sh_38 : shT[38]? = some (.inr (0, 81)) := rfl
theorem sh_39 : shT[39]? = some (.inl 8) := rfl
theorem sh_40 : shT[40]? = some (.inr (0, 81)) := rfl
theorem sh_41 : shT[41]? = some (.inr (0, 81)) := rfl
theorem sh_42 : shT[42]? = some (.inr (0, 648)) := rfl
theorem sh_43 : shT[43]? = some (.inr (0, 81)) := rfl
theorem sh_44 : shT[44]? = some (.inl 4) := rfl
theorem sh_45 : shT[45]? = some (.inr (0, 9)) := rfl
theorem sh_46 : shT[46]? = some (.inl 7) := rfl
theorem sh_47 : shT[47]? = some (.inr (0, 9)) := rfl
theorem sh_48 : shT[48]? = some (.inr (0, 9)) := rfl
theorem sh_49 : shT[49]? = some (.inr (0, 72)) := rfl
theorem sh_50 : shT[50]? = some (.inr (0, 72)) := rfl
theorem sh_51 : shT[51]? = some (.inl 5) := rfl
theorem sh_52 : shT[52]? = some (.inr (0, 6)) := rfl
theorem sh_53 : shT[53]? = some (.inr (0, 6)) := rfl
theorem sh_54 : shT[54]? = some (.inr (0, 10)) := rfl
theorem sh_55 : shT[55]? = some (.inl 4) := rfl
theorem sh_56 : shT[56]? = some (.inr (0, 9)) := rfl
theorem sh_57 : shT[57]? = some (.inl 2) := rfl
theorem sh_58 : shT[58]? = some (.inr (0, 10)) := rfl
theorem sh_59 : shT[59]? = some (.inr (0, 9)) := rfl
theorem sh_60 : shT[60]? = some (.inl 1) := rfl
theorem sh_61 : shT[61]? = some (.inr (0, 9)) := rfl
theorem sh_62 : shT[62]? = some (.inl 3) := rfl
theorem sh_63 : shT[63]? = some (.inr (0, 100)) := rfl
theorem sh_64 : shT[64]? = some (.inl 10) := rfl
theorem sh_65 : shT[65]? = some (.inr (0, 140)) := rfl
theorem sh_66 : shT[66]? = some (.inr (0, 560)) := rfl
theorem sh_67 : shT[67]? = some (.inr (0, 100)) := rfl
theorem sh_68 : shT[68]? = some (.inr (0, 81)) := rfl
theorem sh_69 : shT[69]? = some (.inr (0, 9)) := rfl
theorem sh_70 : shT[70]? = some (.inr (0, 8)) := rfl
theorem sh_71 : shT[71]? = some (.inr (0, 8)) := rfl
theorem sh_72 : shT[72]? = some (.inr (0, 8)) := rfl
theorem sh_73 : shT[73]? = some (.inr (0, 153)) := rfl
theorem sh_74 : shT[74]? = some (.inr (0, 10)) := rfl
theorem sh_75 : shT[75]? = some (.inr (0, 9)) := rfl
theorem sh_76 : shT[76]? = some (.inr (0, 9)) := rfl
theorem sh_77 : shT[77]? = some (.inr (0, 10)) := rfl
theorem sh_78 : shT[78]? = some (.inr (0, 140)) := rfl
theorem sh_79 : shT[79]? = some (.inr (1, 1)) := rfl
theorem so_4_1 {s : Nat} (h : shT[s]? = some (.inl 4)) : shT[s + 1]? = some (.inr (0, 9)) := by
  have hs := sh_lt h
  have key : ∀ k, k < 80 → shT[k]? = some (.inl 4) → shT[k + 1]? = some (.inr (0, 9)) := by decide +kernel
  exact key s hs h
theorem so_6_2 {s : Nat} (h : shT[s]? = some (.inl 6)) : shT[s + 1]? = some (.inr (0, 16)) := by
  have hs := sh_lt h
  have key : ∀ k, k < 80 → shT[k]? = some (.inl 6) → shT[k + 1]? = some (.inr (0, 16)) := by decide +kernel
  exact key s hs h
theorem so_6_3 {s : Nat} (h : shT[s]? = some (.inl 6)) : shT[s + 2]? = some (.inr (0, 16)) := by
  have hs := sh_lt h
  have key : ∀ k, k < 80 → shT[k]? = some (.inl 6) → shT[k + 2]? = some (.inr (0, 16)) := by decide +kernel
  exact key s hs h
theorem so_6_4 {s : Nat} (h : shT[s]? = some (.inl 6)) : shT[s + 3]? = some (.inr (0, 16)) := by
  have hs := sh_lt h
  have key : ∀ k, k < 80 → shT[k]? = some (.inl 6) → shT[k + 3]? = some (.inr (0, 16)) := by decide +kernel
  exact key s hs h
theorem so_6_5 {s : Nat} (h : shT[s]? = some (.inl 6)) : shT[s + 4]? = some (.inr (0, 9)) := by
  have hs := sh_lt h
  have key : ∀ k, k < 80 → shT[k]? = some (.inl 6) → shT[k + 4]? = some (.inr (0, 9)) := by decide +kernel
  exact key s hs h
theorem so_6_6 {s : Nat} (h : shT[s]? = some (.inl 6)) : shT[s + 5]? = some (.inr (0, 81)) := by
  have hs := sh_lt h
  have key : ∀ k, k < 80 → shT[k]? = some (.inl 6) → shT[k + 5]? = some (.inr (0, 81)) := by decide +kernel
  exact key s hs h
theorem alen_lt (a : Nat) : alen a < 2147483648 := by
  by_cases h : a < 80
  · have key : ∀ k, k < 80 → alen k < 2147483648 := by decide +kernel
    exact key a h
  · have hn : shT[a]? = none := List.getElem?_eq_none (by show 80 ≤ a; omega)
    unfold alen; rw [hn]; decide
theorem alen_R (a : Nat) : inR (alen a : Int) := by
  have := alen_lt a
  exact ⟨by omega, by omega⟩
theorem sh_R {a : Nat} {x : Nat ⊕ (Nat × Nat)} (h : shT[a]? = some x) : inR ((a : Nat) : Int) := by
  have := sh_lt h
  exact ⟨by omega, by omega⟩
theorem iw_0 : ∀ w ∈ u_ws RX0 TX0 2, w ∈ GT := by
  intro w hw
  obtain ⟨k, hk, rfl⟩ := List.mem_map.mp hw
  have hk2 := List.mem_range.mp hk
  match k, hk2 with
  | 0, _ => exact gt_165
  | 1, _ => exact gt_167
  | k + 2, hk2 => exact absurd hk2 (by omega)
theorem iw_1 : ∀ w ∈ u_ws RX1 TX1 1, w ∈ GT := by
  intro w hw
  obtain ⟨k, hk, rfl⟩ := List.mem_map.mp hw
  have hk2 := List.mem_range.mp hk
  match k, hk2 with
  | 0, _ => exact gt_298
  | k + 1, hk2 => exact absurd hk2 (by omega)
theorem iw_2 : ∀ w ∈ u_ws RX2 TX2 5, w ∈ GT := by
  intro w hw
  obtain ⟨k, hk, rfl⟩ := List.mem_map.mp hw
  have hk2 := List.mem_range.mp hk
  match k, hk2 with
  | 0, _ => exact gt_280
  | 1, _ => exact gt_282
  | 2, _ => exact gt_284
  | 3, _ => exact gt_286
  | 4, _ => exact gt_288
  | k + 5, hk2 => exact absurd hk2 (by omega)
theorem iw_3 : ∀ w ∈ u_ws RX3 TX3 2, w ∈ GT := by
  intro w hw
  obtain ⟨k, hk, rfl⟩ := List.mem_map.mp hw
  have hk2 := List.mem_range.mp hk
  match k, hk2 with
  | 0, _ => exact gt_310
  | 1, _ => exact gt_312
  | k + 2, hk2 => exact absurd hk2 (by omega)
theorem iw_4 : ∀ w ∈ u_ws RX4 TX4 2, w ∈ GT := by
  intro w hw
  obtain ⟨k, hk, rfl⟩ := List.mem_map.mp hw
  have hk2 := List.mem_range.mp hk
  match k, hk2 with
  | 0, _ => exact gt_201
  | 1, _ => exact gt_203
  | k + 2, hk2 => exact absurd hk2 (by omega)
theorem iw_5 : ∀ w ∈ u_ws RX5 TX5 9, w ∈ GT := by
  intro w hw
  obtain ⟨k, hk, rfl⟩ := List.mem_map.mp hw
  have hk2 := List.mem_range.mp hk
  match k, hk2 with
  | 0, _ => exact gt_246
  | 1, _ => exact gt_248
  | 2, _ => exact gt_250
  | 3, _ => exact gt_252
  | 4, _ => exact gt_254
  | 5, _ => exact gt_256
  | 6, _ => exact gt_258
  | 7, _ => exact gt_260
  | 8, _ => exact gt_262
  | k + 9, hk2 => exact absurd hk2 (by omega)
theorem iw_6 : ∀ w ∈ u_ws RX6 TX6 7, w ∈ GT := by
  intro w hw
  obtain ⟨k, hk, rfl⟩ := List.mem_map.mp hw
  have hk2 := List.mem_range.mp hk
  match k, hk2 with
  | 0, _ => exact gt_137
  | 1, _ => exact gt_139
  | 2, _ => exact gt_141
  | 3, _ => exact gt_143
  | 4, _ => exact gt_145
  | 5, _ => exact gt_147
  | 6, _ => exact gt_149
  | k + 7, hk2 => exact absurd hk2 (by omega)
theorem iw_7 : ∀ w ∈ u_ws RX7 TX7 5, w ∈ GT := by
  intro w hw
  obtain ⟨k, hk, rfl⟩ := List.mem_map.mp hw
  have hk2 := List.mem_range.mp hk
  match k, hk2 with
  | 0, _ => exact gt_217
  | 1, _ => exact gt_219
  | 2, _ => exact gt_221
  | 3, _ => exact gt_223
  | 4, _ => exact gt_225
  | k + 5, hk2 => exact absurd hk2 (by omega)
theorem iw_8 : ∀ w ∈ u_ws RX8 TX8 4, w ∈ GT := by
  intro w hw
  obtain ⟨k, hk, rfl⟩ := List.mem_map.mp hw
  have hk2 := List.mem_range.mp hk
  match k, hk2 with
  | 0, _ => exact gt_180
  | 1, _ => exact gt_182
  | 2, _ => exact gt_184
  | 3, _ => exact gt_186
  | k + 4, hk2 => exact absurd hk2 (by omega)
theorem iw_9 : ∀ w ∈ u_ws RX9 TX9 10, w ∈ GT := by
  intro w hw
  obtain ⟨k, hk, rfl⟩ := List.mem_map.mp hw
  have hk2 := List.mem_range.mp hk
  match k, hk2 with
  | 0, _ => exact gt_325
  | 1, _ => exact gt_327
  | 2, _ => exact gt_329
  | 3, _ => exact gt_331
  | 4, _ => exact gt_333
  | 5, _ => exact gt_335
  | 6, _ => exact gt_337
  | 7, _ => exact gt_339
  | 8, _ => exact gt_341
  | 9, _ => exact gt_343
  | k + 10, hk2 => exact absurd hk2 (by omega)
theorem iw_10 : ∀ w ∈ u_ws RX10 TX10 23, w ∈ GT := by
  intro w hw
  obtain ⟨k, hk, rfl⟩ := List.mem_map.mp hw
  have hk2 := List.mem_range.mp hk
  match k, hk2 with
  | 0, _ => exact gt_1079
  | 1, _ => exact gt_1081
  | 2, _ => exact gt_1083
  | 3, _ => exact gt_1085
  | 4, _ => exact gt_1087
  | 5, _ => exact gt_1089
  | 6, _ => exact gt_1091
  | 7, _ => exact gt_1093
  | 8, _ => exact gt_1095
  | 9, _ => exact gt_1097
  | 10, _ => exact gt_1099
  | 11, _ => exact gt_1101
  | 12, _ => exact gt_1103
  | 13, _ => exact gt_1105
  | 14, _ => exact gt_1107
  | 15, _ => exact gt_1109
  | 16, _ => exact gt_1111
  | 17, _ => exact gt_1113
  | 18, _ => exact gt_1115
  | 19, _ => exact gt_1117
  | 20, _ => exact gt_1119
  | 21, _ => exact gt_1121
  | 22, _ => exact gt_1123
  | k + 23, hk2 => exact absurd hk2 (by omega)
theorem fl_X0_11 : FL RX0 11 0 1 := ⟨_, _, rfl, by decide, gt_164, iw_0⟩
theorem fl_X0_18 : FL RX0 18 0 0 := ⟨_, _, rfl, by decide, gt_162, iw_0⟩
theorem fp_X0_18 : FP RX0 18 0 0 .int := ⟨_, _, tyX0, rfl, by decide, gt_162, iw_0, tyX0_ok, nmX0, rfl, by decide +kernel⟩
theorem fl_X6_33 : FL RX6 33 6 0 := ⟨_, _, rfl, by decide, gt_109, iw_6⟩
theorem fp_X6_33 : FP RX6 33 6 0 .int := ⟨_, _, tyX6, rfl, by decide, gt_109, iw_6, tyX6_ok, nmX6, rfl, by decide +kernel⟩
theorem fl_X6_37 : FL RX6 37 6 1 := ⟨_, _, rfl, by decide, gt_117, iw_6⟩
theorem fp_X6_37 : FP RX6 37 6 1 .int := ⟨_, _, tyX6, rfl, by decide, gt_117, iw_6, tyX6_ok, nmX6, rfl, by decide +kernel⟩
theorem fl_X6_9 : FL RX6 9 6 2 := ⟨_, _, rfl, by decide, gt_122, iw_6⟩
theorem fl_X6_15 : FL RX6 15 6 3 := ⟨_, _, rfl, by decide, gt_124, iw_6⟩
theorem fl_X6_18 : FL RX6 18 6 4 := ⟨_, _, rfl, by decide, gt_126, iw_6⟩
theorem fl_X6_21 : FL RX6 21 6 5 := ⟨_, _, rfl, by decide, gt_130, iw_6⟩
theorem fl_X6_24 : FL RX6 24 6 6 := ⟨_, _, rfl, by decide, gt_136, iw_6⟩
theorem fl_X1_53 : FL RX1 53 6 1 := ⟨_, _, rfl, by decide, gt_120, iw_6⟩
theorem fl_X1_21 : FL RX1 21 6 5 := ⟨_, _, rfl, by decide, gt_131, iw_6⟩
theorem fl_X1_15 : FL RX1 15 6 0 := ⟨_, _, rfl, by decide, gt_110, iw_6⟩
theorem fl_X1_9 : FL RX1 9 1 0 := ⟨_, _, rfl, by decide, gt_297, iw_1⟩
theorem fl_X8_9 : FL RX8 9 8 0 := ⟨_, _, rfl, by decide, gt_176, iw_8⟩
theorem fl_X2_9 : FL RX2 9 2 3 := ⟨_, _, rfl, by decide, gt_277, iw_2⟩
theorem fp_X2_18 : FP RX2 18 2 2 .int := ⟨_, _, tyX2, rfl, by decide, gt_275, iw_2, tyX2_ok, nmX2, rfl, by decide +kernel⟩
theorem fp_X2_22 : FP RX2 22 2 1 .int := ⟨_, _, tyX2, rfl, by decide, gt_273, iw_2, tyX2_ok, nmX2, rfl, by decide +kernel⟩
theorem fl_X2_25 : FL RX2 25 6 0 := ⟨_, _, rfl, by decide, gt_112, iw_6⟩
theorem fp_X2_46 : FP RX2 46 2 0 .boolean := ⟨_, _, tyX2, rfl, by decide, gt_271, iw_2, tyX2_ok, nmX2, rfl, by decide +kernel⟩
theorem fl_X2_30 : FL RX2 30 6 5 := ⟨_, _, rfl, by decide, gt_132, iw_6⟩
theorem fl_X2_15 : FL RX2 15 2 4 := ⟨_, _, rfl, by decide, gt_279, iw_2⟩
theorem fl_X2_18 : FL RX2 18 2 2 := ⟨_, _, rfl, by decide, gt_275, iw_2⟩
theorem fl_X2_22 : FL RX2 22 2 1 := ⟨_, _, rfl, by decide, gt_273, iw_2⟩
theorem fl_X2_43 : FL RX2 43 6 4 := ⟨_, _, rfl, by decide, gt_127, iw_6⟩
theorem fl_X3_9 : FL RX3 9 3 1 := ⟨_, _, rfl, by decide, gt_309, iw_3⟩
theorem fl_X3_15 : FL RX3 15 3 0 := ⟨_, _, rfl, by decide, gt_307, iw_3⟩
theorem fp_X3_15 : FP RX3 15 3 0 .int := ⟨_, _, tyX3, rfl, by decide, gt_307, iw_3, tyX3_ok, nmX3, rfl, by decide +kernel⟩
theorem fl_X3_33 : FL RX3 33 6 0 := ⟨_, _, rfl, by decide, gt_114, iw_6⟩
theorem fl_X3_36 : FL RX3 36 6 1 := ⟨_, _, rfl, by decide, gt_119, iw_6⟩
theorem fl_X4_15 : FL RX4 15 6 0 := ⟨_, _, rfl, by decide, gt_113, iw_6⟩
theorem fp_X4_21 : FP RX4 21 4 0 .int := ⟨_, _, tyX4, rfl, by decide, gt_195, iw_4, tyX4_ok, nmX4, rfl, by decide +kernel⟩
theorem fl_X4_21 : FL RX4 21 4 0 := ⟨_, _, rfl, by decide, gt_195, iw_4⟩
theorem fl_X4_9 : FL RX4 9 4 1 := ⟨_, _, rfl, by decide, gt_198, iw_4⟩
theorem fl_X4_24 : FL RX4 24 6 5 := ⟨_, _, rfl, by decide, gt_133, iw_6⟩
theorem fp_X5_28 : FP RX5 28 5 2 .boolean := ⟨_, _, tyX5, rfl, by decide, gt_239, iw_5, tyX5_ok, nmX5, rfl, by decide +kernel⟩
theorem fp_X7_24 : FP RX7 24 7 0 .int := ⟨_, _, tyX7, rfl, by decide, gt_212, iw_7, tyX7_ok, nmX7, rfl, by decide +kernel⟩
theorem fl_X7_9 : FL RX7 9 7 1 := ⟨_, _, rfl, by decide, gt_213, iw_7⟩
theorem fl_X8_21 : FL RX8 21 8 3 := ⟨_, _, rfl, by decide, gt_179, iw_8⟩
theorem fl_X8_18 : FL RX8 18 8 2 := ⟨_, _, rfl, by decide, gt_178, iw_8⟩
theorem fl_X7_15 : FL RX7 15 7 2 := ⟨_, _, rfl, by decide, gt_214, iw_7⟩
theorem fl_X7_18 : FL RX7 18 7 3 := ⟨_, _, rfl, by decide, gt_215, iw_7⟩
theorem fl_X7_21 : FL RX7 21 7 4 := ⟨_, _, rfl, by decide, gt_216, iw_7⟩
theorem fl_X7_62 : FL RX7 62 4 1 := ⟨_, _, rfl, by decide, gt_199, iw_4⟩
theorem fl_X7_28 : FL RX7 28 4 0 := ⟨_, _, rfl, by decide, gt_196, iw_4⟩
theorem fl_X7_24 : FL RX7 24 7 0 := ⟨_, _, rfl, by decide, gt_212, iw_7⟩
theorem fp_X7_28 : FP RX7 28 4 0 .int := ⟨_, _, tyX4, rfl, by decide, gt_196, iw_4, tyX4_ok, nmX4, rfl, by decide +kernel⟩
theorem fl_X5_9 : FL RX5 9 5 5 := ⟨_, _, rfl, by decide, gt_242, iw_5⟩
theorem fp_X5_73 : FP RX5 73 5 3 .int := ⟨_, _, tyX5, rfl, by decide, gt_240, iw_5, tyX5_ok, nmX5, rfl, by decide +kernel⟩
theorem fp_X5_76 : FP RX5 76 5 4 .int := ⟨_, _, tyX5, rfl, by decide, gt_241, iw_5, tyX5_ok, nmX5, rfl, by decide +kernel⟩
theorem fl_X5_24 : FL RX5 24 5 8 := ⟨_, _, rfl, by decide, gt_245, iw_5⟩
theorem fl_X5_73 : FL RX5 73 5 3 := ⟨_, _, rfl, by decide, gt_240, iw_5⟩
theorem fl_X5_76 : FL RX5 76 5 4 := ⟨_, _, rfl, by decide, gt_241, iw_5⟩
theorem fl_X5_32 : FL RX5 32 5 0 := ⟨_, _, rfl, by decide, gt_236, iw_5⟩
theorem fp_X5_32 : FP RX5 32 5 0 .int := ⟨_, _, tyX5, rfl, by decide, gt_236, iw_5, tyX5_ok, nmX5, rfl, by decide +kernel⟩
theorem fp_X5_95 : FP RX5 95 5 1 .int := ⟨_, _, tyX5, rfl, by decide, gt_238, iw_5, tyX5_ok, nmX5, rfl, by decide +kernel⟩
theorem fl_X5_15 : FL RX5 15 5 6 := ⟨_, _, rfl, by decide, gt_243, iw_5⟩
theorem fl_X5_95 : FL RX5 95 5 1 := ⟨_, _, rfl, by decide, gt_238, iw_5⟩
theorem fl_X5_18 : FL RX5 18 5 7 := ⟨_, _, rfl, by decide, gt_244, iw_5⟩
theorem fl_X5_28 : FL RX5 28 5 2 := ⟨_, _, rfl, by decide, gt_239, iw_5⟩
theorem fl_X5_54 : FL RX5 54 6 5 := ⟨_, _, rfl, by decide, gt_134, iw_6⟩
theorem fl_X5_59 : FL RX5 59 6 0 := ⟨_, _, rfl, by decide, gt_115, iw_6⟩
theorem fl_X6_60 : FL RX6 60 4 0 := ⟨_, _, rfl, by decide, gt_197, iw_4⟩
theorem fl_X6_68 : FL RX6 68 4 1 := ⟨_, _, rfl, by decide, gt_200, iw_4⟩
theorem fl_X8_28 : FL RX8 28 6 0 := ⟨_, _, rfl, by decide, gt_111, iw_6⟩
theorem fl_X8_44 : FL RX8 44 6 1 := ⟨_, _, rfl, by decide, gt_121, iw_6⟩
theorem fl_X8_47 : FL RX8 47 6 2 := ⟨_, _, rfl, by decide, gt_123, iw_6⟩
theorem fl_X8_50 : FL RX8 50 6 3 := ⟨_, _, rfl, by decide, gt_125, iw_6⟩
theorem fl_X8_53 : FL RX8 53 6 4 := ⟨_, _, rfl, by decide, gt_129, iw_6⟩
theorem fl_X8_15 : FL RX8 15 8 1 := ⟨_, _, rfl, by decide, gt_177, iw_8⟩
theorem fl_X9_29 : FL RX9 29 9 3 := ⟨_, _, rfl, by decide, gt_318, iw_9⟩
theorem fl_X9_12 : FL RX9 12 9 0 := ⟨_, _, rfl, by decide, gt_315, iw_9⟩
theorem fl_X9_50 : FL RX9 50 9 6 := ⟨_, _, rfl, by decide, gt_321, iw_9⟩
theorem fl_X9_79 : FL RX9 79 6 1 := ⟨_, _, rfl, by decide, gt_118, iw_6⟩
theorem fl_X9_22 : FL RX9 22 9 2 := ⟨_, _, rfl, by decide, gt_317, iw_9⟩
theorem fl_X9_126 : FL RX9 126 6 0 := ⟨_, _, rfl, by decide, gt_116, iw_6⟩
theorem fl_X9_122 : FL RX9 122 6 4 := ⟨_, _, rfl, by decide, gt_128, iw_6⟩
theorem fl_X9_147 : FL RX9 147 6 5 := ⟨_, _, rfl, by decide, gt_135, iw_6⟩
theorem fl_X9_43 : FL RX9 43 9 5 := ⟨_, _, rfl, by decide, gt_320, iw_9⟩
theorem fl_X9_64 : FL RX9 64 9 8 := ⟨_, _, rfl, by decide, gt_323, iw_9⟩
theorem fl_X9_36 : FL RX9 36 9 4 := ⟨_, _, rfl, by decide, gt_319, iw_9⟩
theorem fl_X9_57 : FL RX9 57 9 7 := ⟨_, _, rfl, by decide, gt_322, iw_9⟩
theorem fl_X9_260 : FL RX9 260 2 0 := ⟨_, _, rfl, by decide, gt_272, iw_2⟩
theorem fl_X9_264 : FL RX9 264 2 1 := ⟨_, _, rfl, by decide, gt_274, iw_2⟩
theorem fl_X9_269 : FL RX9 269 2 2 := ⟨_, _, rfl, by decide, gt_276, iw_2⟩
theorem fl_X9_272 : FL RX9 272 2 3 := ⟨_, _, rfl, by decide, gt_278, iw_2⟩
theorem fl_X9_282 : FL RX9 282 5 0 := ⟨_, _, rfl, by decide, gt_237, iw_5⟩
theorem fl_X9_71 : FL RX9 71 9 9 := ⟨_, _, rfl, by decide, gt_324, iw_9⟩
theorem fl_X9_288 : FL RX9 288 3 0 := ⟨_, _, rfl, by decide, gt_308, iw_3⟩
theorem fp_X9_288 : FP RX9 288 3 0 .int := ⟨_, _, tyX3, rfl, by decide, gt_308, iw_3, tyX3_ok, nmX3, rfl, by decide +kernel⟩
theorem fl_X9_16 : FL RX9 16 9 1 := ⟨_, _, rfl, by decide, gt_316, iw_9⟩
theorem fl_X9_303 : FL RX9 303 0 0 := ⟨_, _, rfl, by decide, gt_163, iw_0⟩
theorem fl_X10_52 : FL RX10 52 10 3 := ⟨_, _, rfl, by decide, gt_1059, iw_10⟩
theorem fp_X10_52 : FP RX10 52 10 3 .int := ⟨_, _, tyX10, rfl, by decide, gt_1059, iw_10, tyX10_ok, nmX10, rfl, by decide +kernel⟩
theorem fl_X10_7 : FL RX10 7 10 0 := ⟨_, _, rfl, by decide, gt_1056, iw_10⟩
theorem fl_X10_64 : FL RX10 64 10 2 := ⟨_, _, rfl, by decide, gt_1058, iw_10⟩
theorem fp_X10_64 : FP RX10 64 10 2 .int := ⟨_, _, tyX10, rfl, by decide, gt_1058, iw_10, tyX10_ok, nmX10, rfl, by decide +kernel⟩
theorem fl_X10_13 : FL RX10 13 10 1 := ⟨_, _, rfl, by decide, gt_1057, iw_10⟩
theorem fl_X10_19 : FL RX10 19 10 6 := ⟨_, _, rfl, by decide, gt_1062, iw_10⟩
theorem fl_X10_22 : FL RX10 22 10 7 := ⟨_, _, rfl, by decide, gt_1063, iw_10⟩
theorem fp_X10_146 : FP RX10 146 10 10 .int := ⟨_, _, tyX10, rfl, by decide, gt_1066, iw_10, tyX10_ok, nmX10, rfl, by decide +kernel⟩
theorem fl_X10_28 : FL RX10 28 10 9 := ⟨_, _, rfl, by decide, gt_1065, iw_10⟩
theorem fl_X10_146 : FL RX10 146 10 10 := ⟨_, _, rfl, by decide, gt_1066, iw_10⟩
theorem fl_X10_25 : FL RX10 25 10 8 := ⟨_, _, rfl, by decide, gt_1064, iw_10⟩
theorem fl_X10_34 : FL RX10 34 10 12 := ⟨_, _, rfl, by decide, gt_1068, iw_10⟩
theorem fl_X10_31 : FL RX10 31 10 11 := ⟨_, _, rfl, by decide, gt_1067, iw_10⟩
theorem fl_X10_43 : FL RX10 43 10 18 := ⟨_, _, rfl, by decide, gt_1074, iw_10⟩
theorem fl_X10_46 : FL RX10 46 10 19 := ⟨_, _, rfl, by decide, gt_1075, iw_10⟩
theorem fl_X10_40 : FL RX10 40 10 17 := ⟨_, _, rfl, by decide, gt_1073, iw_10⟩
theorem fl_X10_37 : FL RX10 37 10 13 := ⟨_, _, rfl, by decide, gt_1069, iw_10⟩
theorem fp_X10_193 : FP RX10 193 10 14 .int := ⟨_, _, tyX10, rfl, by decide, gt_1070, iw_10, tyX10_ok, nmX10, rfl, by decide +kernel⟩
theorem fp_X10_196 : FP RX10 196 10 15 .int := ⟨_, _, tyX10, rfl, by decide, gt_1071, iw_10, tyX10_ok, nmX10, rfl, by decide +kernel⟩
theorem fp_X10_199 : FP RX10 199 10 16 .int := ⟨_, _, tyX10, rfl, by decide, gt_1072, iw_10, tyX10_ok, nmX10, rfl, by decide +kernel⟩
theorem fl_X10_193 : FL RX10 193 10 14 := ⟨_, _, rfl, by decide, gt_1070, iw_10⟩
theorem fl_X10_196 : FL RX10 196 10 15 := ⟨_, _, rfl, by decide, gt_1071, iw_10⟩
theorem fl_X10_199 : FL RX10 199 10 16 := ⟨_, _, rfl, by decide, gt_1072, iw_10⟩
theorem fl_X10_214 : FL RX10 214 10 5 := ⟨_, _, rfl, by decide, gt_1061, iw_10⟩
theorem fl_X10_16 : FL RX10 16 10 4 := ⟨_, _, rfl, by decide, gt_1060, iw_10⟩
theorem fp_X10_214 : FP RX10 214 10 5 .int := ⟨_, _, tyX10, rfl, by decide, gt_1061, iw_10, tyX10_ok, nmX10, rfl, by decide +kernel⟩
theorem fl_X10_217 : FL RX10 217 10 20 := ⟨_, _, rfl, by decide, gt_1076, iw_10⟩
theorem fp_X10_217 : FP RX10 217 10 20 .int := ⟨_, _, tyX10, rfl, by decide, gt_1076, iw_10, tyX10_ok, nmX10, rfl, by decide +kernel⟩
theorem fl_X10_49 : FL RX10 49 10 21 := ⟨_, _, rfl, by decide, gt_1077, iw_10⟩
theorem fl_X10_231 : FL RX10 231 10 22 := ⟨_, _, rfl, by decide, gt_1078, iw_10⟩
theorem fp_X10_231 : FP RX10 231 10 22 .long := ⟨_, _, tyX10, rfl, by decide, gt_1078, iw_10, tyX10_ok, nmX10, rfl, by decide +kernel⟩
theorem mv_X0_25 : MV RX0 25 6 yX6_copyFrom (.code yX6_copyFrom cX6_copyFrom 2 none) 1 := ⟨⟨_, _, rfl⟩, gt_382, gt_383, gt_384, gt_73, gt_385, by decide +kernel, by decide +kernel, by decide +kernel⟩
theorem mv_X0_22 : MV RX0 22 0 yX0_dropOldest (.code yX0_dropOldest cX0_dropOldest 3 none) 0 := ⟨⟨_, _, rfl⟩, gt_378, gt_380, gt_1, gt_75, gt_381, by decide +kernel, by decide +kernel, by decide +kernel⟩
theorem mv_X1_56 : MV RX1 56 6 yX6_touches (.code yX6_touches cX6_touches 3 (some .boolean)) 2 := ⟨⟨_, _, rfl⟩, gt_824, gt_367, gt_368, gt_73, gt_369, by decide +kernel, by decide +kernel, by decide +kernel⟩
theorem mv_X1_60 : MV RX1 60 6 yX6_otherEnd (.code yX6_otherEnd cX6_otherEnd 3 (some .int)) 2 := ⟨⟨_, _, rfl⟩, gt_825, gt_482, gt_483, gt_73, gt_484, by decide +kernel, by decide +kernel, by decide +kernel⟩
theorem ms_X1_28 : MS RX1 28 yX1_labelTheRest (.code yX1_labelTheRest cX1_labelTheRest 4 none) 2 := ⟨gt_826, gt_827, gt_81, gt_828, by decide +kernel, by decide +kernel, by decide +kernel⟩
theorem ms_X1_24 : MS RX1 24 yX1_firstUnlabeled (.code yX1_firstUnlabeled cX1_firstUnlabeled 3 (some .int)) 2 := ⟨gt_821, gt_822, gt_81, gt_823, by decide +kernel, by decide +kernel, by decide +kernel⟩
theorem mv_X1_32 : MV RX1 32 8 yX8_between (.code yX8_between cX8_between 3 (some .int)) 2 := ⟨⟨_, _, rfl⟩, gt_833, gt_490, gt_491, gt_76, gt_492, by decide +kernel, by decide +kernel, by decide +kernel⟩
theorem mv_X1_38 : MV RX1 38 6 yX6_resetLabels (.code yX6_resetLabels cX6_resetLabels 2 none) 0 := ⟨⟨_, _, rfl⟩, gt_896, gt_514, gt_515, gt_73, gt_516, by decide +kernel, by decide +kernel, by decide +kernel⟩
theorem mv_X1_49 : MV RX1 49 6 yX6_exchangeLabels (.code yX6_exchangeLabels cX6_exchangeLabels 4 none) 2 := ⟨⟨_, _, rfl⟩, gt_901, gt_873, gt_874, gt_73, gt_875, by decide +kernel, by decide +kernel, by decide +kernel⟩
theorem mv_X6_52 : MV RX6 52 6 yX6_touches (.code yX6_touches cX6_touches 3 (some .boolean)) 2 := ⟨⟨_, _, rfl⟩, gt_366, gt_367, gt_368, gt_73, gt_369, by decide +kernel, by decide +kernel, by decide +kernel⟩
theorem mv_X2_33 : MV RX2 33 6 yX6_entryAt (.code yX6_entryAt cX6_entryAt 3 (some .int)) 2 := ⟨⟨_, _, rfl⟩, gt_476, gt_449, gt_450, gt_73, gt_451, by decide +kernel, by decide +kernel, by decide +kernel⟩
theorem mv_X2_40 : MV RX2 40 6 yX6_otherEnd (.code yX6_otherEnd cX6_otherEnd 3 (some .int)) 2 := ⟨⟨_, _, rfl⟩, gt_481, gt_482, gt_483, gt_73, gt_484, by decide +kernel, by decide +kernel, by decide +kernel⟩
theorem mv_X2_37 : MV RX2 37 6 yX6_lowestLinkBut (.code yX6_lowestLinkBut cX6_lowestLinkBut 4 (some .int)) 2 := ⟨⟨_, _, rfl⟩, gt_477, gt_478, gt_479, gt_73, gt_480, by decide +kernel, by decide +kernel, by decide +kernel⟩
theorem ms_X6_27 : MS RX6 27 yJ7_fill_53178 (.code yJ7_fill_53178 cJ7_fill_53178 4 none) 2 := ⟨gt_106, gt_107, gt_74, gt_108, by decide +kernel, by decide +kernel, by decide +kernel⟩
theorem mv_X6_40 : MV RX6 40 6 yX6_resetLabels (.code yX6_resetLabels cX6_resetLabels 2 none) 0 := ⟨⟨_, _, rfl⟩, gt_513, gt_514, gt_515, gt_73, gt_516, by decide +kernel, by decide +kernel, by decide +kernel⟩
theorem mv_X6_43 : MV RX6 43 6 yX6_clearEntries (.code yX6_clearEntries cX6_clearEntries 1 none) 0 := ⟨⟨_, _, rfl⟩, gt_517, gt_518, gt_519, gt_73, gt_520, by decide +kernel, by decide +kernel, by decide +kernel⟩
theorem mv_X6_56 : MV RX6 56 6 yX6_otherEnd (.code yX6_otherEnd cX6_otherEnd 3 (some .int)) 2 := ⟨⟨_, _, rfl⟩, gt_529, gt_482, gt_483, gt_73, gt_484, by decide +kernel, by decide +kernel, by decide +kernel⟩
theorem mv_X3_19 : MV RX3 19 3 yX3_digitAt (.code yX3_digitAt cX3_digitAt 2 (some .int)) 1 := ⟨⟨_, _, rfl⟩, gt_505, gt_507, gt_8, gt_82, gt_508, by decide +kernel, by decide +kernel, by decide +kernel⟩
theorem mv_X3_39 : MV RX3 39 6 yX6_joined (.code yX6_joined cX6_joined 4 (some .boolean)) 2 := ⟨⟨_, _, rfl⟩, gt_525, gt_526, gt_527, gt_73, gt_528, by decide +kernel, by decide +kernel, by decide +kernel⟩
theorem mv_X3_43 : MV RX3 43 6 yX6_join (.code yX6_join cX6_join 4 none) 3 := ⟨⟨_, _, rfl⟩, gt_530, gt_531, gt_532, gt_73, gt_533, by decide +kernel, by decide +kernel, by decide +kernel⟩
theorem mv_X3_23 : MV RX3 23 6 yX6_start (.code yX6_start cX6_start 2 none) 1 := ⟨⟨_, _, rfl⟩, gt_509, gt_510, gt_511, gt_73, gt_512, by decide +kernel, by decide +kernel, by decide +kernel⟩
theorem mv_X3_29 : MV RX3 29 3 yX3_readLink (.code yX3_readLink cX3_readLink 6 (some .int)) 2 := ⟨⟨_, _, rfl⟩, gt_521, gt_523, gt_9, gt_82, gt_524, by decide +kernel, by decide +kernel, by decide +kernel⟩
theorem ms_X4_27 : MS RX4 27 yX4_labelAt (.code yX4_labelAt cX4_labelAt 2 (some .int)) 2 := ⟨gt_447, gt_398, gt_77, gt_399, by decide +kernel, by decide +kernel, by decide +kernel⟩
theorem mv_X4_31 : MV RX4 31 6 yX6_entryAt (.code yX6_entryAt cX6_entryAt 3 (some .int)) 2 := ⟨⟨_, _, rfl⟩, gt_448, gt_449, gt_450, gt_73, gt_451, by decide +kernel, by decide +kernel, by decide +kernel⟩
theorem mv_X4_47 : MV RX4 47 4 yX4_allEqual (.code yX4_allEqual cX4_allEqual 2 (some .boolean)) 0 := ⟨⟨_, _, rfl⟩, gt_435, gt_437, gt_6, gt_77, gt_438, by decide +kernel, by decide +kernel, by decide +kernel⟩
theorem mv_X4_34 : MV RX4 34 4 yX4_runBeginsAt (.code yX4_runBeginsAt cX4_runBeginsAt 3 (some .boolean)) 1 := ⟨⟨_, _, rfl⟩, gt_431, gt_433, gt_5, gt_77, gt_434, by decide +kernel, by decide +kernel, by decide +kernel⟩
theorem mv_X4_38 : MV RX4 38 4 yX4_runsOf (.code yX4_runsOf cX4_runsOf 4 (some .int)) 1 := ⟨⟨_, _, rfl⟩, gt_456, gt_457, gt_458, gt_77, gt_459, by decide +kernel, by decide +kernel, by decide +kernel⟩
theorem ms_X7_51 : MS RX7 51 yX7_step (.code yX7_step cX7_step 2 (some .int)) 2 := ⟨gt_408, gt_409, gt_78, gt_410, by decide +kernel, by decide +kernel, by decide +kernel⟩
theorem mv_X7_54 : MV RX7 54 7 yX7_cheapestAt (.code yX7_cheapestAt cX7_cheapestAt 6 (some .int)) 2 := ⟨⟨_, _, rfl⟩, gt_411, gt_413, gt_3, gt_78, gt_414, by decide +kernel, by decide +kernel, by decide +kernel⟩
theorem mv_X7_43 : MV RX7 43 7 yX7_priceBeginningWith (.code yX7_priceBeginningWith cX7_priceBeginningWith 6 none) 2 := ⟨⟨_, _, rfl⟩, gt_404, gt_406, gt_2, gt_78, gt_407, by decide +kernel, by decide +kernel, by decide +kernel⟩
theorem mv_X7_47 : MV RX7 47 7 yX7_follow (.code yX7_follow cX7_follow 8 none) 2 := ⟨⟨_, _, rfl⟩, gt_418, gt_420, gt_4, gt_78, gt_421, by decide +kernel, by decide +kernel, by decide +kernel⟩
theorem ms_X7_33 : MS RX7 33 yX4_labelAt (.code yX4_labelAt cX4_labelAt 2 (some .int)) 2 := ⟨gt_397, gt_398, gt_77, gt_399, by decide +kernel, by decide +kernel, by decide +kernel⟩
theorem mv_X7_37 : MV RX7 37 8 yX8_copyChoices (.code yX8_copyChoices cX8_copyChoices 7 (some .int)) 4 := ⟨⟨_, _, rfl⟩, gt_400, gt_401, gt_402, gt_76, gt_403, by decide +kernel, by decide +kernel, by decide +kernel⟩
theorem mv_X5_68 : MV RX5 68 7 yX7_seat (.code yX7_seat cX7_seat 4 none) 2 := ⟨⟨_, _, rfl⟩, gt_843, gt_390, gt_391, gt_78, gt_392, by decide +kernel, by decide +kernel, by decide +kernel⟩
theorem mv_X5_79 : MV RX5 79 7 yX7_fill (.code yX7_fill cX7_fill 7 none) 4 := ⟨⟨_, _, rfl⟩, gt_844, gt_394, gt_395, gt_78, gt_396, by decide +kernel, by decide +kernel, by decide +kernel⟩
theorem mv_X5_82 : MV RX5 82 4 yX4_mostRuns (.code yX4_mostRuns cX4_mostRuns 3 (some .int)) 0 := ⟨⟨_, _, rfl⟩, gt_845, gt_453, gt_454, gt_77, gt_455, by decide +kernel, by decide +kernel, by decide +kernel⟩
theorem mv_X5_92 : MV RX5 92 4 yX4_allRuns (.code yX4_allRuns cX4_allRuns 3 (some .int)) 0 := ⟨⟨_, _, rfl⟩, gt_847, gt_428, gt_429, gt_77, gt_430, by decide +kernel, by decide +kernel, by decide +kernel⟩
theorem mv_X5_98 : MV RX5 98 5 yX5_exchange (.code yX5_exchange cX5_exchange 4 none) 2 := ⟨⟨_, _, rfl⟩, gt_857, gt_859, gt_28, gt_79, gt_860, by decide +kernel, by decide +kernel, by decide +kernel⟩
theorem ms_X5_36 : MS RX5 36 yJ7_fill_53178 (.code yJ7_fill_53178 cJ7_fill_53178 4 none) 2 := ⟨gt_838, gt_107, gt_74, gt_108, by decide +kernel, by decide +kernel, by decide +kernel⟩
theorem mv_X5_42 : MV RX5 42 5 yX5_evaluate (.code yX5_evaluate cX5_evaluate 5 none) 3 := ⟨⟨_, _, rfl⟩, gt_839, gt_841, gt_25, gt_79, gt_842, by decide +kernel, by decide +kernel, by decide +kernel⟩
theorem mv_X5_46 : MV RX5 46 5 yX5_note (.code yX5_note cX5_note 3 none) 1 := ⟨⟨_, _, rfl⟩, gt_848, gt_850, gt_26, gt_79, gt_851, by decide +kernel, by decide +kernel, by decide +kernel⟩
theorem mv_X5_50 : MV RX5 50 5 yX5_nextTrial (.code yX5_nextTrial cX5_nextTrial 6 (some .boolean)) 1 := ⟨⟨_, _, rfl⟩, gt_853, gt_855, gt_27, gt_79, gt_856, by decide +kernel, by decide +kernel, by decide +kernel⟩
theorem ms_X6_65 : MS RX6 65 yX4_labelAt (.code yX4_labelAt cX4_labelAt 2 (some .int)) 2 := ⟨gt_426, gt_398, gt_77, gt_399, by decide +kernel, by decide +kernel, by decide +kernel⟩
theorem mv_X6_74 : MV RX6 74 6 yX6_entryAt (.code yX6_entryAt cX6_entryAt 3 (some .int)) 2 := ⟨⟨_, _, rfl⟩, gt_587, gt_449, gt_450, gt_73, gt_451, by decide +kernel, by decide +kernel, by decide +kernel⟩
theorem mv_X6_71 : MV RX6 71 6 yX6_linkValue (.code yX6_linkValue cX6_linkValue 3 (some .int)) 2 := ⟨⟨_, _, rfl⟩, gt_583, gt_584, gt_585, gt_73, gt_586, by decide +kernel, by decide +kernel, by decide +kernel⟩
theorem mv_X8_60 : MV RX8 60 8 yX8_between (.code yX8_between cX8_between 3 (some .int)) 2 := ⟨⟨_, _, rfl⟩, gt_557, gt_490, gt_491, gt_76, gt_492, by decide +kernel, by decide +kernel, by decide +kernel⟩
theorem ms_X8_38 : MS RX8 38 yJ7_fill_53178 (.code yJ7_fill_53178 cJ7_fill_53178 4 none) 2 := ⟨gt_552, gt_107, gt_74, gt_108, by decide +kernel, by decide +kernel, by decide +kernel⟩
theorem mv_X8_56 : MV RX8 56 8 yX8_shortenOver (.code yX8_shortenOver cX8_shortenOver 6 none) 2 := ⟨⟨_, _, rfl⟩, gt_553, gt_555, gt_13, gt_76, gt_556, by decide +kernel, by decide +kernel, by decide +kernel⟩
theorem mv_X8_68 : MV RX8 68 6 yX6_touches (.code yX6_touches cX6_touches 3 (some .boolean)) 2 := ⟨⟨_, _, rfl⟩, gt_566, gt_367, gt_368, gt_73, gt_369, by decide +kernel, by decide +kernel, by decide +kernel⟩
theorem mv_X8_72 : MV RX8 72 6 yX6_otherEnd (.code yX6_otherEnd cX6_otherEnd 3 (some .int)) 2 := ⟨⟨_, _, rfl⟩, gt_567, gt_482, gt_483, gt_73, gt_484, by decide +kernel, by decide +kernel, by decide +kernel⟩
theorem mv_X8_64 : MV RX8 64 8 yX8_begins (.code yX8_begins cX8_begins 5 (some .boolean)) 4 := ⟨⟨_, _, rfl⟩, gt_562, gt_564, gt_15, gt_76, gt_565, by decide +kernel, by decide +kernel, by decide +kernel⟩
theorem mv_X8_24 : MV RX8 24 8 yX8_measureDistances (.code yX8_measureDistances cX8_measureDistances 5 none) 1 := ⟨⟨_, _, rfl⟩, gt_548, gt_550, gt_12, gt_76, gt_551, by decide +kernel, by decide +kernel, by decide +kernel⟩
theorem mv_X8_34 : MV RX8 34 8 yX8_findGoodLinks (.code yX8_findGoodLinks cX8_findGoodLinks 8 none) 3 := ⟨⟨_, _, rfl⟩, gt_558, gt_560, gt_14, gt_76, gt_561, by decide +kernel, by decide +kernel, by decide +kernel⟩
theorem mv_X9_338 : MV RX9 338 8 yX8_measure (.code yX8_measure cX8_measure 4 none) 1 := ⟨⟨_, _, rfl⟩, gt_544, gt_545, gt_546, gt_76, gt_547, by decide +kernel, by decide +kernel, by decide +kernel⟩
theorem mv_X9_341 : MV RX9 341 5 yX5_forget (.code yX5_forget cX5_forget 1 none) 0 := ⟨⟨_, _, rfl⟩, gt_568, gt_569, gt_570, gt_79, gt_571, by decide +kernel, by decide +kernel, by decide +kernel⟩
theorem mv_X9_178 : MV RX9 178 6 yX6_clearEntries (.code yX6_clearEntries cX6_clearEntries 1 none) 0 := ⟨⟨_, _, rfl⟩, gt_539, gt_518, gt_519, gt_73, gt_520, by decide +kernel, by decide +kernel, by decide +kernel⟩
theorem mv_X9_311 : MV RX9 311 9 yX9_measureNetwork (.code yX9_measureNetwork cX9_measureNetwork 1 none) 0 := ⟨⟨_, _, rfl⟩, gt_540, gt_542, gt_11, gt_72, gt_543, by decide +kernel, by decide +kernel, by decide +kernel⟩
theorem mv_X9_75 : MV RX9 75 9 yX9_needRange (.code yX9_needRange cX9_needRange 4 none) 3 := ⟨⟨_, _, rfl⟩, gt_615, gt_617, gt_19, gt_72, gt_618, by decide +kernel, by decide +kernel, by decide +kernel⟩
theorem mv_X9_83 : MV RX9 83 0 yX0_save (.code yX0_save cX0_save 2 none) 1 := ⟨⟨_, _, rfl⟩, gt_374, gt_375, gt_376, gt_75, gt_377, by decide +kernel, by decide +kernel, by decide +kernel⟩
theorem mv_X9_87 : MV RX9 87 6 yX6_start (.code yX6_start cX6_start 2 none) 1 := ⟨⟨_, _, rfl⟩, gt_687, gt_510, gt_511, gt_73, gt_512, by decide +kernel, by decide +kernel, by decide +kernel⟩
theorem mv_X9_91 : MV RX9 91 9 yX9_networkChanged (.code yX9_networkChanged cX9_networkChanged 1 none) 0 := ⟨⟨_, _, rfl⟩, gt_535, gt_537, gt_10, gt_72, gt_538, by decide +kernel, by decide +kernel, by decide +kernel⟩
theorem mv_X9_94 : MV RX9 94 9 yX9_needNode (.code yX9_needNode cX9_needNode 2 none) 1 := ⟨⟨_, _, rfl⟩, gt_697, gt_699, gt_21, gt_72, gt_700, by decide +kernel, by decide +kernel, by decide +kernel⟩
theorem mv_X9_97 : MV RX9 97 6 yX6_joined (.code yX6_joined cX6_joined 4 (some .boolean)) 2 := ⟨⟨_, _, rfl⟩, gt_717, gt_526, gt_527, gt_73, gt_528, by decide +kernel, by decide +kernel, by decide +kernel⟩
theorem mv_X9_113 : MV RX9 113 6 yX6_join (.code yX6_join cX6_join 4 none) 3 := ⟨⟨_, _, rfl⟩, gt_735, gt_531, gt_532, gt_73, gt_533, by decide +kernel, by decide +kernel, by decide +kernel⟩
theorem mv_X9_116 : MV RX9 116 9 yX9_needLink (.code yX9_needLink cX9_needLink 2 none) 1 := ⟨⟨_, _, rfl⟩, gt_743, gt_745, gt_22, gt_72, gt_746, by decide +kernel, by decide +kernel, by decide +kernel⟩
theorem mv_X9_119 : MV RX9 119 6 yX6_drop (.code yX6_drop cX6_drop 3 none) 1 := ⟨⟨_, _, rfl⟩, gt_748, gt_749, gt_750, gt_73, gt_751, by decide +kernel, by decide +kernel, by decide +kernel⟩
theorem mv_X9_129 : MV RX9 129 6 yX6_linkValue (.code yX6_linkValue cX6_linkValue 3 (some .int)) 2 := ⟨⟨_, _, rfl⟩, gt_766, gt_584, gt_585, gt_73, gt_586, by decide +kernel, by decide +kernel, by decide +kernel⟩
theorem mv_X9_133 : MV RX9 133 8 yX8_between (.code yX8_between cX8_between 3 (some .int)) 2 := ⟨⟨_, _, rfl⟩, gt_489, gt_490, gt_491, gt_76, gt_492, by decide +kernel, by decide +kernel, by decide +kernel⟩
theorem mv_X9_136 : MV RX9 136 8 yX8_good (.code yX8_good cX8_good 3 (some .int)) 2 := ⟨⟨_, _, rfl⟩, gt_602, gt_603, gt_604, gt_76, gt_605, by decide +kernel, by decide +kernel, by decide +kernel⟩
theorem mv_X9_344 : MV RX9 344 6 yX6_degree (.code yX6_degree cX6_degree 4 (some .int)) 1 := ⟨⟨_, _, rfl⟩, gt_362, gt_363, gt_364, gt_73, gt_365, by decide +kernel, by decide +kernel, by decide +kernel⟩
theorem mv_X9_139 : MV RX9 139 8 yX8_connected (.code yX8_connected cX8_connected 3 (some .boolean)) 1 := ⟨⟨_, _, rfl⟩, gt_354, gt_355, gt_356, gt_76, gt_357, by decide +kernel, by decide +kernel, by decide +kernel⟩
theorem mv_X9_143 : MV RX9 143 9 yX9_isRing (.code yX9_isRing cX9_isRing 2 (some .boolean)) 0 := ⟨⟨_, _, rfl⟩, gt_358, gt_360, gt_0, gt_72, gt_361, by decide +kernel, by decide +kernel, by decide +kernel⟩
theorem mv_X9_150 : MV RX9 150 9 yX9_needLabel (.code yX9_needLabel cX9_needLabel 2 none) 1 := ⟨⟨_, _, rfl⟩, gt_795, gt_797, gt_23, gt_72, gt_798, by decide +kernel, by decide +kernel, by decide +kernel⟩
theorem mv_X9_153 : MV RX9 153 6 yX6_holder (.code yX6_holder cX6_holder 3 (some .int)) 1 := ⟨⟨_, _, rfl⟩, gt_800, gt_801, gt_802, gt_73, gt_803, by decide +kernel, by decide +kernel, by decide +kernel⟩
theorem mv_X9_171 : MV RX9 171 5 yX5_ensure (.code yX5_ensure cX5_ensure 6 none) 3 := ⟨⟨_, _, rfl⟩, gt_834, gt_835, gt_836, gt_79, gt_837, by decide +kernel, by decide +kernel, by decide +kernel⟩
theorem mv_X9_175 : MV RX9 175 5 yX5_copyBest (.code yX5_copyBest cX5_copyBest 2 none) 1 := ⟨⟨_, _, rfl⟩, gt_861, gt_862, gt_863, gt_79, gt_864, by decide +kernel, by decide +kernel, by decide +kernel⟩
theorem mv_X9_167 : MV RX9 167 1 yX1_byRank (.code yX1_byRank cX1_byRank 8 none) 3 := ⟨⟨_, _, rfl⟩, gt_829, gt_830, gt_831, gt_81, gt_832, by decide +kernel, by decide +kernel, by decide +kernel⟩
theorem mv_X9_163 : MV RX9 163 1 yX1_depthFirst (.code yX1_depthFirst cX1_depthFirst 7 none) 2 := ⟨⟨_, _, rfl⟩, gt_817, gt_818, gt_819, gt_81, gt_820, by decide +kernel, by decide +kernel, by decide +kernel⟩
theorem mv_X9_160 : MV RX9 160 6 yX6_resetLabels (.code yX6_resetLabels cX6_resetLabels 2 none) 0 := ⟨⟨_, _, rfl⟩, gt_816, gt_514, gt_515, gt_73, gt_516, by decide +kernel, by decide +kernel, by decide +kernel⟩
theorem mv_X9_157 : MV RX9 157 9 yX9_needSearchable (.code yX9_needSearchable cX9_needSearchable 1 none) 0 := ⟨⟨_, _, rfl⟩, gt_811, gt_813, gt_24, gt_72, gt_814, by decide +kernel, by decide +kernel, by decide +kernel⟩
theorem mv_X9_181 : MV RX9 181 6 yX6_exchangeLabels (.code yX6_exchangeLabels cX6_exchangeLabels 4 none) 2 := ⟨⟨_, _, rfl⟩, gt_872, gt_873, gt_874, gt_73, gt_875, by decide +kernel, by decide +kernel, by decide +kernel⟩
theorem mv_X9_188 : MV RX9 188 1 yX1_atRandom (.code yX1_atRandom cX1_atRandom 7 none) 2 := ⟨⟨_, _, rfl⟩, gt_892, gt_893, gt_894, gt_81, gt_895, by decide +kernel, by decide +kernel, by decide +kernel⟩
theorem mv_X9_191 : MV RX9 191 7 yX7_seat (.code yX7_seat cX7_seat 4 none) 2 := ⟨⟨_, _, rfl⟩, gt_389, gt_390, gt_391, gt_78, gt_392, by decide +kernel, by decide +kernel, by decide +kernel⟩
theorem mv_X9_195 : MV RX9 195 7 yX7_fill (.code yX7_fill cX7_fill 7 none) 4 := ⟨⟨_, _, rfl⟩, gt_393, gt_394, gt_395, gt_78, gt_396, by decide +kernel, by decide +kernel, by decide +kernel⟩
theorem mv_X9_199 : MV RX9 199 6 yX6_storeTable (.code yX6_storeTable cX6_storeTable 4 none) 2 := ⟨⟨_, _, rfl⟩, gt_422, gt_423, gt_424, gt_73, gt_425, by decide +kernel, by decide +kernel, by decide +kernel⟩
theorem mv_X9_203 : MV RX9 203 4 yX4_allRuns (.code yX4_allRuns cX4_allRuns 3 (some .int)) 0 := ⟨⟨_, _, rfl⟩, gt_427, gt_428, gt_429, gt_77, gt_430, by decide +kernel, by decide +kernel, by decide +kernel⟩
theorem mv_X9_212 : MV RX9 212 6 yX6_setInterval (.code yX6_setInterval cX6_setInterval 10 (some .int)) 4 := ⟨⟨_, _, rfl⟩, gt_911, gt_912, gt_913, gt_73, gt_914, by decide +kernel, by decide +kernel, by decide +kernel⟩
theorem mv_X9_207 : MV RX9 207 6 yX6_touches (.code yX6_touches cX6_touches 3 (some .boolean)) 2 := ⟨⟨_, _, rfl⟩, gt_909, gt_367, gt_368, gt_73, gt_369, by decide +kernel, by decide +kernel, by decide +kernel⟩
theorem mv_X9_216 : MV RX9 216 6 yX6_entryAt (.code yX6_entryAt cX6_entryAt 3 (some .int)) 2 := ⟨⟨_, _, rfl⟩, gt_601, gt_449, gt_450, gt_73, gt_451, by decide +kernel, by decide +kernel, by decide +kernel⟩
theorem mv_X9_219 : MV RX9 219 4 yX4_read (.code yX4_read cX4_read 4 none) 2 := ⟨⟨_, _, rfl⟩, gt_443, gt_444, gt_445, gt_77, gt_446, by decide +kernel, by decide +kernel, by decide +kernel⟩
theorem mv_X9_222 : MV RX9 222 4 yX4_runsOf (.code yX4_runsOf cX4_runsOf 4 (some .int)) 1 := ⟨⟨_, _, rfl⟩, gt_929, gt_457, gt_458, gt_77, gt_459, by decide +kernel, by decide +kernel, by decide +kernel⟩
theorem mv_X9_228 : MV RX9 228 4 yX4_beginningOf (.code yX4_beginningOf cX4_beginningOf 5 (some .int)) 2 := ⟨⟨_, _, rfl⟩, gt_937, gt_938, gt_939, gt_77, gt_940, by decide +kernel, by decide +kernel, by decide +kernel⟩
theorem ms_X9_236 : MS RX9 236 yX4_labelAt (.code yX4_labelAt cX4_labelAt 2 (some .int)) 2 := ⟨gt_946, gt_398, gt_77, gt_399, by decide +kernel, by decide +kernel, by decide +kernel⟩
theorem mv_X9_233 : MV RX9 233 4 yX4_endOfRunAt (.code yX4_endOfRunAt cX4_endOfRunAt 5 (some .int)) 1 := ⟨⟨_, _, rfl⟩, gt_942, gt_943, gt_944, gt_77, gt_945, by decide +kernel, by decide +kernel, by decide +kernel⟩
theorem mv_X9_239 : MV RX9 239 9 yX9_networkSize (.code yX9_networkSize cX9_networkSize 3 (some .int)) 0 := ⟨⟨_, _, rfl⟩, gt_588, gt_590, gt_16, gt_72, gt_591, by decide +kernel, by decide +kernel, by decide +kernel⟩
theorem mv_X9_242 : MV RX9 242 4 yX4_mostRuns (.code yX4_mostRuns cX4_mostRuns 3 (some .int)) 0 := ⟨⟨_, _, rfl⟩, gt_452, gt_453, gt_454, gt_77, gt_455, by decide +kernel, by decide +kernel, by decide +kernel⟩
theorem mv_X9_250 : MV RX9 250 9 yX9_judge (.code yX9_judge cX9_judge 4 (some .int)) 2 := ⟨⟨_, _, rfl⟩, gt_597, gt_599, gt_18, gt_72, gt_600, by decide +kernel, by decide +kernel, by decide +kernel⟩
theorem mv_X9_253 : MV RX9 253 9 yX9_pairsJudged (.code yX9_pairsJudged cX9_pairsJudged 5 (some .int)) 1 := ⟨⟨_, _, rfl⟩, gt_593, gt_595, gt_17, gt_72, gt_596, by decide +kernel, by decide +kernel, by decide +kernel⟩
theorem mv_X9_256 : MV RX9 256 2 yX2_travel (.code yX2_travel cX2_travel 8 none) 4 := ⟨⟨_, _, rfl⟩, gt_472, gt_473, gt_474, gt_80, gt_475, by decide +kernel, by decide +kernel, by decide +kernel⟩
theorem mv_X9_275 : MV RX9 275 9 yX9_arrives (.code yX9_arrives cX9_arrives 4 (some .boolean)) 3 := ⟨⟨_, _, rfl⟩, gt_468, gt_470, gt_7, gt_72, gt_471, by decide +kernel, by decide +kernel, by decide +kernel⟩
theorem mv_X9_279 : MV RX9 279 2 yX2_wentOver (.code yX2_wentOver cX2_wentOver 3 (some .boolean)) 1 := ⟨⟨_, _, rfl⟩, gt_997, gt_998, gt_999, gt_80, gt_1000, by decide +kernel, by decide +kernel, by decide +kernel⟩
theorem mv_X9_285 : MV RX9 285 5 yX5_countUpTo (.code yX5_countUpTo cX5_countUpTo 4 (some .int)) 1 := ⟨⟨_, _, rfl⟩, gt_1022, gt_1023, gt_1024, gt_79, gt_1025, by decide +kernel, by decide +kernel, by decide +kernel⟩
theorem mv_X9_293 : MV RX9 293 3 yX3_put (.code yX3_put cX3_put 2 none) 1 := ⟨⟨_, _, rfl⟩, gt_1034, gt_1035, gt_1036, gt_82, gt_1037, by decide +kernel, by decide +kernel, by decide +kernel⟩
theorem mv_X9_296 : MV RX9 296 3 yX3_readInto (.code yX3_readInto cX3_readInto 5 (some .int)) 1 := ⟨⟨_, _, rfl⟩, gt_501, gt_502, gt_503, gt_82, gt_504, by decide +kernel, by decide +kernel, by decide +kernel⟩
theorem mv_X9_300 : MV RX9 300 6 yX6_copyFrom (.code yX6_copyFrom cX6_copyFrom 2 none) 1 := ⟨⟨_, _, rfl⟩, gt_534, gt_383, gt_384, gt_73, gt_385, by decide +kernel, by decide +kernel, by decide +kernel⟩
theorem mv_X9_308 : MV RX9 308 0 yX0_restore (.code yX0_restore cX0_restore 2 none) 1 := ⟨⟨_, _, rfl⟩, gt_1046, gt_1047, gt_1048, gt_75, gt_1049, by decide +kernel, by decide +kernel, by decide +kernel⟩
theorem mv_X9_318 : MV RX9 318 6 yX6_mixInto (.code yX6_mixInto cX6_mixInto 7 (some .long)) 1 := ⟨⟨_, _, rfl⟩, gt_578, gt_579, gt_580, gt_73, gt_581, by decide +kernel, by decide +kernel, by decide +kernel⟩
theorem mv_X9_322 : MV RX9 322 9 yX9_compactness (.code yX9_compactness cX9_compactness 3 (some .int)) 0 := ⟨⟨_, _, rfl⟩, gt_592, gt_440, gt_441, gt_72, gt_442, by decide +kernel, by decide +kernel, by decide +kernel⟩
theorem mv_X9_325 : MV RX9 325 9 yX9_arriving (.code yX9_arriving cX9_arriving 4 (some .int)) 0 := ⟨⟨_, _, rfl⟩, gt_606, gt_465, gt_466, gt_72, gt_467, by decide +kernel, by decide +kernel, by decide +kernel⟩
theorem ms_X10_56 : MS RX10 56 yX10_within (.code yX10_within cX10_within 3 (some .boolean)) 3 := ⟨gt_1142, gt_1143, gt_83, gt_1144, by decide +kernel, by decide +kernel, by decide +kernel⟩
theorem mv_X10_60 : MV RX10 60 10 yX10_part (.code yX10_part cX10_part 3 (some .int)) 2 := ⟨⟨_, _, rfl⟩, gt_1173, gt_1175, gt_36, gt_83, gt_1176, by decide +kernel, by decide +kernel, by decide +kernel⟩
theorem mv_X10_67 : MV RX10 67 10 yX10_refused (.code yX10_refused cX10_refused 2 (some .boolean)) 1 := ⟨⟨_, _, rfl⟩, gt_1134, gt_1136, gt_29, gt_83, gt_1137, by decide +kernel, by decide +kernel, by decide +kernel⟩
theorem mv_X10_71 : MV RX10 71 10 yX10_empties (.code yX10_empties cX10_empties 2 none) 0 := ⟨⟨_, _, rfl⟩, gt_1153, gt_1155, gt_32, gt_83, gt_1156, by decide +kernel, by decide +kernel, by decide +kernel⟩
theorem mv_X10_74 : MV RX10 74 10 yX10_saves (.code yX10_saves cX10_saves 2 none) 0 := ⟨⟨_, _, rfl⟩, gt_1145, gt_1147, gt_30, gt_83, gt_1148, by decide +kernel, by decide +kernel, by decide +kernel⟩
theorem mv_X10_77 : MV RX10 77 10 yX10_begins (.code yX10_begins cX10_begins 3 none) 1 := ⟨⟨_, _, rfl⟩, gt_1149, gt_1151, gt_31, gt_83, gt_1152, by decide +kernel, by decide +kernel, by decide +kernel⟩
theorem mv_X10_81 : MV RX10 81 10 yX10_isOf (.code yX10_isOf cX10_isOf 3 (some .boolean)) 2 := ⟨⟨_, _, rfl⟩, gt_1169, gt_1171, gt_35, gt_83, gt_1172, by decide +kernel, by decide +kernel, by decide +kernel⟩
theorem mv_X10_85 : MV RX10 85 10 yX10_isNode (.code yX10_isNode cX10_isNode 2 (some .boolean)) 1 := ⟨⟨_, _, rfl⟩, gt_1161, gt_1163, gt_33, gt_83, gt_1164, by decide +kernel, by decide +kernel, by decide +kernel⟩
theorem mv_X10_91 : MV RX10 91 10 yX10_joins (.code yX10_joins cX10_joins 5 none) 3 := ⟨⟨_, _, rfl⟩, gt_1177, gt_1179, gt_37, gt_83, gt_1180, by decide +kernel, by decide +kernel, by decide +kernel⟩
theorem mv_X10_88 : MV RX10 88 10 yX10_areJoined (.code yX10_areJoined cX10_areJoined 5 (some .boolean)) 2 := ⟨⟨_, _, rfl⟩, gt_1165, gt_1167, gt_34, gt_83, gt_1168, by decide +kernel, by decide +kernel, by decide +kernel⟩
theorem mv_X10_95 : MV RX10 95 10 yX10_isLink (.code yX10_isLink cX10_isLink 2 (some .boolean)) 1 := ⟨⟨_, _, rfl⟩, gt_1185, gt_1187, gt_38, gt_83, gt_1188, by decide +kernel, by decide +kernel, by decide +kernel⟩
theorem mv_X10_98 : MV RX10 98 10 yX10_eases (.code yX10_eases cX10_eases 5 (some .boolean)) 3 := ⟨⟨_, _, rfl⟩, gt_1209, gt_1211, gt_40, gt_83, gt_1212, by decide +kernel, by decide +kernel, by decide +kernel⟩
theorem mv_X10_101 : MV RX10 101 10 yX10_laysFar (.code yX10_laysFar cX10_laysFar 4 none) 0 := ⟨⟨_, _, rfl⟩, gt_1205, gt_1207, gt_39, gt_83, gt_1208, by decide +kernel, by decide +kernel, by decide +kernel⟩
theorem mv_X10_104 : MV RX10 104 10 yX10_farFrom (.code yX10_farFrom cX10_farFrom 3 (some .int)) 2 := ⟨⟨_, _, rfl⟩, gt_1213, gt_1215, gt_41, gt_83, gt_1216, by decide +kernel, by decide +kernel, by decide +kernel⟩
theorem mv_X10_107 : MV RX10 107 10 yX10_otherEnd (.code yX10_otherEnd cX10_otherEnd 3 (some .int)) 2 := ⟨⟨_, _, rfl⟩, gt_1225, gt_1227, gt_43, gt_83, gt_1228, by decide +kernel, by decide +kernel, by decide +kernel⟩
theorem mv_X10_110 : MV RX10 110 10 yX10_good (.code yX10_good cX10_good 6 (some .int)) 2 := ⟨⟨_, _, rfl⟩, gt_1221, gt_1223, gt_42, gt_83, gt_1224, by decide +kernel, by decide +kernel, by decide +kernel⟩
theorem mv_X10_113 : MV RX10 113 10 yX10_degree (.code yX10_degree cX10_degree 4 (some .int)) 1 := ⟨⟨_, _, rfl⟩, gt_1233, gt_1235, gt_44, gt_83, gt_1236, by decide +kernel, by decide +kernel, by decide +kernel⟩
theorem mv_X10_117 : MV RX10 117 10 yX10_nodeOf (.code yX10_nodeOf cX10_nodeOf 3 (some .int)) 1 := ⟨⟨_, _, rfl⟩, gt_1245, gt_1247, gt_45, gt_83, gt_1248, by decide +kernel, by decide +kernel, by decide +kernel⟩
theorem ms_X10_120 : MS RX10 120 yX10_has (.code yX10_has cX10_has 2 (some .boolean)) 2 := ⟨gt_1257, gt_1258, gt_83, gt_1259, by decide +kernel, by decide +kernel, by decide +kernel⟩
theorem mv_X10_149 : MV RX10 149 10 yX10_entryAt (.code yX10_entryAt cX10_entryAt 3 (some .int)) 2 := ⟨⟨_, _, rfl⟩, gt_1276, gt_1278, gt_51, gt_83, gt_1279, by decide +kernel, by decide +kernel, by decide +kernel⟩
theorem ms_X10_162 : MS RX10 162 yX10_cost (.code yX10_cost cX10_cost 2 (some .int)) 2 := ⟨gt_1285, gt_1286, gt_83, gt_1287, by decide +kernel, by decide +kernel, by decide +kernel⟩
theorem mv_X10_165 : MV RX10 165 10 yX10_laysRing (.code yX10_laysRing cX10_laysRing 3 none) 1 := ⟨⟨_, _, rfl⟩, gt_1272, gt_1274, gt_50, gt_83, gt_1275, by decide +kernel, by decide +kernel, by decide +kernel⟩
theorem mv_X10_169 : MV RX10 169 10 yX10_laysRest (.code yX10_laysRest cX10_laysRest 7 none) 1 := ⟨⟨_, _, rfl⟩, gt_1281, gt_1283, gt_52, gt_83, gt_1284, by decide +kernel, by decide +kernel, by decide +kernel⟩
theorem mv_X10_152 : MV RX10 152 10 yX10_isRound (.code yX10_isRound cX10_isRound 3 (some .boolean)) 0 := ⟨⟨_, _, rfl⟩, gt_1296, gt_1298, gt_55, gt_83, gt_1299, by decide +kernel, by decide +kernel, by decide +kernel⟩
theorem mv_X10_156 : MV RX10 156 10 yX10_beginsAt (.code yX10_beginsAt cX10_beginsAt 2 (some .boolean)) 1 := ⟨⟨_, _, rfl⟩, gt_1300, gt_1302, gt_56, gt_83, gt_1303, by decide +kernel, by decide +kernel, by decide +kernel⟩
theorem mv_X10_159 : MV RX10 159 10 yX10_runsOf (.code yX10_runsOf cX10_runsOf 4 (some .int)) 1 := ⟨⟨_, _, rfl⟩, gt_1292, gt_1294, gt_54, gt_83, gt_1295, by decide +kernel, by decide +kernel, by decide +kernel⟩
theorem mv_X10_133 : MV RX10 133 10 yX10_swaps (.code yX10_swaps cX10_swaps 4 none) 2 := ⟨⟨_, _, rfl⟩, gt_1312, gt_1314, gt_59, gt_83, gt_1315, by decide +kernel, by decide +kernel, by decide +kernel⟩
theorem mv_X10_211 : MV RX10 211 10 yX10_follows (.code yX10_follows cX10_follows 5 (some .boolean)) 0 := ⟨⟨_, _, rfl⟩, gt_1308, gt_1310, gt_58, gt_83, gt_1311, by decide +kernel, by decide +kernel, by decide +kernel⟩
theorem mv_X10_175 : MV RX10 175 10 yX10_laysBest (.code yX10_laysBest cX10_laysBest 6 none) 1 := ⟨⟨_, _, rfl⟩, gt_1268, gt_1270, gt_49, gt_83, gt_1271, by decide +kernel, by decide +kernel, by decide +kernel⟩
theorem mv_X10_181 : MV RX10 181 10 yX10_ringMost (.code yX10_ringMost cX10_ringMost 3 (some .int)) 0 := ⟨⟨_, _, rfl⟩, gt_1288, gt_1290, gt_53, gt_83, gt_1291, by decide +kernel, by decide +kernel, by decide +kernel⟩
theorem mv_X10_172 : MV RX10 172 10 yX10_ringSize (.code yX10_ringSize cX10_ringSize 3 (some .int)) 0 := ⟨⟨_, _, rfl⟩, gt_1304, gt_1306, gt_57, gt_83, gt_1307, by decide +kernel, by decide +kernel, by decide +kernel⟩
theorem mv_X10_129 : MV RX10 129 10 yX10_bestOf (.code yX10_bestOf cX10_bestOf 8 (some .int)) 0 := ⟨⟨_, _, rfl⟩, gt_1264, gt_1266, gt_48, gt_83, gt_1267, by decide +kernel, by decide +kernel, by decide +kernel⟩
theorem mv_X10_126 : MV RX10 126 10 yX10_ranks (.code yX10_ranks cX10_ranks 5 none) 1 := ⟨⟨_, _, rfl⟩, gt_1260, gt_1262, gt_47, gt_83, gt_1263, by decide +kernel, by decide +kernel, by decide +kernel⟩
theorem mv_X10_123 : MV RX10 123 10 yX10_visits (.code yX10_visits cX10_visits 8 none) 1 := ⟨⟨_, _, rfl⟩, gt_1253, gt_1255, gt_46, gt_83, gt_1256, by decide +kernel, by decide +kernel, by decide +kernel⟩
theorem mv_X10_178 : MV RX10 178 10 yX10_netSize (.code yX10_netSize cX10_netSize 3 (some .int)) 0 := ⟨⟨_, _, rfl⟩, gt_1337, gt_1339, gt_60, gt_83, gt_1340, by decide +kernel, by decide +kernel, by decide +kernel⟩
theorem mv_X10_184 : MV RX10 184 10 yX10_mostRuns (.code yX10_mostRuns cX10_mostRuns 3 (some .int)) 0 := ⟨⟨_, _, rfl⟩, gt_1365, gt_1367, gt_61, gt_83, gt_1368, by decide +kernel, by decide +kernel, by decide +kernel⟩
theorem mv_X10_187 : MV RX10 187 10 yX10_checks (.code yX10_checks cX10_checks 4 (some .int)) 2 := ⟨⟨_, _, rfl⟩, gt_1377, gt_1379, gt_62, gt_83, gt_1380, by decide +kernel, by decide +kernel, by decide +kernel⟩
theorem mv_X10_190 : MV RX10 190 10 yX10_checkedFor (.code yX10_checkedFor cX10_checkedFor 5 (some .int)) 1 := ⟨⟨_, _, rfl⟩, gt_1385, gt_1387, gt_63, gt_83, gt_1388, by decide +kernel, by decide +kernel, by decide +kernel⟩
theorem mv_X10_202 : MV RX10 202 10 yX10_lowestOther (.code yX10_lowestOther cX10_lowestOther 4 (some .int)) 2 := ⟨⟨_, _, rfl⟩, gt_1397, gt_1399, gt_65, gt_83, gt_1400, by decide +kernel, by decide +kernel, by decide +kernel⟩
theorem mv_X10_205 : MV RX10 205 10 yX10_goes (.code yX10_goes cX10_goes 6 (some .boolean)) 3 := ⟨⟨_, _, rfl⟩, gt_1393, gt_1395, gt_64, gt_83, gt_1396, by decide +kernel, by decide +kernel, by decide +kernel⟩
theorem mv_X10_208 : MV RX10 208 10 yX10_arrivals (.code yX10_arrivals cX10_arrivals 4 (some .int)) 0 := ⟨⟨_, _, rfl⟩, gt_1409, gt_1411, gt_66, gt_83, gt_1412, by decide +kernel, by decide +kernel, by decide +kernel⟩
theorem mv_X10_220 : MV RX10 220 10 yX10_isAt (.code yX10_isAt cX10_isAt 3 (some .boolean)) 2 := ⟨⟨_, _, rfl⟩, gt_1449, gt_1451, gt_68, gt_83, gt_1452, by decide +kernel, by decide +kernel, by decide +kernel⟩
theorem mv_X10_223 : MV RX10 223 10 yX10_takes (.code yX10_takes cX10_takes 3 (some .int)) 2 := ⟨⟨_, _, rfl⟩, gt_1445, gt_1447, gt_67, gt_83, gt_1448, by decide +kernel, by decide +kernel, by decide +kernel⟩
theorem mv_X10_226 : MV RX10 226 10 yX10_reads (.code yX10_reads cX10_reads 4 (some .boolean)) 0 := ⟨⟨_, _, rfl⟩, gt_1453, gt_1455, gt_69, gt_83, gt_1456, by decide +kernel, by decide +kernel, by decide +kernel⟩
theorem mv_X10_237 : MV RX10 237 10 yX10_mix (.code yX10_mix cX10_mix 2 none) 1 := ⟨⟨_, _, rfl⟩, gt_1462, gt_1464, gt_70, gt_83, gt_1465, by decide +kernel, by decide +kernel, by decide +kernel⟩
theorem mv_L_7 : MV RL 7 9 yX9_begin (.code yX9_begin cX9_begin 3 (some .int)) 1 := ⟨⟨_, _, rfl⟩, gt_611, gt_612, gt_613, gt_72, gt_614, by decide +kernel, by decide +kernel, by decide +kernel⟩
theorem mv_L_15 : MV RL 15 9 yX9_addLink (.code yX9_addLink cX9_addLink 4 (some .int)) 3 := ⟨⟨_, _, rfl⟩, gt_693, gt_694, gt_695, gt_72, gt_696, by decide +kernel, by decide +kernel, by decide +kernel⟩
theorem mv_L_23 : MV RL 23 9 yX9_removeLink (.code yX9_removeLink cX9_removeLink 2 (some .int)) 1 := ⟨⟨_, _, rfl⟩, gt_739, gt_740, gt_741, gt_72, gt_742, by decide +kernel, by decide +kernel, by decide +kernel⟩
theorem mv_L_26 : MV RL 26 9 yX9_setLength (.code yX9_setLength cX9_setLength 4 (some .int)) 2 := ⟨⟨_, _, rfl⟩, gt_755, gt_756, gt_757, gt_72, gt_758, by decide +kernel, by decide +kernel, by decide +kernel⟩
theorem mv_L_30 : MV RL 30 9 yX9_link (.code yX9_link cX9_link 3 (some .int)) 2 := ⟨⟨_, _, rfl⟩, gt_762, gt_763, gt_764, gt_72, gt_765, by decide +kernel, by decide +kernel, by decide +kernel⟩
theorem mv_L_33 : MV RL 33 9 yX9_distance (.code yX9_distance cX9_distance 4 (some .int)) 2 := ⟨⟨_, _, rfl⟩, gt_770, gt_771, gt_772, gt_72, gt_773, by decide +kernel, by decide +kernel, by decide +kernel⟩
theorem mv_L_36 : MV RL 36 9 yX9_goodLinks (.code yX9_goodLinks cX9_goodLinks 3 (some .int)) 2 := ⟨⟨_, _, rfl⟩, gt_777, gt_778, gt_779, gt_72, gt_780, by decide +kernel, by decide +kernel, by decide +kernel⟩
theorem mv_L_39 : MV RL 39 9 yX9_label (.code yX9_label cX9_label 2 (some .int)) 1 := ⟨⟨_, _, rfl⟩, gt_784, gt_785, gt_786, gt_72, gt_787, by decide +kernel, by decide +kernel, by decide +kernel⟩
theorem mv_L_42 : MV RL 42 9 yX9_nodeWith (.code yX9_nodeWith cX9_nodeWith 2 (some .int)) 1 := ⟨⟨_, _, rfl⟩, gt_791, gt_792, gt_793, gt_72, gt_794, by decide +kernel, by decide +kernel, by decide +kernel⟩
theorem mv_L_45 : MV RL 45 9 yX9_setLabels (.code yX9_setLabels cX9_setLabels 3 (some .int)) 2 := ⟨⟨_, _, rfl⟩, gt_807, gt_808, gt_809, gt_72, gt_810, by decide +kernel, by decide +kernel, by decide +kernel⟩
theorem mv_L_48 : MV RL 48 9 yX9_swapLabels (.code yX9_swapLabels cX9_swapLabels 3 (some .int)) 2 := ⟨⟨_, _, rfl⟩, gt_868, gt_869, gt_870, gt_72, gt_871, by decide +kernel, by decide +kernel, by decide +kernel⟩
theorem mv_L_51 : MV RL 51 9 yX9_turn (.code yX9_turn cX9_turn 3 (some .int)) 1 := ⟨⟨_, _, rfl⟩, gt_879, gt_880, gt_881, gt_72, gt_882, by decide +kernel, by decide +kernel, by decide +kernel⟩
theorem mv_L_54 : MV RL 54 9 yX9_shuffle (.code yX9_shuffle cX9_shuffle 2 (some .int)) 1 := ⟨⟨_, _, rfl⟩, gt_887, gt_888, gt_889, gt_72, gt_890, by decide +kernel, by decide +kernel, by decide +kernel⟩
theorem mv_L_57 : MV RL 57 9 yX9_setRange (.code yX9_setRange cX9_setRange 5 (some .int)) 4 := ⟨⟨_, _, rfl⟩, gt_905, gt_906, gt_907, gt_72, gt_908, by decide +kernel, by decide +kernel, by decide +kernel⟩
theorem mv_L_61 : MV RL 61 9 yX9_entry (.code yX9_entry cX9_entry 3 (some .int)) 2 := ⟨⟨_, _, rfl⟩, gt_918, gt_919, gt_920, gt_72, gt_921, by decide +kernel, by decide +kernel, by decide +kernel⟩
theorem mv_L_64 : MV RL 64 9 yX9_runs (.code yX9_runs cX9_runs 3 (some .int)) 2 := ⟨⟨_, _, rfl⟩, gt_925, gt_926, gt_927, gt_72, gt_928, by decide +kernel, by decide +kernel, by decide +kernel⟩
theorem mv_L_67 : MV RL 67 9 yX9_runEnd (.code yX9_runEnd cX9_runEnd 7 (some .int)) 4 := ⟨⟨_, _, rfl⟩, gt_933, gt_934, gt_935, gt_72, gt_936, by decide +kernel, by decide +kernel, by decide +kernel⟩
theorem mv_L_71 : MV RL 71 9 yX9_tableSize (.code yX9_tableSize cX9_tableSize 2 (some .int)) 1 := ⟨⟨_, _, rfl⟩, gt_950, gt_951, gt_952, gt_72, gt_953, by decide +kernel, by decide +kernel, by decide +kernel⟩
theorem mv_L_74 : MV RL 74 9 yX9_bestSize (.code yX9_bestSize cX9_bestSize 2 (some .int)) 1 := ⟨⟨_, _, rfl⟩, gt_957, gt_958, gt_959, gt_72, gt_960, by decide +kernel, by decide +kernel, by decide +kernel⟩
theorem mv_L_77 : MV RL 77 9 yX9_check (.code yX9_check cX9_check 3 (some .int)) 2 := ⟨⟨_, _, rfl⟩, gt_964, gt_965, gt_966, gt_72, gt_967, by decide +kernel, by decide +kernel, by decide +kernel⟩
theorem mv_L_80 : MV RL 80 9 yX9_checked (.code yX9_checked cX9_checked 2 (some .int)) 1 := ⟨⟨_, _, rfl⟩, gt_971, gt_972, gt_973, gt_72, gt_974, by decide +kernel, by decide +kernel, by decide +kernel⟩
theorem mv_L_83 : MV RL 83 9 yX9_send (.code yX9_send cX9_send 3 (some .int)) 2 := ⟨⟨_, _, rfl⟩, gt_978, gt_979, gt_980, gt_72, gt_981, by decide +kernel, by decide +kernel, by decide +kernel⟩
theorem mv_L_86 : MV RL 86 9 yX9_wayNode (.code yX9_wayNode cX9_wayNode 4 (some .int)) 3 := ⟨⟨_, _, rfl⟩, gt_985, gt_986, gt_987, gt_72, gt_988, by decide +kernel, by decide +kernel, by decide +kernel⟩
theorem mv_L_89 : MV RL 89 9 yX9_load (.code yX9_load cX9_load 5 (some .int)) 1 := ⟨⟨_, _, rfl⟩, gt_993, gt_994, gt_995, gt_72, gt_996, by decide +kernel, by decide +kernel, by decide +kernel⟩
theorem mv_L_92 : MV RL 92 9 yX9_lostWithout (.code yX9_lostWithout cX9_lostWithout 5 (some .int)) 1 := ⟨⟨_, _, rfl⟩, gt_1004, gt_1005, gt_1006, gt_72, gt_1007, by decide +kernel, by decide +kernel, by decide +kernel⟩
theorem mv_L_95 : MV RL 95 9 yX9_bestCompactness (.code yX9_bestCompactness cX9_bestCompactness 1 (some .int)) 0 := ⟨⟨_, _, rfl⟩, gt_1011, gt_1012, gt_1013, gt_72, gt_1014, by decide +kernel, by decide +kernel, by decide +kernel⟩
theorem mv_L_99 : MV RL 99 9 yX9_labelings (.code yX9_labelings cX9_labelings 2 (some .int)) 1 := ⟨⟨_, _, rfl⟩, gt_1018, gt_1019, gt_1020, gt_72, gt_1021, by decide +kernel, by decide +kernel, by decide +kernel⟩
theorem mv_L_102 : MV RL 102 9 yX9_append (.code yX9_append cX9_append 2 (some .int)) 1 := ⟨⟨_, _, rfl⟩, gt_1029, gt_1030, gt_1031, gt_72, gt_1032, by decide +kernel, by decide +kernel, by decide +kernel⟩
theorem mv_L_105 : MV RL 105 9 yX9_undo (.code yX9_undo cX9_undo 1 (some .int)) 0 := ⟨⟨_, _, rfl⟩, gt_1041, gt_1042, gt_1043, gt_72, gt_1044, by decide +kernel, by decide +kernel, by decide +kernel⟩
