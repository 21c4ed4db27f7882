theorem gu_aI : Cond.arrayClass .int ∈ GT := gt_of 152 (by decide +kernel) (by decide +kernel)
theorem gu_aJ : Cond.arrayClass .long ∈ GT := gt_of 1467 (by decide +kernel) (by decide +kernel)
theorem gu_100 : Cond.classLink RX9 9 RX6 ∈ GT := gt_of 100 (by decide +kernel) (by decide +kernel)
theorem gu_101 : Cond.instantiable RX6 7 ∈ GT := gt_of 101 (by decide +kernel) (by decide +kernel)
theorem gu_73 : Cond.initialized RX6 ∈ GT := gt_of 73 (by decide +kernel) (by decide +kernel)
theorem gu_122 : Cond.fieldLink RX6 9 RX6 "firstEnds" "[I" ∈ GT := gt_of 122 (by decide +kernel) (by decide +kernel)
theorem gu_124 : Cond.fieldLink RX6 15 RX6 "secondEnds" "[I" ∈ GT := gt_of 124 (by decide +kernel) (by decide +kernel)
theorem gu_126 : Cond.fieldLink RX6 18 RX6 "lengths" "[I" ∈ GT := gt_of 126 (by decide +kernel) (by decide +kernel)
theorem gu_130 : Cond.fieldLink RX6 21 RX6 "labels" "[I" ∈ GT := gt_of 130 (by decide +kernel) (by decide +kernel)
theorem gu_136 : Cond.fieldLink RX6 24 RX6 "entries" "[I" ∈ GT := gt_of 136 (by decide +kernel) (by decide +kernel)
theorem gu_102 : Cond.methodLink RX9 11 yX6_init ∈ GT := gt_of 102 (by decide +kernel) (by decide +kernel)
theorem gu_103 : Cond.instanceMethod yX6_init ∈ GT := gt_of 103 (by decide +kernel) (by decide +kernel)
theorem gu_104 : Cond.code yX6_init cX6_init 1 none ∈ GT := gt_of 104 (by decide +kernel) (by decide +kernel)
theorem gu_315 : Cond.fieldLink RX9 12 RX9 "state" "LIntervalRouter$State;" ∈ GT := gt_of 315 (by decide +kernel) (by decide +kernel)
theorem gu_316 : Cond.fieldLink RX9 16 RX9 "draft" "LIntervalRouter$State;" ∈ GT := gt_of 316 (by decide +kernel) (by decide +kernel)
theorem gu_153 : Cond.classLink RX9 19 RX0 ∈ GT := gt_of 153 (by decide +kernel) (by decide +kernel)
theorem gu_154 : Cond.instantiable RX0 2 ∈ GT := gt_of 154 (by decide +kernel) (by decide +kernel)
theorem gu_75 : Cond.initialized RX0 ∈ GT := gt_of 75 (by decide +kernel) (by decide +kernel)
theorem gu_159 : Cond.classLink RX0 9 RX6 ∈ GT := gt_of 159 (by decide +kernel) (by decide +kernel)
theorem gu_164 : Cond.fieldLink RX0 11 RX0 "saved" "[LIntervalRouter$State;" ∈ GT := gt_of 164 (by decide +kernel) (by decide +kernel)
theorem gu_161 : Cond.methodLink RX0 17 yX6_init ∈ GT := gt_of 161 (by decide +kernel) (by decide +kernel)
theorem gu_155 : Cond.methodLink RX9 21 yX0_init ∈ GT := gt_of 155 (by decide +kernel) (by decide +kernel)
theorem gu_156 : Cond.instanceMethod yX0_init ∈ GT := gt_of 156 (by decide +kernel) (by decide +kernel)
theorem gu_157 : Cond.code yX0_init cX0_init 2 none ∈ GT := gt_of 157 (by decide +kernel) (by decide +kernel)
theorem gu_317 : Cond.fieldLink RX9 22 RX9 "history" "LIntervalRouter$History;" ∈ GT := gt_of 317 (by decide +kernel) (by decide +kernel)
theorem gu_170 : Cond.classLink RX9 26 RX8 ∈ GT := gt_of 170 (by decide +kernel) (by decide +kernel)
theorem gu_171 : Cond.instantiable RX8 4 ∈ GT := gt_of 171 (by decide +kernel) (by decide +kernel)
theorem gu_76 : Cond.initialized RX8 ∈ GT := gt_of 76 (by decide +kernel) (by decide +kernel)
theorem gu_176 : Cond.fieldLink RX8 9 RX8 "distances" "[I" ∈ GT := gt_of 176 (by decide +kernel) (by decide +kernel)
theorem gu_177 : Cond.fieldLink RX8 15 RX8 "goodSets" "[I" ∈ GT := gt_of 177 (by decide +kernel) (by decide +kernel)
theorem gu_178 : Cond.fieldLink RX8 18 RX8 "choices" "[I" ∈ GT := gt_of 178 (by decide +kernel) (by decide +kernel)
theorem gu_179 : Cond.fieldLink RX8 21 RX8 "choiceCounts" "[I" ∈ GT := gt_of 179 (by decide +kernel) (by decide +kernel)
theorem gu_172 : Cond.methodLink RX9 28 yX8_init ∈ GT := gt_of 172 (by decide +kernel) (by decide +kernel)
theorem gu_173 : Cond.instanceMethod yX8_init ∈ GT := gt_of 173 (by decide +kernel) (by decide +kernel)
theorem gu_174 : Cond.code yX8_init cX8_init 1 none ∈ GT := gt_of 174 (by decide +kernel) (by decide +kernel)
theorem gu_318 : Cond.fieldLink RX9 29 RX9 "ways" "LIntervalRouter$Ways;" ∈ GT := gt_of 318 (by decide +kernel) (by decide +kernel)
theorem gu_189 : Cond.classLink RX9 33 RX4 ∈ GT := gt_of 189 (by decide +kernel) (by decide +kernel)
theorem gu_190 : Cond.instantiable RX4 2 ∈ GT := gt_of 190 (by decide +kernel) (by decide +kernel)
theorem gu_77 : Cond.initialized RX4 ∈ GT := gt_of 77 (by decide +kernel) (by decide +kernel)
theorem gu_198 : Cond.fieldLink RX4 9 RX4 "entries" "[I" ∈ GT := gt_of 198 (by decide +kernel) (by decide +kernel)
theorem gu_191 : Cond.methodLink RX9 35 yX4_init ∈ GT := gt_of 191 (by decide +kernel) (by decide +kernel)
theorem gu_192 : Cond.instanceMethod yX4_init ∈ GT := gt_of 192 (by decide +kernel) (by decide +kernel)
theorem gu_193 : Cond.code yX4_init cX4_init 1 none ∈ GT := gt_of 193 (by decide +kernel) (by decide +kernel)
theorem gu_319 : Cond.fieldLink RX9 36 RX9 "ring" "LIntervalRouter$Ring;" ∈ GT := gt_of 319 (by decide +kernel) (by decide +kernel)
theorem gu_206 : Cond.classLink RX9 40 RX7 ∈ GT := gt_of 206 (by decide +kernel) (by decide +kernel)
theorem gu_207 : Cond.instantiable RX7 5 ∈ GT := gt_of 207 (by decide +kernel) (by decide +kernel)
theorem gu_78 : Cond.initialized RX7 ∈ GT := gt_of 78 (by decide +kernel) (by decide +kernel)
theorem gu_213 : Cond.fieldLink RX7 9 RX7 "seats" "[I" ∈ GT := gt_of 213 (by decide +kernel) (by decide +kernel)
theorem gu_214 : Cond.fieldLink RX7 15 RX7 "counts" "[I" ∈ GT := gt_of 214 (by decide +kernel) (by decide +kernel)
theorem gu_215 : Cond.fieldLink RX7 18 RX7 "choices" "[I" ∈ GT := gt_of 215 (by decide +kernel) (by decide +kernel)
theorem gu_216 : Cond.fieldLink RX7 21 RX7 "prices" "[I" ∈ GT := gt_of 216 (by decide +kernel) (by decide +kernel)
theorem gu_208 : Cond.methodLink RX9 42 yX7_init ∈ GT := gt_of 208 (by decide +kernel) (by decide +kernel)
theorem gu_209 : Cond.instanceMethod yX7_init ∈ GT := gt_of 209 (by decide +kernel) (by decide +kernel)
theorem gu_210 : Cond.code yX7_init cX7_init 1 none ∈ GT := gt_of 210 (by decide +kernel) (by decide +kernel)
theorem gu_320 : Cond.fieldLink RX9 43 RX9 "maker" "LIntervalRouter$TableMaker;" ∈ GT := gt_of 320 (by decide +kernel) (by decide +kernel)
theorem gu_228 : Cond.classLink RX9 47 RX5 ∈ GT := gt_of 228 (by decide +kernel) (by decide +kernel)
theorem gu_229 : Cond.instantiable RX5 9 ∈ GT := gt_of 229 (by decide +kernel) (by decide +kernel)
theorem gu_79 : Cond.initialized RX5 ∈ GT := gt_of 79 (by decide +kernel) (by decide +kernel)
theorem gu_242 : Cond.fieldLink RX5 9 RX5 "trial" "[I" ∈ GT := gt_of 242 (by decide +kernel) (by decide +kernel)
theorem gu_243 : Cond.fieldLink RX5 15 RX5 "best" "[I" ∈ GT := gt_of 243 (by decide +kernel) (by decide +kernel)
theorem gu_244 : Cond.fieldLink RX5 18 RX5 "tally" "[I" ∈ GT := gt_of 244 (by decide +kernel) (by decide +kernel)
theorem gu_234 : Cond.classLink RX5 21 RX4 ∈ GT := gt_of 234 (by decide +kernel) (by decide +kernel)
theorem gu_235 : Cond.methodLink RX5 23 yX4_init ∈ GT := gt_of 235 (by decide +kernel) (by decide +kernel)
theorem gu_245 : Cond.fieldLink RX5 24 RX5 "table" "LIntervalRouter$Ring;" ∈ GT := gt_of 245 (by decide +kernel) (by decide +kernel)
theorem gu_230 : Cond.methodLink RX9 49 yX5_init ∈ GT := gt_of 230 (by decide +kernel) (by decide +kernel)
theorem gu_231 : Cond.instanceMethod yX5_init ∈ GT := gt_of 231 (by decide +kernel) (by decide +kernel)
theorem gu_232 : Cond.code yX5_init cX5_init 1 none ∈ GT := gt_of 232 (by decide +kernel) (by decide +kernel)
theorem gu_321 : Cond.fieldLink RX9 50 RX9 "search" "LIntervalRouter$Search;" ∈ GT := gt_of 321 (by decide +kernel) (by decide +kernel)
theorem gu_265 : Cond.classLink RX9 54 RX2 ∈ GT := gt_of 265 (by decide +kernel) (by decide +kernel)
theorem gu_266 : Cond.instantiable RX2 5 ∈ GT := gt_of 266 (by decide +kernel) (by decide +kernel)
theorem gu_80 : Cond.initialized RX2 ∈ GT := gt_of 80 (by decide +kernel) (by decide +kernel)
theorem gu_277 : Cond.fieldLink RX2 9 RX2 "visited" "[I" ∈ GT := gt_of 277 (by decide +kernel) (by decide +kernel)
theorem gu_279 : Cond.fieldLink RX2 15 RX2 "taken" "[I" ∈ GT := gt_of 279 (by decide +kernel) (by decide +kernel)
theorem gu_267 : Cond.methodLink RX9 56 yX2_init ∈ GT := gt_of 267 (by decide +kernel) (by decide +kernel)
theorem gu_268 : Cond.instanceMethod yX2_init ∈ GT := gt_of 268 (by decide +kernel) (by decide +kernel)
theorem gu_269 : Cond.code yX2_init cX2_init 1 none ∈ GT := gt_of 269 (by decide +kernel) (by decide +kernel)
theorem gu_322 : Cond.fieldLink RX9 57 RX9 "letter" "LIntervalRouter$Letter;" ∈ GT := gt_of 322 (by decide +kernel) (by decide +kernel)
theorem gu_291 : Cond.classLink RX9 61 RX1 ∈ GT := gt_of 291 (by decide +kernel) (by decide +kernel)
theorem gu_292 : Cond.instantiable RX1 1 ∈ GT := gt_of 292 (by decide +kernel) (by decide +kernel)
theorem gu_81 : Cond.initialized RX1 ∈ GT := gt_of 81 (by decide +kernel) (by decide +kernel)
theorem gu_297 : Cond.fieldLink RX1 9 RX1 "parents" "[I" ∈ GT := gt_of 297 (by decide +kernel) (by decide +kernel)
theorem gu_293 : Cond.methodLink RX9 63 yX1_init ∈ GT := gt_of 293 (by decide +kernel) (by decide +kernel)
theorem gu_294 : Cond.instanceMethod yX1_init ∈ GT := gt_of 294 (by decide +kernel) (by decide +kernel)
theorem gu_295 : Cond.code yX1_init cX1_init 1 none ∈ GT := gt_of 295 (by decide +kernel) (by decide +kernel)
theorem gu_323 : Cond.fieldLink RX9 64 RX9 "labeler" "LIntervalRouter$Labeler;" ∈ GT := gt_of 323 (by decide +kernel) (by decide +kernel)
theorem gu_301 : Cond.classLink RX9 68 RX3 ∈ GT := gt_of 301 (by decide +kernel) (by decide +kernel)
theorem gu_302 : Cond.instantiable RX3 2 ∈ GT := gt_of 302 (by decide +kernel) (by decide +kernel)
theorem gu_82 : Cond.initialized RX3 ∈ GT := gt_of 82 (by decide +kernel) (by decide +kernel)
theorem gu_309 : Cond.fieldLink RX3 9 RX3 "bytes" "[I" ∈ GT := gt_of 309 (by decide +kernel) (by decide +kernel)
theorem gu_303 : Cond.methodLink RX9 70 yX3_init ∈ GT := gt_of 303 (by decide +kernel) (by decide +kernel)
theorem gu_304 : Cond.instanceMethod yX3_init ∈ GT := gt_of 304 (by decide +kernel) (by decide +kernel)
theorem gu_305 : Cond.code yX3_init cX3_init 1 none ∈ GT := gt_of 305 (by decide +kernel) (by decide +kernel)
theorem gu_324 : Cond.fieldLink RX9 71 RX9 "text" "LIntervalRouter$NetworkText;" ∈ GT := gt_of 324 (by decide +kernel) (by decide +kernel)
theorem gu_1056 : Cond.fieldLink RX10 7 RX10 "now" "[I" ∈ GT := gt_of 1056 (by decide +kernel) (by decide +kernel)
theorem gu_1057 : Cond.fieldLink RX10 13 RX10 "past" "[I" ∈ GT := gt_of 1057 (by decide +kernel) (by decide +kernel)
theorem gu_1060 : Cond.fieldLink RX10 16 RX10 "text" "[I" ∈ GT := gt_of 1060 (by decide +kernel) (by decide +kernel)
theorem gu_1062 : Cond.fieldLink RX10 19 RX10 "far" "[I" ∈ GT := gt_of 1062 (by decide +kernel) (by decide +kernel)
theorem gu_1063 : Cond.fieldLink RX10 22 RX10 "trail" "[I" ∈ GT := gt_of 1063 (by decide +kernel) (by decide +kernel)
theorem gu_1064 : Cond.fieldLink RX10 25 RX10 "ring" "[I" ∈ GT := gt_of 1064 (by decide +kernel) (by decide +kernel)
theorem gu_1065 : Cond.fieldLink RX10 28 RX10 "ringLabel" "[I" ∈ GT := gt_of 1065 (by decide +kernel) (by decide +kernel)
theorem gu_1067 : Cond.fieldLink RX10 31 RX10 "may" "[I" ∈ GT := gt_of 1067 (by decide +kernel) (by decide +kernel)
theorem gu_1068 : Cond.fieldLink RX10 34 RX10 "rest" "[I" ∈ GT := gt_of 1068 (by decide +kernel) (by decide +kernel)
theorem gu_1069 : Cond.fieldLink RX10 37 RX10 "way" "[I" ∈ GT := gt_of 1069 (by decide +kernel) (by decide +kernel)
theorem gu_1073 : Cond.fieldLink RX10 40 RX10 "bestLabels" "[I" ∈ GT := gt_of 1073 (by decide +kernel) (by decide +kernel)
theorem gu_1074 : Cond.fieldLink RX10 43 RX10 "kept" "[I" ∈ GT := gt_of 1074 (by decide +kernel) (by decide +kernel)
theorem gu_1075 : Cond.fieldLink RX10 46 RX10 "tally" "[I" ∈ GT := gt_of 1075 (by decide +kernel) (by decide +kernel)
theorem gu_1077 : Cond.fieldLink RX10 49 RX10 "aside" "[I" ∈ GT := gt_of 1077 (by decide +kernel) (by decide +kernel)
theorem ob_X9_3 : Cond.methodLink RX9 3 Lib.objectInit ∈ GT ∧ Cond.instanceMethod Lib.objectInit ∈ GT ∧ Cond.code Lib.objectInit ⟨#[0xb1]⟩ 1 none ∈ GT := ⟨gt_of 97 (by decide +kernel) (by decide +kernel), gt_of 98 (by decide +kernel) (by decide +kernel), gt_of 99 (by decide +kernel) (by decide +kernel)⟩
theorem ob_X6_3 : Cond.methodLink RX6 3 Lib.objectInit ∈ GT ∧ Cond.instanceMethod Lib.objectInit ∈ GT ∧ Cond.code Lib.objectInit ⟨#[0xb1]⟩ 1 none ∈ GT := ⟨gt_of 105 (by decide +kernel) (by decide +kernel), gt_of 98 (by decide +kernel) (by decide +kernel), gt_of 99 (by decide +kernel) (by decide +kernel)⟩
theorem ob_X0_3 : Cond.methodLink RX0 3 Lib.objectInit ∈ GT ∧ Cond.instanceMethod Lib.objectInit ∈ GT ∧ Cond.code Lib.objectInit ⟨#[0xb1]⟩ 1 none ∈ GT := ⟨gt_of 158 (by decide +kernel) (by decide +kernel), gt_of 98 (by decide +kernel) (by decide +kernel), gt_of 99 (by decide +kernel) (by decide +kernel)⟩
theorem ob_X8_3 : Cond.methodLink RX8 3 Lib.objectInit ∈ GT ∧ Cond.instanceMethod Lib.objectInit ∈ GT ∧ Cond.code Lib.objectInit ⟨#[0xb1]⟩ 1 none ∈ GT := ⟨gt_of 175 (by decide +kernel) (by decide +kernel), gt_of 98 (by decide +kernel) (by decide +kernel), gt_of 99 (by decide +kernel) (by decide +kernel)⟩
theorem ob_X4_3 : Cond.methodLink RX4 3 Lib.objectInit ∈ GT ∧ Cond.instanceMethod Lib.objectInit ∈ GT ∧ Cond.code Lib.objectInit ⟨#[0xb1]⟩ 1 none ∈ GT := ⟨gt_of 194 (by decide +kernel) (by decide +kernel), gt_of 98 (by decide +kernel) (by decide +kernel), gt_of 99 (by decide +kernel) (by decide +kernel)⟩
theorem ob_X7_3 : Cond.methodLink RX7 3 Lib.objectInit ∈ GT ∧ Cond.instanceMethod Lib.objectInit ∈ GT ∧ Cond.code Lib.objectInit ⟨#[0xb1]⟩ 1 none ∈ GT := ⟨gt_of 211 (by decide +kernel) (by decide +kernel), gt_of 98 (by decide +kernel) (by decide +kernel), gt_of 99 (by decide +kernel) (by decide +kernel)⟩
theorem ob_X5_3 : Cond.methodLink RX5 3 Lib.objectInit ∈ GT ∧ Cond.instanceMethod Lib.objectInit ∈ GT ∧ Cond.code Lib.objectInit ⟨#[0xb1]⟩ 1 none ∈ GT := ⟨gt_of 233 (by decide +kernel) (by decide +kernel), gt_of 98 (by decide +kernel) (by decide +kernel), gt_of 99 (by decide +kernel) (by decide +kernel)⟩
theorem ob_X2_3 : Cond.methodLink RX2 3 Lib.objectInit ∈ GT ∧ Cond.instanceMethod Lib.objectInit ∈ GT ∧ Cond.code Lib.objectInit ⟨#[0xb1]⟩ 1 none ∈ GT := ⟨gt_of 270 (by decide +kernel) (by decide +kernel), gt_of 98 (by decide +kernel) (by decide +kernel), gt_of 99 (by decide +kernel) (by decide +kernel)⟩
theorem ob_X1_3 : Cond.methodLink RX1 3 Lib.objectInit ∈ GT ∧ Cond.instanceMethod Lib.objectInit ∈ GT ∧ Cond.code Lib.objectInit ⟨#[0xb1]⟩ 1 none ∈ GT := ⟨gt_of 296 (by decide +kernel) (by decide +kernel), gt_of 98 (by decide +kernel) (by decide +kernel), gt_of 99 (by decide +kernel) (by decide +kernel)⟩
theorem ob_X3_3 : Cond.methodLink RX3 3 Lib.objectInit ∈ GT ∧ Cond.instanceMethod Lib.objectInit ∈ GT ∧ Cond.code Lib.objectInit ⟨#[0xb1]⟩ 1 none ∈ GT := ⟨gt_of 306 (by decide +kernel) (by decide +kernel), gt_of 98 (by decide +kernel) (by decide +kernel), gt_of 99 (by decide +kernel) (by decide +kernel)⟩
theorem ob_X10_1 : Cond.methodLink RX10 1 Lib.objectInit ∈ GT ∧ Cond.instanceMethod Lib.objectInit ∈ GT ∧ Cond.code Lib.objectInit ⟨#[0xb1]⟩ 1 none ∈ GT := ⟨gt_of 1055 (by decide +kernel) (by decide +kernel), gt_of 98 (by decide +kernel) (by decide +kernel), gt_of 99 (by decide +kernel) (by decide +kernel)⟩
theorem nw_X9_9 : NW RX9 9 6 7 [.int 0, .int 0, .null, .null, .null, .null, .null] := ⟨_, _, tyX6, rfl, iw_6, tyX6_ok, gu_100, gu_101, gu_73, by decide +kernel⟩
theorem nw_X9_19 : NW RX9 19 0 2 [.int 0, .null] := ⟨_, _, tyX0, rfl, iw_0, tyX0_ok, gu_153, gu_154, gu_75, by decide +kernel⟩
theorem nw_X0_9 : NW RX0 9 6 7 [.int 0, .int 0, .null, .null, .null, .null, .null] := ⟨_, _, tyX6, rfl, iw_6, tyX6_ok, gu_159, gu_101, gu_73, by decide +kernel⟩
theorem nw_X9_26 : NW RX9 26 8 4 [.null, .null, .null, .null] := ⟨_, _, tyX8, rfl, iw_8, tyX8_ok, gu_170, gu_171, gu_76, by decide +kernel⟩
theorem nw_X9_33 : NW RX9 33 4 2 [.int 0, .null] := ⟨_, _, tyX4, rfl, iw_4, tyX4_ok, gu_189, gu_190, gu_77, by decide +kernel⟩
theorem nw_X9_40 : NW RX9 40 7 5 [.int 0, .null, .null, .null, .null] := ⟨_, _, tyX7, rfl, iw_7, tyX7_ok, gu_206, gu_207, gu_78, by decide +kernel⟩
theorem nw_X9_47 : NW RX9 47 5 9 [.int 0, .int 0, .int 0, .int 0, .int 0, .null, .null, .null, .null] := ⟨_, _, tyX5, rfl, iw_5, tyX5_ok, gu_228, gu_229, gu_79, by decide +kernel⟩
theorem nw_X5_21 : NW RX5 21 4 2 [.int 0, .null] := ⟨_, _, tyX4, rfl, iw_4, tyX4_ok, gu_234, gu_190, gu_77, by decide +kernel⟩
theorem nw_X9_54 : NW RX9 54 2 5 [.int 0, .int 0, .int 0, .null, .null] := ⟨_, _, tyX2, rfl, iw_2, tyX2_ok, gu_265, gu_266, gu_80, by decide +kernel⟩
theorem nw_X9_61 : NW RX9 61 1 1 [.null] := ⟨_, _, tyX1, rfl, iw_1, tyX1_ok, gu_291, gu_292, gu_81, by decide +kernel⟩
theorem nw_X9_68 : NW RX9 68 3 2 [.int 0, .null] := ⟨_, _, tyX3, rfl, iw_3, tyX3_ok, gu_301, gu_302, gu_82, by decide +kernel⟩
theorem ff_X6_9 : FF RX6 9 6 2 := ⟨_, _, tyX6, 7, rfl, by decide, gu_122, iw_6, tyX6_ok, nmX6, rfl, rfl, tyX6 2, tyX6_ok 2 (by decide), fun _ => ⟨rfl, rfl⟩⟩
theorem ff_X6_15 : FF RX6 15 6 3 := ⟨_, _, tyX6, 7, rfl, by decide, gu_124, iw_6, tyX6_ok, nmX6, rfl, rfl, tyX6 3, tyX6_ok 3 (by decide), fun _ => ⟨rfl, rfl⟩⟩
theorem ff_X6_18 : FF RX6 18 6 4 := ⟨_, _, tyX6, 7, rfl, by decide, gu_126, iw_6, tyX6_ok, nmX6, rfl, rfl, tyX6 4, tyX6_ok 4 (by decide), fun _ => ⟨rfl, rfl⟩⟩
theorem ff_X6_21 : FF RX6 21 6 5 := ⟨_, _, tyX6, 7, rfl, by decide, gu_130, iw_6, tyX6_ok, nmX6, rfl, rfl, tyX6 5, tyX6_ok 5 (by decide), fun _ => ⟨rfl, rfl⟩⟩
theorem ff_X6_24 : FF RX6 24 6 6 := ⟨_, _, tyX6, 7, rfl, by decide, gu_136, iw_6, tyX6_ok, nmX6, rfl, rfl, tyX6 6, tyX6_ok 6 (by decide), fun _ => ⟨rfl, rfl⟩⟩
theorem ff_X9_12 : FF RX9 12 9 0 := ⟨_, _, tyX9, 10, rfl, by decide, gu_315, iw_9, tyX9_ok, nmX9, rfl, rfl, tyX9 0, tyX9_ok 0 (by decide), fun _ => ⟨rfl, rfl⟩⟩
theorem ff_X9_16 : FF RX9 16 9 1 := ⟨_, _, tyX9, 10, rfl, by decide, gu_316, iw_9, tyX9_ok, nmX9, rfl, rfl, tyX9 1, tyX9_ok 1 (by decide), fun _ => ⟨rfl, rfl⟩⟩
theorem ff_X0_11 : FF RX0 11 0 1 := ⟨_, _, tyX0, 2, rfl, by decide, gu_164, iw_0, tyX0_ok, nmX0, rfl, rfl, tyX0 1, tyX0_ok 1 (by decide), fun _ => ⟨rfl, rfl⟩⟩
theorem ff_X9_22 : FF RX9 22 9 2 := ⟨_, _, tyX9, 10, rfl, by decide, gu_317, iw_9, tyX9_ok, nmX9, rfl, rfl, tyX9 2, tyX9_ok 2 (by decide), fun _ => ⟨rfl, rfl⟩⟩
theorem ff_X8_9 : FF RX8 9 8 0 := ⟨_, _, tyX8, 4, rfl, by decide, gu_176, iw_8, tyX8_ok, nmX8, rfl, rfl, tyX8 0, tyX8_ok 0 (by decide), fun _ => ⟨rfl, rfl⟩⟩
theorem ff_X8_15 : FF RX8 15 8 1 := ⟨_, _, tyX8, 4, rfl, by decide, gu_177, iw_8, tyX8_ok, nmX8, rfl, rfl, tyX8 1, tyX8_ok 1 (by decide), fun _ => ⟨rfl, rfl⟩⟩
theorem ff_X8_18 : FF RX8 18 8 2 := ⟨_, _, tyX8, 4, rfl, by decide, gu_178, iw_8, tyX8_ok, nmX8, rfl, rfl, tyX8 2, tyX8_ok 2 (by decide), fun _ => ⟨rfl, rfl⟩⟩
theorem ff_X8_21 : FF RX8 21 8 3 := ⟨_, _, tyX8, 4, rfl, by decide, gu_179, iw_8, tyX8_ok, nmX8, rfl, rfl, tyX8 3, tyX8_ok 3 (by decide), fun _ => ⟨rfl, rfl⟩⟩
theorem ff_X9_29 : FF RX9 29 9 3 := ⟨_, _, tyX9, 10, rfl, by decide, gu_318, iw_9, tyX9_ok, nmX9, rfl, rfl, tyX9 3, tyX9_ok 3 (by decide), fun _ => ⟨rfl, rfl⟩⟩
theorem ff_X4_9 : FF RX4 9 4 1 := ⟨_, _, tyX4, 2, rfl, by decide, gu_198, iw_4, tyX4_ok, nmX4, rfl, rfl, tyX4 1, tyX4_ok 1 (by decide), fun _ => ⟨rfl, rfl⟩⟩
theorem ff_X9_36 : FF RX9 36 9 4 := ⟨_, _, tyX9, 10, rfl, by decide, gu_319, iw_9, tyX9_ok, nmX9, rfl, rfl, tyX9 4, tyX9_ok 4 (by decide), fun _ => ⟨rfl, rfl⟩⟩
theorem ff_X7_9 : FF RX7 9 7 1 := ⟨_, _, tyX7, 5, rfl, by decide, gu_213, iw_7, tyX7_ok, nmX7, rfl, rfl, tyX7 1, tyX7_ok 1 (by decide), fun _ => ⟨rfl, rfl⟩⟩
theorem ff_X7_15 : FF RX7 15 7 2 := ⟨_, _, tyX7, 5, rfl, by decide, gu_214, iw_7, tyX7_ok, nmX7, rfl, rfl, tyX7 2, tyX7_ok 2 (by decide), fun _ => ⟨rfl, rfl⟩⟩
theorem ff_X7_18 : FF RX7 18 7 3 := ⟨_, _, tyX7, 5, rfl, by decide, gu_215, iw_7, tyX7_ok, nmX7, rfl, rfl, tyX7 3, tyX7_ok 3 (by decide), fun _ => ⟨rfl, rfl⟩⟩
theorem ff_X7_21 : FF RX7 21 7 4 := ⟨_, _, tyX7, 5, rfl, by decide, gu_216, iw_7, tyX7_ok, nmX7, rfl, rfl, tyX7 4, tyX7_ok 4 (by decide), fun _ => ⟨rfl, rfl⟩⟩
theorem ff_X9_43 : FF RX9 43 9 5 := ⟨_, _, tyX9, 10, rfl, by decide, gu_320, iw_9, tyX9_ok, nmX9, rfl, rfl, tyX9 5, tyX9_ok 5 (by decide), fun _ => ⟨rfl, rfl⟩⟩
theorem ff_X5_9 : FF RX5 9 5 5 := ⟨_, _, tyX5, 9, rfl, by decide, gu_242, iw_5, tyX5_ok, nmX5, rfl, rfl, tyX5 5, tyX5_ok 5 (by decide), fun _ => ⟨rfl, rfl⟩⟩
theorem ff_X5_15 : FF RX5 15 5 6 := ⟨_, _, tyX5, 9, rfl, by decide, gu_243, iw_5, tyX5_ok, nmX5, rfl, rfl, tyX5 6, tyX5_ok 6 (by decide), fun _ => ⟨rfl, rfl⟩⟩
theorem ff_X5_18 : FF RX5 18 5 7 := ⟨_, _, tyX5, 9, rfl, by decide, gu_244, iw_5, tyX5_ok, nmX5, rfl, rfl, tyX5 7, tyX5_ok 7 (by decide), fun _ => ⟨rfl, rfl⟩⟩
theorem ff_X5_24 : FF RX5 24 5 8 := ⟨_, _, tyX5, 9, rfl, by decide, gu_245, iw_5, tyX5_ok, nmX5, rfl, rfl, tyX5 8, tyX5_ok 8 (by decide), fun _ => ⟨rfl, rfl⟩⟩
theorem ff_X9_50 : FF RX9 50 9 6 := ⟨_, _, tyX9, 10, rfl, by decide, gu_321, iw_9, tyX9_ok, nmX9, rfl, rfl, tyX9 6, tyX9_ok 6 (by decide), fun _ => ⟨rfl, rfl⟩⟩
theorem ff_X2_9 : FF RX2 9 2 3 := ⟨_, _, tyX2, 5, rfl, by decide, gu_277, iw_2, tyX2_ok, nmX2, rfl, rfl, tyX2 3, tyX2_ok 3 (by decide), fun _ => ⟨rfl, rfl⟩⟩
theorem ff_X2_15 : FF RX2 15 2 4 := ⟨_, _, tyX2, 5, rfl, by decide, gu_279, iw_2, tyX2_ok, nmX2, rfl, rfl, tyX2 4, tyX2_ok 4 (by decide), fun _ => ⟨rfl, rfl⟩⟩
theorem ff_X9_57 : FF RX9 57 9 7 := ⟨_, _, tyX9, 10, rfl, by decide, gu_322, iw_9, tyX9_ok, nmX9, rfl, rfl, tyX9 7, tyX9_ok 7 (by decide), fun _ => ⟨rfl, rfl⟩⟩
theorem ff_X1_9 : FF RX1 9 1 0 := ⟨_, _, tyX1, 1, rfl, by decide, gu_297, iw_1, tyX1_ok, nmX1, rfl, rfl, tyX1 0, tyX1_ok 0 (by decide), fun _ => ⟨rfl, rfl⟩⟩
theorem ff_X9_64 : FF RX9 64 9 8 := ⟨_, _, tyX9, 10, rfl, by decide, gu_323, iw_9, tyX9_ok, nmX9, rfl, rfl, tyX9 8, tyX9_ok 8 (by decide), fun _ => ⟨rfl, rfl⟩⟩
theorem ff_X3_9 : FF RX3 9 3 1 := ⟨_, _, tyX3, 2, rfl, by decide, gu_309, iw_3, tyX3_ok, nmX3, rfl, rfl, tyX3 1, tyX3_ok 1 (by decide), fun _ => ⟨rfl, rfl⟩⟩
theorem ff_X9_71 : FF RX9 71 9 9 := ⟨_, _, tyX9, 10, rfl, by decide, gu_324, iw_9, tyX9_ok, nmX9, rfl, rfl, tyX9 9, tyX9_ok 9 (by decide), fun _ => ⟨rfl, rfl⟩⟩
theorem ff_X10_7 : FF RX10 7 10 0 := ⟨_, _, tyX10, 23, rfl, by decide, gu_1056, iw_10, tyX10_ok, nmX10, rfl, rfl, tyX10 0, tyX10_ok 0 (by decide), fun _ => ⟨rfl, rfl⟩⟩
theorem ff_X10_13 : FF RX10 13 10 1 := ⟨_, _, tyX10, 23, rfl, by decide, gu_1057, iw_10, tyX10_ok, nmX10, rfl, rfl, tyX10 1, tyX10_ok 1 (by decide), fun _ => ⟨rfl, rfl⟩⟩
theorem ff_X10_16 : FF RX10 16 10 4 := ⟨_, _, tyX10, 23, rfl, by decide, gu_1060, iw_10, tyX10_ok, nmX10, rfl, rfl, tyX10 4, tyX10_ok 4 (by decide), fun _ => ⟨rfl, rfl⟩⟩
theorem ff_X10_19 : FF RX10 19 10 6 := ⟨_, _, tyX10, 23, rfl, by decide, gu_1062, iw_10, tyX10_ok, nmX10, rfl, rfl, tyX10 6, tyX10_ok 6 (by decide), fun _ => ⟨rfl, rfl⟩⟩
theorem ff_X10_22 : FF RX10 22 10 7 := ⟨_, _, tyX10, 23, rfl, by decide, gu_1063, iw_10, tyX10_ok, nmX10, rfl, rfl, tyX10 7, tyX10_ok 7 (by decide), fun _ => ⟨rfl, rfl⟩⟩
theorem ff_X10_25 : FF RX10 25 10 8 := ⟨_, _, tyX10, 23, rfl, by decide, gu_1064, iw_10, tyX10_ok, nmX10, rfl, rfl, tyX10 8, tyX10_ok 8 (by decide), fun _ => ⟨rfl, rfl⟩⟩
theorem ff_X10_28 : FF RX10 28 10 9 := ⟨_, _, tyX10, 23, rfl, by decide, gu_1065, iw_10, tyX10_ok, nmX10, rfl, rfl, tyX10 9, tyX10_ok 9 (by decide), fun _ => ⟨rfl, rfl⟩⟩
theorem ff_X10_31 : FF RX10 31 10 11 := ⟨_, _, tyX10, 23, rfl, by decide, gu_1067, iw_10, tyX10_ok, nmX10, rfl, rfl, tyX10 11, tyX10_ok 11 (by decide), fun _ => ⟨rfl, rfl⟩⟩
theorem ff_X10_34 : FF RX10 34 10 12 := ⟨_, _, tyX10, 23, rfl, by decide, gu_1068, iw_10, tyX10_ok, nmX10, rfl, rfl, tyX10 12, tyX10_ok 12 (by decide), fun _ => ⟨rfl, rfl⟩⟩
theorem ff_X10_37 : FF RX10 37 10 13 := ⟨_, _, tyX10, 23, rfl, by decide, gu_1069, iw_10, tyX10_ok, nmX10, rfl, rfl, tyX10 13, tyX10_ok 13 (by decide), fun _ => ⟨rfl, rfl⟩⟩
theorem ff_X10_40 : FF RX10 40 10 17 := ⟨_, _, tyX10, 23, rfl, by decide, gu_1073, iw_10, tyX10_ok, nmX10, rfl, rfl, tyX10 17, tyX10_ok 17 (by decide), fun _ => ⟨rfl, rfl⟩⟩
theorem ff_X10_43 : FF RX10 43 10 18 := ⟨_, _, tyX10, 23, rfl, by decide, gu_1074, iw_10, tyX10_ok, nmX10, rfl, rfl, tyX10 18, tyX10_ok 18 (by decide), fun _ => ⟨rfl, rfl⟩⟩
theorem ff_X10_46 : FF RX10 46 10 19 := ⟨_, _, tyX10, 23, rfl, by decide, gu_1075, iw_10, tyX10_ok, nmX10, rfl, rfl, tyX10 19, tyX10_ok 19 (by decide), fun _ => ⟨rfl, rfl⟩⟩
theorem ff_X10_49 : FF RX10 49 10 21 := ⟨_, _, tyX10, 23, rfl, by decide, gu_1077, iw_10, tyX10_ok, nmX10, rfl, rfl, tyX10 21, tyX10_ok 21 (by decide), fun _ => ⟨rfl, rfl⟩⟩
theorem mi_X9_11 : MI RX9 11 yX6_init (.code yX6_init cX6_init 1 none) 0 := ⟨gu_102, gu_103, gu_73, gu_104, rfl, by decide +kernel, by decide +kernel, by decide +kernel⟩
theorem mi_X0_17 : MI RX0 17 yX6_init (.code yX6_init cX6_init 1 none) 0 := ⟨gu_161, gu_103, gu_73, gu_104, rfl, by decide +kernel, by decide +kernel, by decide +kernel⟩
theorem mi_X9_21 : MI RX9 21 yX0_init (.code yX0_init cX0_init 2 none) 0 := ⟨gu_155, gu_156, gu_75, gu_157, rfl, by decide +kernel, by decide +kernel, by decide +kernel⟩
theorem mi_X9_28 : MI RX9 28 yX8_init (.code yX8_init cX8_init 1 none) 0 := ⟨gu_172, gu_173, gu_76, gu_174, rfl, by decide +kernel, by decide +kernel, by decide +kernel⟩
theorem mi_X9_35 : MI RX9 35 yX4_init (.code yX4_init cX4_init 1 none) 0 := ⟨gu_191, gu_192, gu_77, gu_193, rfl, by decide +kernel, by decide +kernel, by decide +kernel⟩
theorem mi_X9_42 : MI RX9 42 yX7_init (.code yX7_init cX7_init 1 none) 0 := ⟨gu_208, gu_209, gu_78, gu_210, rfl, by decide +kernel, by decide +kernel, by decide +kernel⟩
theorem mi_X5_23 : MI RX5 23 yX4_init (.code yX4_init cX4_init 1 none) 0 := ⟨gu_235, gu_192, gu_77, gu_193, rfl, by decide +kernel, by decide +kernel, by decide +kernel⟩
theorem mi_X9_49 : MI RX9 49 yX5_init (.code yX5_init cX5_init 1 none) 0 := ⟨gu_230, gu_231, gu_79, gu_232, rfl, by decide +kernel, by decide +kernel, by decide +kernel⟩
theorem mi_X9_56 : MI RX9 56 yX2_init (.code yX2_init cX2_init 1 none) 0 := ⟨gu_267, gu_268, gu_80, gu_269, rfl, by decide +kernel, by decide +kernel, by decide +kernel⟩
theorem mi_X9_63 : MI RX9 63 yX1_init (.code yX1_init cX1_init 1 none) 0 := ⟨gu_293, gu_294, gu_81, gu_295, rfl, by decide +kernel, by decide +kernel, by decide +kernel⟩
theorem mi_X9_70 : MI RX9 70 yX3_init (.code yX3_init cX3_init 1 none) 0 := ⟨gu_303, gu_304, gu_82, gu_305, rfl, by decide +kernel, by decide +kernel, by decide +kernel⟩
