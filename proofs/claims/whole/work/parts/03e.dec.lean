theorem dX10_laysBest_90 : decode cX10_laysBest 90 = .ok (.aload_n 0, 1) := by decide +kernel
theorem dX10_laysBest_91 : decode cX10_laysBest 91 = .ok (.iload 4, 2) := by decide +kernel
theorem dX10_laysBest_93 : decode cX10_laysBest 93 = .ok (.invokevirtual 169, 3) := by decide +kernel
theorem dX10_laysBest_96 : decode cX10_laysBest 96 = .ok (.aload_n 0, 1) := by decide +kernel
theorem dX10_laysBest_97 : decode cX10_laysBest 97 = .ok (.getfield 34, 3) := by decide +kernel
theorem dX10_laysBest_100 : decode cX10_laysBest 100 = .ok (.bipush 17, 2) := by decide +kernel
theorem dX10_laysBest_102 : decode cX10_laysBest 102 = .ok (.iload 4, 2) := by decide +kernel
theorem dX10_laysBest_104 : decode cX10_laysBest 104 = .ok (.iadd, 1) := by decide +kernel
theorem dX10_laysBest_105 : decode cX10_laysBest 105 = .ok (.iaload, 1) := by decide +kernel
theorem dX10_laysBest_106 : decode cX10_laysBest 106 = .ok (.iload_n 3, 1) := by decide +kernel
theorem dX10_laysBest_107 : decode cX10_laysBest 107 = .ok (.if_icmp .ge 8, 3) := by decide +kernel
theorem dX10_laysBest_110 : decode cX10_laysBest 110 = .ok (.iload 4, 2) := by decide +kernel
theorem dX10_laysBest_112 : decode cX10_laysBest 112 = .ok (.goto 4, 3) := by decide +kernel
theorem dX10_laysBest_115 : decode cX10_laysBest 115 = .ok (.iload_n 2, 1) := by decide +kernel
theorem dX10_laysBest_116 : decode cX10_laysBest 116 = .ok (.istore_n 2, 1) := by decide +kernel
theorem dX10_laysBest_117 : decode cX10_laysBest 117 = .ok (.aload_n 0, 1) := by decide +kernel
theorem dX10_laysBest_118 : decode cX10_laysBest 118 = .ok (.getfield 34, 3) := by decide +kernel
theorem dX10_laysBest_121 : decode cX10_laysBest 121 = .ok (.bipush 17, 2) := by decide +kernel
theorem dX10_laysBest_123 : decode cX10_laysBest 123 = .ok (.iload 4, 2) := by decide +kernel
theorem dX10_laysBest_125 : decode cX10_laysBest 125 = .ok (.iadd, 1) := by decide +kernel
theorem dX10_laysBest_126 : decode cX10_laysBest 126 = .ok (.iaload, 1) := by decide +kernel
theorem dX10_laysBest_127 : decode cX10_laysBest 127 = .ok (.iload_n 3, 1) := by decide +kernel
theorem dX10_laysBest_128 : decode cX10_laysBest 128 = .ok (.if_icmp .ge 16, 3) := by decide +kernel
theorem dX10_laysBest_131 : decode cX10_laysBest 131 = .ok (.aload_n 0, 1) := by decide +kernel
theorem dX10_laysBest_132 : decode cX10_laysBest 132 = .ok (.getfield 34, 3) := by decide +kernel
theorem dX10_laysBest_135 : decode cX10_laysBest 135 = .ok (.bipush 17, 2) := by decide +kernel
theorem dX10_laysBest_137 : decode cX10_laysBest 137 = .ok (.iload 4, 2) := by decide +kernel
theorem dX10_laysBest_139 : decode cX10_laysBest 139 = .ok (.iadd, 1) := by decide +kernel
theorem dX10_laysBest_140 : decode cX10_laysBest 140 = .ok (.iaload, 1) := by decide +kernel
theorem dX10_laysBest_141 : decode cX10_laysBest 141 = .ok (.goto 4, 3) := by decide +kernel
theorem dX10_laysBest_144 : decode cX10_laysBest 144 = .ok (.iload_n 3, 1) := by decide +kernel
theorem dX10_laysBest_145 : decode cX10_laysBest 145 = .ok (.istore_n 3, 1) := by decide +kernel
theorem dX10_laysBest_146 : decode cX10_laysBest 146 = .ok (.iinc 4 1, 3) := by decide +kernel
theorem dX10_laysBest_149 : decode cX10_laysBest 149 = .ok (.goto (-87), 3) := by decide +kernel
theorem dX10_laysBest_152 : decode cX10_laysBest 152 = .ok (.aload_n 0, 1) := by decide +kernel
theorem dX10_laysBest_153 : decode cX10_laysBest 153 = .ok (.getfield 146, 3) := by decide +kernel
theorem dX10_laysBest_156 : decode cX10_laysBest 156 = .ok (.ifCond .le 15, 3) := by decide +kernel
theorem dX10_laysBest_159 : decode cX10_laysBest 159 = .ok (.aload_n 0, 1) := by decide +kernel
theorem dX10_laysBest_160 : decode cX10_laysBest 160 = .ok (.iload_n 2, 1) := by decide +kernel
theorem dX10_laysBest_161 : decode cX10_laysBest 161 = .ok (.invokevirtual 169, 3) := by decide +kernel
theorem dX10_laysBest_164 : decode cX10_laysBest 164 = .ok (.aload_n 0, 1) := by decide +kernel
theorem dX10_laysBest_165 : decode cX10_laysBest 165 = .ok (.getfield 25, 3) := by decide +kernel
theorem dX10_laysBest_168 : decode cX10_laysBest 168 = .ok (.iconst 0, 1) := by decide +kernel
theorem dX10_laysBest_169 : decode cX10_laysBest 169 = .ok (.iload_n 2, 1) := by decide +kernel
theorem dX10_laysBest_170 : decode cX10_laysBest 170 = .ok (.iastore, 1) := by decide +kernel
theorem dX10_laysBest_171 : decode cX10_laysBest 171 = .ok (.iconst 1, 1) := by decide +kernel
theorem dX10_laysBest_172 : decode cX10_laysBest 172 = .ok (.istore 4, 2) := by decide +kernel
theorem dX10_laysBest_174 : decode cX10_laysBest 174 = .ok (.iload 4, 2) := by decide +kernel
theorem dX10_laysBest_176 : decode cX10_laysBest 176 = .ok (.aload_n 0, 1) := by decide +kernel
theorem dX10_laysBest_177 : decode cX10_laysBest 177 = .ok (.getfield 146, 3) := by decide +kernel
theorem dX10_laysBest_180 : decode cX10_laysBest 180 = .ok (.if_icmp .ge 95, 3) := by decide +kernel
theorem dX10_laysBest_183 : decode cX10_laysBest 183 = .ok (.iconst 0, 1) := by decide +kernel
theorem dX10_laysBest_184 : decode cX10_laysBest 184 = .ok (.istore 5, 2) := by decide +kernel
theorem dX10_laysBest_186 : decode cX10_laysBest 186 = .ok (.aload_n 0, 1) := by decide +kernel
theorem dX10_laysBest_187 : decode cX10_laysBest 187 = .ok (.getfield 31, 3) := by decide +kernel
theorem dX10_laysBest_190 : decode cX10_laysBest 190 = .ok (.iload 4, 2) := by decide +kernel
theorem dX10_laysBest_192 : decode cX10_laysBest 192 = .ok (.iaload, 1) := by decide +kernel
theorem dX10_laysBest_193 : decode cX10_laysBest 193 = .ok (.iload 5, 2) := by decide +kernel
theorem dX10_laysBest_195 : decode cX10_laysBest 195 = .ok (.invokestatic 120, 3) := by decide +kernel
theorem dX10_laysBest_198 : decode cX10_laysBest 198 = .ok (.ifCond .eq 56, 3) := by decide +kernel
theorem dX10_laysBest_201 : decode cX10_laysBest 201 = .ok (.aload_n 0, 1) := by decide +kernel
theorem dX10_laysBest_202 : decode cX10_laysBest 202 = .ok (.getfield 25, 3) := by decide +kernel
theorem dX10_laysBest_205 : decode cX10_laysBest 205 = .ok (.iload 4, 2) := by decide +kernel
theorem dX10_laysBest_207 : decode cX10_laysBest 207 = .ok (.iconst 1, 1) := by decide +kernel
theorem dX10_laysBest_208 : decode cX10_laysBest 208 = .ok (.isub, 1) := by decide +kernel
theorem dX10_laysBest_209 : decode cX10_laysBest 209 = .ok (.iaload, 1) := by decide +kernel
theorem dX10_laysBest_210 : decode cX10_laysBest 210 = .ok (.iload 5, 2) := by decide +kernel
theorem dX10_laysBest_212 : decode cX10_laysBest 212 = .ok (.invokestatic 162, 3) := by decide +kernel
theorem dX10_laysBest_215 : decode cX10_laysBest 215 = .ok (.aload_n 0, 1) := by decide +kernel
theorem dX10_laysBest_216 : decode cX10_laysBest 216 = .ok (.getfield 34, 3) := by decide +kernel
theorem dX10_laysBest_219 : decode cX10_laysBest 219 = .ok (.bipush 17, 2) := by decide +kernel
theorem dX10_laysBest_221 : decode cX10_laysBest 221 = .ok (.iload 4, 2) := by decide +kernel
theorem dX10_laysBest_223 : decode cX10_laysBest 223 = .ok (.iconst 1, 1) := by decide +kernel
theorem dX10_laysBest_224 : decode cX10_laysBest 224 = .ok (.iadd, 1) := by decide +kernel
theorem dX10_laysBest_225 : decode cX10_laysBest 225 = .ok (.imul, 1) := by decide +kernel
theorem dX10_laysBest_226 : decode cX10_laysBest 226 = .ok (.iload 5, 2) := by decide +kernel
theorem dX10_laysBest_228 : decode cX10_laysBest 228 = .ok (.iadd, 1) := by decide +kernel
theorem dX10_laysBest_229 : decode cX10_laysBest 229 = .ok (.iaload, 1) := by decide +kernel
theorem dX10_laysBest_230 : decode cX10_laysBest 230 = .ok (.iadd, 1) := by decide +kernel
theorem dX10_laysBest_231 : decode cX10_laysBest 231 = .ok (.aload_n 0, 1) := by decide +kernel
theorem dX10_laysBest_232 : decode cX10_laysBest 232 = .ok (.getfield 34, 3) := by decide +kernel
theorem dX10_laysBest_235 : decode cX10_laysBest 235 = .ok (.bipush 17, 2) := by decide +kernel
theorem dX10_laysBest_237 : decode cX10_laysBest 237 = .ok (.iload 4, 2) := by decide +kernel
theorem dX10_laysBest_239 : decode cX10_laysBest 239 = .ok (.imul, 1) := by decide +kernel
theorem dX10_laysBest_240 : decode cX10_laysBest 240 = .ok (.aload_n 0, 1) := by decide +kernel
theorem dX10_laysBest_241 : decode cX10_laysBest 241 = .ok (.getfield 25, 3) := by decide +kernel
theorem dX10_laysBest_244 : decode cX10_laysBest 244 = .ok (.iload 4, 2) := by decide +kernel
theorem dX10_laysBest_246 : decode cX10_laysBest 246 = .ok (.iconst 1, 1) := by decide +kernel
theorem dX10_laysBest_247 : decode cX10_laysBest 247 = .ok (.isub, 1) := by decide +kernel
theorem dX10_laysBest_248 : decode cX10_laysBest 248 = .ok (.iaload, 1) := by decide +kernel
theorem dX10_laysBest_249 : decode cX10_laysBest 249 = .ok (.iadd, 1) := by decide +kernel
theorem dX10_laysBest_250 : decode cX10_laysBest 250 = .ok (.iaload, 1) := by decide +kernel
theorem dX10_laysBest_251 : decode cX10_laysBest 251 = .ok (.if_icmp .eq 9, 3) := by decide +kernel
theorem dX10_laysBest_254 : decode cX10_laysBest 254 = .ok (.iinc 5 1, 3) := by decide +kernel
theorem dX10_laysBest_257 : decode cX10_laysBest 257 = .ok (.goto (-71), 3) := by decide +kernel
theorem dX10_laysBest_260 : decode cX10_laysBest 260 = .ok (.aload_n 0, 1) := by decide +kernel
theorem dX10_laysBest_261 : decode cX10_laysBest 261 = .ok (.getfield 25, 3) := by decide +kernel
theorem dX10_laysBest_264 : decode cX10_laysBest 264 = .ok (.iload 4, 2) := by decide +kernel
theorem dX10_laysBest_266 : decode cX10_laysBest 266 = .ok (.iload 5, 2) := by decide +kernel
theorem dX10_laysBest_268 : decode cX10_laysBest 268 = .ok (.iastore, 1) := by decide +kernel
theorem dX10_laysBest_269 : decode cX10_laysBest 269 = .ok (.iinc 4 1, 3) := by decide +kernel
theorem dX10_laysBest_272 : decode cX10_laysBest 272 = .ok (.goto (-98), 3) := by decide +kernel
theorem dX10_laysBest_275 : decode cX10_laysBest 275 = .ok (.iconst 0, 1) := by decide +kernel
theorem dX10_laysBest_276 : decode cX10_laysBest 276 = .ok (.istore 4, 2) := by decide +kernel
theorem dX10_laysBest_278 : decode cX10_laysBest 278 = .ok (.iload 4, 2) := by decide +kernel
theorem dX10_laysBest_280 : decode cX10_laysBest 280 = .ok (.aload_n 0, 1) := by decide +kernel
theorem dX10_laysBest_281 : decode cX10_laysBest 281 = .ok (.getfield 146, 3) := by decide +kernel
theorem dX10_laysBest_284 : decode cX10_laysBest 284 = .ok (.if_icmp .ge 39, 3) := by decide +kernel
theorem dX10_laysBest_287 : decode cX10_laysBest 287 = .ok (.aload_n 0, 1) := by decide +kernel
theorem dX10_laysBest_288 : decode cX10_laysBest 288 = .ok (.getfield 25, 3) := by decide +kernel
theorem dX10_laysBest_291 : decode cX10_laysBest 291 = .ok (.iload 4, 2) := by decide +kernel
theorem dX10_laysBest_293 : decode cX10_laysBest 293 = .ok (.aload_n 0, 1) := by decide +kernel
theorem dX10_laysBest_294 : decode cX10_laysBest 294 = .ok (.getfield 25, 3) := by decide +kernel
theorem dX10_laysBest_297 : decode cX10_laysBest 297 = .ok (.iload 4, 2) := by decide +kernel
theorem dX10_laysBest_299 : decode cX10_laysBest 299 = .ok (.iaload, 1) := by decide +kernel
theorem dX10_laysBest_300 : decode cX10_laysBest 300 = .ok (.bipush 16, 2) := by decide +kernel
theorem dX10_laysBest_302 : decode cX10_laysBest 302 = .ok (.if_icmp .ne 7, 3) := by decide +kernel
theorem dX10_laysBest_305 : decode cX10_laysBest 305 = .ok (.iconst (-1), 1) := by decide +kernel
theorem dX10_laysBest_306 : decode cX10_laysBest 306 = .ok (.goto 10, 3) := by decide +kernel
theorem dX10_laysBest_309 : decode cX10_laysBest 309 = .ok (.aload_n 0, 1) := by decide +kernel
theorem dX10_laysBest_310 : decode cX10_laysBest 310 = .ok (.getfield 25, 3) := by decide +kernel
theorem dX10_laysBest_313 : decode cX10_laysBest 313 = .ok (.iload 4, 2) := by decide +kernel
theorem dX10_laysBest_315 : decode cX10_laysBest 315 = .ok (.iaload, 1) := by decide +kernel
theorem dX10_laysBest_316 : decode cX10_laysBest 316 = .ok (.iastore, 1) := by decide +kernel
theorem dX10_laysBest_317 : decode cX10_laysBest 317 = .ok (.iinc 4 1, 3) := by decide +kernel
theorem dX10_laysBest_320 : decode cX10_laysBest 320 = .ok (.goto (-42), 3) := by decide +kernel
theorem dX10_laysBest_323 : decode cX10_laysBest 323 = .ok (.return_, 1) := by decide +kernel
theorem dX10_netSize_0 : decode cX10_netSize 0 = .ok (.iconst 0, 1) := by decide +kernel
theorem dX10_netSize_1 : decode cX10_netSize 1 = .ok (.istore_n 1, 1) := by decide +kernel
theorem dX10_netSize_2 : decode cX10_netSize 2 = .ok (.iconst 0, 1) := by decide +kernel
theorem dX10_netSize_3 : decode cX10_netSize 3 = .ok (.istore_n 2, 1) := by decide +kernel
theorem dX10_netSize_4 : decode cX10_netSize 4 = .ok (.iload_n 2, 1) := by decide +kernel
theorem dX10_netSize_5 : decode cX10_netSize 5 = .ok (.aload_n 0, 1) := by decide +kernel
theorem dX10_netSize_6 : decode cX10_netSize 6 = .ok (.getfield 7, 3) := by decide +kernel
theorem dX10_netSize_9 : decode cX10_netSize 9 = .ok (.iconst 0, 1) := by decide +kernel
theorem dX10_netSize_10 : decode cX10_netSize 10 = .ok (.iaload, 1) := by decide +kernel
theorem dX10_netSize_11 : decode cX10_netSize 11 = .ok (.if_icmp .ge 21, 3) := by decide +kernel
theorem dX10_netSize_14 : decode cX10_netSize 14 = .ok (.aload_n 0, 1) := by decide +kernel
theorem dX10_netSize_15 : decode cX10_netSize 15 = .ok (.iload_n 2, 1) := by decide +kernel
theorem dX10_netSize_16 : decode cX10_netSize 16 = .ok (.invokevirtual 165, 3) := by decide +kernel
theorem dX10_netSize_19 : decode cX10_netSize 19 = .ok (.iload_n 1, 1) := by decide +kernel
theorem dX10_netSize_20 : decode cX10_netSize 20 = .ok (.aload_n 0, 1) := by decide +kernel
theorem dX10_netSize_21 : decode cX10_netSize 21 = .ok (.invokevirtual 172, 3) := by decide +kernel
theorem dX10_netSize_24 : decode cX10_netSize 24 = .ok (.iadd, 1) := by decide +kernel
theorem dX10_netSize_25 : decode cX10_netSize 25 = .ok (.istore_n 1, 1) := by decide +kernel
theorem dX10_netSize_26 : decode cX10_netSize 26 = .ok (.iinc 2 1, 3) := by decide +kernel
theorem dX10_netSize_29 : decode cX10_netSize 29 = .ok (.goto (-25), 3) := by decide +kernel
theorem dX10_netSize_32 : decode cX10_netSize 32 = .ok (.iload_n 1, 1) := by decide +kernel
theorem dX10_netSize_33 : decode cX10_netSize 33 = .ok (.ireturn, 1) := by decide +kernel
theorem dX10_makeTables_0 : decode cX10_makeTables 0 = .ok (.aload_n 0, 1) := by decide +kernel
theorem dX10_makeTables_1 : decode cX10_makeTables 1 = .ok (.iconst 0, 1) := by decide +kernel
theorem dX10_makeTables_2 : decode cX10_makeTables 2 = .ok (.putfield 52, 3) := by decide +kernel
theorem dX10_makeTables_5 : decode cX10_makeTables 5 = .ok (.aload_n 0, 1) := by decide +kernel
theorem dX10_makeTables_6 : decode cX10_makeTables 6 = .ok (.invokevirtual 74, 3) := by decide +kernel
theorem dX10_makeTables_9 : decode cX10_makeTables 9 = .ok (.aload_n 0, 1) := by decide +kernel
theorem dX10_makeTables_10 : decode cX10_makeTables 10 = .ok (.invokevirtual 101, 3) := by decide +kernel
theorem dX10_makeTables_13 : decode cX10_makeTables 13 = .ok (.iconst 0, 1) := by decide +kernel
theorem dX10_makeTables_14 : decode cX10_makeTables 14 = .ok (.istore_n 1, 1) := by decide +kernel
theorem dX10_makeTables_15 : decode cX10_makeTables 15 = .ok (.iload_n 1, 1) := by decide +kernel
theorem dX10_makeTables_16 : decode cX10_makeTables 16 = .ok (.aload_n 0, 1) := by decide +kernel
theorem dX10_makeTables_17 : decode cX10_makeTables 17 = .ok (.getfield 7, 3) := by decide +kernel
theorem dX10_makeTables_20 : decode cX10_makeTables 20 = .ok (.iconst 0, 1) := by decide +kernel
theorem dX10_makeTables_21 : decode cX10_makeTables 21 = .ok (.iaload, 1) := by decide +kernel
theorem dX10_makeTables_22 : decode cX10_makeTables 22 = .ok (.if_icmp .ge 57, 3) := by decide +kernel
theorem dX10_makeTables_25 : decode cX10_makeTables 25 = .ok (.aload_n 0, 1) := by decide +kernel
theorem dX10_makeTables_26 : decode cX10_makeTables 26 = .ok (.iload_n 1, 1) := by decide +kernel
theorem dX10_makeTables_27 : decode cX10_makeTables 27 = .ok (.invokevirtual 175, 3) := by decide +kernel
theorem dX10_makeTables_30 : decode cX10_makeTables 30 = .ok (.iconst 0, 1) := by decide +kernel
theorem dX10_makeTables_31 : decode cX10_makeTables 31 = .ok (.istore_n 2, 1) := by decide +kernel
theorem dX10_makeTables_32 : decode cX10_makeTables 32 = .ok (.iload_n 2, 1) := by decide +kernel
theorem dX10_makeTables_33 : decode cX10_makeTables 33 = .ok (.aload_n 0, 1) := by decide +kernel
theorem dX10_makeTables_34 : decode cX10_makeTables 34 = .ok (.getfield 146, 3) := by decide +kernel
theorem dX10_makeTables_37 : decode cX10_makeTables 37 = .ok (.if_icmp .ge 36, 3) := by decide +kernel
theorem dX10_makeTables_40 : decode cX10_makeTables 40 = .ok (.aload_n 0, 1) := by decide +kernel
theorem dX10_makeTables_41 : decode cX10_makeTables 41 = .ok (.getfield 7, 3) := by decide +kernel
theorem dX10_makeTables_44 : decode cX10_makeTables 44 = .ok (.bipush 59, 2) := by decide +kernel
theorem dX10_makeTables_46 : decode cX10_makeTables 46 = .ok (.bipush 9, 2) := by decide +kernel
theorem dX10_makeTables_48 : decode cX10_makeTables 48 = .ok (.iload_n 1, 1) := by decide +kernel
theorem dX10_makeTables_49 : decode cX10_makeTables 49 = .ok (.imul, 1) := by decide +kernel
theorem dX10_makeTables_50 : decode cX10_makeTables 50 = .ok (.iadd, 1) := by decide +kernel
theorem dX10_makeTables_51 : decode cX10_makeTables 51 = .ok (.aload_n 0, 1) := by decide +kernel
theorem dX10_makeTables_52 : decode cX10_makeTables 52 = .ok (.getfield 28, 3) := by decide +kernel
theorem dX10_makeTables_55 : decode cX10_makeTables 55 = .ok (.iload_n 2, 1) := by decide +kernel
theorem dX10_makeTables_56 : decode cX10_makeTables 56 = .ok (.iaload, 1) := by decide +kernel
theorem dX10_makeTables_57 : decode cX10_makeTables 57 = .ok (.iadd, 1) := by decide +kernel
theorem dX10_makeTables_58 : decode cX10_makeTables 58 = .ok (.aload_n 0, 1) := by decide +kernel
theorem dX10_makeTables_59 : decode cX10_makeTables 59 = .ok (.getfield 25, 3) := by decide +kernel
theorem dX10_makeTables_62 : decode cX10_makeTables 62 = .ok (.iload_n 2, 1) := by decide +kernel
theorem dX10_makeTables_63 : decode cX10_makeTables 63 = .ok (.iaload, 1) := by decide +kernel
theorem dX10_makeTables_64 : decode cX10_makeTables 64 = .ok (.iconst 1, 1) := by decide +kernel
theorem dX10_makeTables_65 : decode cX10_makeTables 65 = .ok (.iadd, 1) := by decide +kernel
theorem dX10_makeTables_66 : decode cX10_makeTables 66 = .ok (.iastore, 1) := by decide +kernel
theorem dX10_makeTables_67 : decode cX10_makeTables 67 = .ok (.iinc 2 1, 3) := by decide +kernel
theorem dX10_makeTables_70 : decode cX10_makeTables 70 = .ok (.goto (-38), 3) := by decide +kernel
theorem dX10_makeTables_73 : decode cX10_makeTables 73 = .ok (.iinc 1 1, 3) := by decide +kernel
theorem dX10_makeTables_76 : decode cX10_makeTables 76 = .ok (.goto (-61), 3) := by decide +kernel
theorem dX10_makeTables_79 : decode cX10_makeTables 79 = .ok (.aload_n 0, 1) := by decide +kernel
theorem dX10_makeTables_80 : decode cX10_makeTables 80 = .ok (.invokevirtual 178, 3) := by decide +kernel
theorem dX10_makeTables_83 : decode cX10_makeTables 83 = .ok (.ireturn, 1) := by decide +kernel
theorem dX10_setRange_0 : decode cX10_setRange 0 = .ok (.aload_n 0, 1) := by decide +kernel
theorem dX10_setRange_1 : decode cX10_setRange 1 = .ok (.iload_n 1, 1) := by decide +kernel
theorem dX10_setRange_2 : decode cX10_setRange 2 = .ok (.invokevirtual 85, 3) := by decide +kernel
theorem dX10_setRange_5 : decode cX10_setRange 5 = .ok (.ifCond .eq 37, 3) := by decide +kernel
theorem dX10_setRange_8 : decode cX10_setRange 8 = .ok (.iload_n 2, 1) := by decide +kernel
theorem dX10_setRange_9 : decode cX10_setRange 9 = .ok (.iconst (-1), 1) := by decide +kernel
theorem dX10_setRange_10 : decode cX10_setRange 10 = .ok (.if_icmp .eq 11, 3) := by decide +kernel
theorem dX10_setRange_13 : decode cX10_setRange 13 = .ok (.aload_n 0, 1) := by decide +kernel
theorem dX10_setRange_14 : decode cX10_setRange 14 = .ok (.iload_n 2, 1) := by decide +kernel
theorem dX10_setRange_15 : decode cX10_setRange 15 = .ok (.invokevirtual 95, 3) := by decide +kernel
theorem dX10_setRange_18 : decode cX10_setRange 18 = .ok (.ifCond .eq 24, 3) := by decide +kernel
theorem dX10_setRange_21 : decode cX10_setRange 21 = .ok (.aload_n 0, 1) := by decide +kernel
theorem dX10_setRange_22 : decode cX10_setRange 22 = .ok (.iload_n 3, 1) := by decide +kernel
theorem dX10_setRange_23 : decode cX10_setRange 23 = .ok (.invokevirtual 85, 3) := by decide +kernel
theorem dX10_setRange_26 : decode cX10_setRange 26 = .ok (.ifCond .eq 16, 3) := by decide +kernel
theorem dX10_setRange_29 : decode cX10_setRange 29 = .ok (.aload_n 0, 1) := by decide +kernel
theorem dX10_setRange_30 : decode cX10_setRange 30 = .ok (.iload 4, 2) := by decide +kernel
theorem dX10_setRange_32 : decode cX10_setRange 32 = .ok (.invokevirtual 85, 3) := by decide +kernel
theorem dX10_setRange_35 : decode cX10_setRange 35 = .ok (.ifCond .eq 7, 3) := by decide +kernel
theorem dX10_setRange_38 : decode cX10_setRange 38 = .ok (.iconst 1, 1) := by decide +kernel
theorem dX10_setRange_39 : decode cX10_setRange 39 = .ok (.goto 4, 3) := by decide +kernel
theorem dX10_setRange_42 : decode cX10_setRange 42 = .ok (.iconst 0, 1) := by decide +kernel
theorem dX10_setRange_43 : decode cX10_setRange 43 = .ok (.istore 5, 2) := by decide +kernel
theorem dX10_setRange_45 : decode cX10_setRange 45 = .ok (.aload_n 0, 1) := by decide +kernel
theorem dX10_setRange_46 : decode cX10_setRange 46 = .ok (.iload 5, 2) := by decide +kernel
theorem dX10_setRange_48 : decode cX10_setRange 48 = .ok (.ifCond .ne 7, 3) := by decide +kernel
theorem dX10_setRange_51 : decode cX10_setRange 51 = .ok (.iconst 1, 1) := by decide +kernel
theorem dX10_setRange_52 : decode cX10_setRange 52 = .ok (.goto 22, 3) := by decide +kernel
theorem dX10_setRange_55 : decode cX10_setRange 55 = .ok (.iload_n 2, 1) := by decide +kernel
theorem dX10_setRange_56 : decode cX10_setRange 56 = .ok (.iconst (-1), 1) := by decide +kernel
theorem dX10_setRange_57 : decode cX10_setRange 57 = .ok (.if_icmp .eq 12, 3) := by decide +kernel
theorem dX10_setRange_60 : decode cX10_setRange 60 = .ok (.aload_n 0, 1) := by decide +kernel
theorem dX10_setRange_61 : decode cX10_setRange 61 = .ok (.iload_n 2, 1) := by decide +kernel
theorem dX10_setRange_62 : decode cX10_setRange 62 = .ok (.iload_n 1, 1) := by decide +kernel
theorem dX10_setRange_63 : decode cX10_setRange 63 = .ok (.invokevirtual 81, 3) := by decide +kernel
theorem dX10_setRange_66 : decode cX10_setRange 66 = .ok (.ifCond .eq 7, 3) := by decide +kernel
theorem dX10_setRange_69 : decode cX10_setRange 69 = .ok (.iconst 0, 1) := by decide +kernel
theorem dX10_setRange_70 : decode cX10_setRange 70 = .ok (.goto 4, 3) := by decide +kernel
theorem dX10_setRange_73 : decode cX10_setRange 73 = .ok (.iconst 2, 1) := by decide +kernel
theorem dX10_setRange_74 : decode cX10_setRange 74 = .ok (.invokevirtual 67, 3) := by decide +kernel
theorem dX10_setRange_77 : decode cX10_setRange 77 = .ok (.ifCond .eq 5, 3) := by decide +kernel
theorem dX10_setRange_80 : decode cX10_setRange 80 = .ok (.iconst 0, 1) := by decide +kernel
theorem dX10_setRange_81 : decode cX10_setRange 81 = .ok (.ireturn, 1) := by decide +kernel
theorem dX10_setRange_82 : decode cX10_setRange 82 = .ok (.aload_n 0, 1) := by decide +kernel
theorem dX10_setRange_83 : decode cX10_setRange 83 = .ok (.invokevirtual 74, 3) := by decide +kernel
theorem dX10_setRange_86 : decode cX10_setRange 86 = .ok (.iconst 0, 1) := by decide +kernel
theorem dX10_setRange_87 : decode cX10_setRange 87 = .ok (.istore 6, 2) := by decide +kernel
theorem dX10_setRange_89 : decode cX10_setRange 89 = .ok (.iload_n 3, 1) := by decide +kernel
theorem dX10_setRange_90 : decode cX10_setRange 90 = .ok (.istore 7, 2) := by decide +kernel
theorem dX10_setRange_92 : decode cX10_setRange 92 = .ok (.iconst 1, 1) := by decide +kernel
theorem dX10_setRange_93 : decode cX10_setRange 93 = .ok (.istore 8, 2) := by decide +kernel
theorem dX10_setRange_95 : decode cX10_setRange 95 = .ok (.iload 8, 2) := by decide +kernel
theorem dX10_setRange_97 : decode cX10_setRange 97 = .ok (.ifCond .eq 86, 3) := by decide +kernel
theorem dX10_setRange_100 : decode cX10_setRange 100 = .ok (.iload 7, 2) := by decide +kernel
theorem dX10_setRange_102 : decode cX10_setRange 102 = .ok (.iload 4, 2) := by decide +kernel
theorem dX10_setRange_104 : decode cX10_setRange 104 = .ok (.if_icmp .eq 7, 3) := by decide +kernel
theorem dX10_setRange_107 : decode cX10_setRange 107 = .ok (.iconst 1, 1) := by decide +kernel
theorem dX10_setRange_108 : decode cX10_setRange 108 = .ok (.goto 4, 3) := by decide +kernel
theorem dX10_setRange_111 : decode cX10_setRange 111 = .ok (.iconst 0, 1) := by decide +kernel
theorem dX10_setRange_112 : decode cX10_setRange 112 = .ok (.istore 8, 2) := by decide +kernel
theorem dX10_setRange_114 : decode cX10_setRange 114 = .ok (.iload 7, 2) := by decide +kernel
theorem dX10_setRange_116 : decode cX10_setRange 116 = .ok (.aload_n 0, 1) := by decide +kernel
theorem dX10_setRange_117 : decode cX10_setRange 117 = .ok (.getfield 7, 3) := by decide +kernel
theorem dX10_setRange_120 : decode cX10_setRange 120 = .ok (.bipush 50, 2) := by decide +kernel
theorem dX10_setRange_122 : decode cX10_setRange 122 = .ok (.iload_n 1, 1) := by decide +kernel
theorem dX10_setRange_123 : decode cX10_setRange 123 = .ok (.iadd, 1) := by decide +kernel
theorem dX10_setRange_124 : decode cX10_setRange 124 = .ok (.iaload, 1) := by decide +kernel
theorem dX10_setRange_125 : decode cX10_setRange 125 = .ok (.if_icmp .eq 42, 3) := by decide +kernel
theorem dX10_setRange_128 : decode cX10_setRange 128 = .ok (.iload 6, 2) := by decide +kernel
theorem dX10_setRange_130 : decode cX10_setRange 130 = .ok (.aload_n 0, 1) := by decide +kernel
theorem dX10_setRange_131 : decode cX10_setRange 131 = .ok (.iload_n 1, 1) := by decide +kernel
theorem dX10_setRange_132 : decode cX10_setRange 132 = .ok (.iload 7, 2) := by decide +kernel
theorem dX10_setRange_134 : decode cX10_setRange 134 = .ok (.invokevirtual 149, 3) := by decide +kernel
theorem dX10_setRange_137 : decode cX10_setRange 137 = .ok (.iload_n 2, 1) := by decide +kernel
theorem dX10_setRange_138 : decode cX10_setRange 138 = .ok (.if_icmp .ne 7, 3) := by decide +kernel
theorem dX10_setRange_141 : decode cX10_setRange 141 = .ok (.iconst 0, 1) := by decide +kernel
theorem dX10_setRange_142 : decode cX10_setRange 142 = .ok (.goto 4, 3) := by decide +kernel
theorem dX10_setRange_145 : decode cX10_setRange 145 = .ok (.iconst 1, 1) := by decide +kernel
theorem dX10_setRange_146 : decode cX10_setRange 146 = .ok (.iadd, 1) := by decide +kernel
theorem dX10_setRange_147 : decode cX10_setRange 147 = .ok (.istore 6, 2) := by decide +kernel
theorem dX10_setRange_149 : decode cX10_setRange 149 = .ok (.aload_n 0, 1) := by decide +kernel
theorem dX10_setRange_150 : decode cX10_setRange 150 = .ok (.getfield 7, 3) := by decide +kernel
theorem dX10_setRange_153 : decode cX10_setRange 153 = .ok (.bipush 59, 2) := by decide +kernel
theorem dX10_setRange_155 : decode cX10_setRange 155 = .ok (.bipush 9, 2) := by decide +kernel
theorem dX10_setRange_157 : decode cX10_setRange 157 = .ok (.iload_n 1, 1) := by decide +kernel
theorem dX10_setRange_158 : decode cX10_setRange 158 = .ok (.imul, 1) := by decide +kernel
theorem dX10_setRange_159 : decode cX10_setRange 159 = .ok (.iadd, 1) := by decide +kernel
theorem dX10_setRange_160 : decode cX10_setRange 160 = .ok (.iload 7, 2) := by decide +kernel
theorem dX10_setRange_162 : decode cX10_setRange 162 = .ok (.iadd, 1) := by decide +kernel
theorem dX10_setRange_163 : decode cX10_setRange 163 = .ok (.iload_n 2, 1) := by decide +kernel
theorem dX10_setRange_164 : decode cX10_setRange 164 = .ok (.iconst 1, 1) := by decide +kernel
theorem dX10_setRange_165 : decode cX10_setRange 165 = .ok (.iadd, 1) := by decide +kernel
theorem dX10_setRange_166 : decode cX10_setRange 166 = .ok (.iastore, 1) := by decide +kernel
theorem dX10_setRange_167 : decode cX10_setRange 167 = .ok (.iload 7, 2) := by decide +kernel
theorem dX10_setRange_169 : decode cX10_setRange 169 = .ok (.iconst 1, 1) := by decide +kernel
theorem dX10_setRange_170 : decode cX10_setRange 170 = .ok (.iadd, 1) := by decide +kernel
theorem dX10_setRange_171 : decode cX10_setRange 171 = .ok (.aload_n 0, 1) := by decide +kernel
theorem dX10_setRange_172 : decode cX10_setRange 172 = .ok (.getfield 7, 3) := by decide +kernel
theorem dX10_setRange_175 : decode cX10_setRange 175 = .ok (.iconst 0, 1) := by decide +kernel
theorem dX10_setRange_176 : decode cX10_setRange 176 = .ok (.iaload, 1) := by decide +kernel
theorem dX10_setRange_177 : decode cX10_setRange 177 = .ok (.irem, 1) := by decide +kernel
theorem dX10_setRange_178 : decode cX10_setRange 178 = .ok (.istore 7, 2) := by decide +kernel
theorem dX10_setRange_180 : decode cX10_setRange 180 = .ok (.goto (-85), 3) := by decide +kernel
theorem dX10_setRange_183 : decode cX10_setRange 183 = .ok (.iload 6, 2) := by decide +kernel
theorem dX10_setRange_185 : decode cX10_setRange 185 = .ok (.ireturn, 1) := by decide +kernel
theorem dX10_entry_0 : decode cX10_entry 0 = .ok (.aload_n 0, 1) := by decide +kernel
theorem dX10_entry_1 : decode cX10_entry 1 = .ok (.aload_n 0, 1) := by decide +kernel
theorem dX10_entry_2 : decode cX10_entry 2 = .ok (.iload_n 1, 1) := by decide +kernel
theorem dX10_entry_3 : decode cX10_entry 3 = .ok (.invokevirtual 85, 3) := by decide +kernel
theorem dX10_entry_6 : decode cX10_entry 6 = .ok (.ifCond .eq 15, 3) := by decide +kernel
theorem dX10_entry_9 : decode cX10_entry 9 = .ok (.aload_n 0, 1) := by decide +kernel
theorem dX10_entry_10 : decode cX10_entry 10 = .ok (.iload_n 2, 1) := by decide +kernel
theorem dX10_entry_11 : decode cX10_entry 11 = .ok (.invokevirtual 85, 3) := by decide +kernel
theorem dX10_entry_14 : decode cX10_entry 14 = .ok (.ifCond .eq 7, 3) := by decide +kernel
theorem dX10_entry_17 : decode cX10_entry 17 = .ok (.iconst 0, 1) := by decide +kernel
theorem dX10_entry_18 : decode cX10_entry 18 = .ok (.goto 4, 3) := by decide +kernel
theorem dX10_entry_21 : decode cX10_entry 21 = .ok (.iconst 1, 1) := by decide +kernel
theorem dX10_entry_22 : decode cX10_entry 22 = .ok (.invokevirtual 67, 3) := by decide +kernel
theorem dX10_entry_25 : decode cX10_entry 25 = .ok (.ifCond .eq 7, 3) := by decide +kernel
theorem dX10_entry_28 : decode cX10_entry 28 = .ok (.iconst 0, 1) := by decide +kernel
theorem dX10_entry_29 : decode cX10_entry 29 = .ok (.goto 9, 3) := by decide +kernel
theorem dX10_entry_32 : decode cX10_entry 32 = .ok (.aload_n 0, 1) := by decide +kernel
theorem dX10_entry_33 : decode cX10_entry 33 = .ok (.iload_n 1, 1) := by decide +kernel
theorem dX10_entry_34 : decode cX10_entry 34 = .ok (.iload_n 2, 1) := by decide +kernel
theorem dX10_entry_35 : decode cX10_entry 35 = .ok (.invokevirtual 149, 3) := by decide +kernel
theorem dX10_entry_38 : decode cX10_entry 38 = .ok (.ireturn, 1) := by decide +kernel
theorem dX10_runs_0 : decode cX10_runs 0 = .ok (.aload_n 0, 1) := by decide +kernel
theorem dX10_runs_1 : decode cX10_runs 1 = .ok (.iload_n 1, 1) := by decide +kernel
theorem dX10_runs_2 : decode cX10_runs 2 = .ok (.invokevirtual 85, 3) := by decide +kernel
theorem dX10_runs_5 : decode cX10_runs 5 = .ok (.ifCond .eq 15, 3) := by decide +kernel
theorem dX10_runs_8 : decode cX10_runs 8 = .ok (.aload_n 0, 1) := by decide +kernel
theorem dX10_runs_9 : decode cX10_runs 9 = .ok (.iload_n 2, 1) := by decide +kernel
theorem dX10_runs_10 : decode cX10_runs 10 = .ok (.invokevirtual 95, 3) := by decide +kernel
theorem dX10_runs_13 : decode cX10_runs 13 = .ok (.ifCond .eq 7, 3) := by decide +kernel
theorem dX10_runs_16 : decode cX10_runs 16 = .ok (.iconst 1, 1) := by decide +kernel
theorem dX10_runs_17 : decode cX10_runs 17 = .ok (.goto 4, 3) := by decide +kernel
theorem dX10_runs_20 : decode cX10_runs 20 = .ok (.iconst 0, 1) := by decide +kernel
theorem dX10_runs_21 : decode cX10_runs 21 = .ok (.istore_n 3, 1) := by decide +kernel
theorem dX10_runs_22 : decode cX10_runs 22 = .ok (.aload_n 0, 1) := by decide +kernel
theorem dX10_runs_23 : decode cX10_runs 23 = .ok (.iload_n 3, 1) := by decide +kernel
theorem dX10_runs_24 : decode cX10_runs 24 = .ok (.ifCond .ne 7, 3) := by decide +kernel
theorem dX10_runs_27 : decode cX10_runs 27 = .ok (.iconst 1, 1) := by decide +kernel
theorem dX10_runs_28 : decode cX10_runs 28 = .ok (.goto 17, 3) := by decide +kernel
theorem dX10_runs_31 : decode cX10_runs 31 = .ok (.aload_n 0, 1) := by decide +kernel
theorem dX10_runs_32 : decode cX10_runs 32 = .ok (.iload_n 2, 1) := by decide +kernel
theorem dX10_runs_33 : decode cX10_runs 33 = .ok (.iload_n 1, 1) := by decide +kernel
theorem dX10_runs_34 : decode cX10_runs 34 = .ok (.invokevirtual 81, 3) := by decide +kernel
theorem dX10_runs_37 : decode cX10_runs 37 = .ok (.ifCond .eq 7, 3) := by decide +kernel
theorem dX10_runs_40 : decode cX10_runs 40 = .ok (.iconst 0, 1) := by decide +kernel
theorem dX10_runs_41 : decode cX10_runs 41 = .ok (.goto 4, 3) := by decide +kernel
theorem dX10_runs_44 : decode cX10_runs 44 = .ok (.iconst 2, 1) := by decide +kernel
theorem dX10_runs_45 : decode cX10_runs 45 = .ok (.invokevirtual 67, 3) := by decide +kernel
theorem dX10_runs_48 : decode cX10_runs 48 = .ok (.ifCond .eq 5, 3) := by decide +kernel
theorem dX10_runs_51 : decode cX10_runs 51 = .ok (.iconst 0, 1) := by decide +kernel
theorem dX10_runs_52 : decode cX10_runs 52 = .ok (.ireturn, 1) := by decide +kernel
theorem dX10_runs_53 : decode cX10_runs 53 = .ok (.aload_n 0, 1) := by decide +kernel
theorem dX10_runs_54 : decode cX10_runs 54 = .ok (.iload_n 1, 1) := by decide +kernel
theorem dX10_runs_55 : decode cX10_runs 55 = .ok (.invokevirtual 165, 3) := by decide +kernel
theorem dX10_runs_58 : decode cX10_runs 58 = .ok (.aload_n 0, 1) := by decide +kernel
theorem dX10_runs_59 : decode cX10_runs 59 = .ok (.iload_n 2, 1) := by decide +kernel
theorem dX10_runs_60 : decode cX10_runs 60 = .ok (.invokevirtual 159, 3) := by decide +kernel
theorem dX10_runs_63 : decode cX10_runs 63 = .ok (.ireturn, 1) := by decide +kernel
theorem dX10_runEnd_0 : decode cX10_runEnd 0 = .ok (.aload_n 0, 1) := by decide +kernel
theorem dX10_runEnd_1 : decode cX10_runEnd 1 = .ok (.iload_n 1, 1) := by decide +kernel
theorem dX10_runEnd_2 : decode cX10_runEnd 2 = .ok (.invokevirtual 85, 3) := by decide +kernel
theorem dX10_runEnd_5 : decode cX10_runEnd 5 = .ok (.ifCond .eq 15, 3) := by decide +kernel
theorem dX10_runEnd_8 : decode cX10_runEnd 8 = .ok (.aload_n 0, 1) := by decide +kernel
theorem dX10_runEnd_9 : decode cX10_runEnd 9 = .ok (.iload_n 2, 1) := by decide +kernel
theorem dX10_runEnd_10 : decode cX10_runEnd 10 = .ok (.invokevirtual 95, 3) := by decide +kernel
theorem dX10_runEnd_13 : decode cX10_runEnd 13 = .ok (.ifCond .eq 7, 3) := by decide +kernel
theorem dX10_runEnd_16 : decode cX10_runEnd 16 = .ok (.iconst 1, 1) := by decide +kernel
theorem dX10_runEnd_17 : decode cX10_runEnd 17 = .ok (.goto 4, 3) := by decide +kernel
theorem dX10_runEnd_20 : decode cX10_runEnd 20 = .ok (.iconst 0, 1) := by decide +kernel
theorem dX10_runEnd_21 : decode cX10_runEnd 21 = .ok (.istore 5, 2) := by decide +kernel
theorem dX10_runEnd_23 : decode cX10_runEnd 23 = .ok (.iload 5, 2) := by decide +kernel
theorem dX10_runEnd_25 : decode cX10_runEnd 25 = .ok (.ifCond .eq 8, 3) := by decide +kernel
theorem dX10_runEnd_28 : decode cX10_runEnd 28 = .ok (.aload_n 0, 1) := by decide +kernel
theorem dX10_runEnd_29 : decode cX10_runEnd 29 = .ok (.iload_n 1, 1) := by decide +kernel
theorem dX10_runEnd_30 : decode cX10_runEnd 30 = .ok (.invokevirtual 165, 3) := by decide +kernel
theorem dX10_runEnd_33 : decode cX10_runEnd 33 = .ok (.aload_n 0, 1) := by decide +kernel
theorem dX10_runEnd_34 : decode cX10_runEnd 34 = .ok (.iload 5, 2) := by decide +kernel
theorem dX10_runEnd_36 : decode cX10_runEnd 36 = .ok (.ifCond .eq 31, 3) := by decide +kernel
theorem dX10_runEnd_39 : decode cX10_runEnd 39 = .ok (.aload_n 0, 1) := by decide +kernel
theorem dX10_runEnd_40 : decode cX10_runEnd 40 = .ok (.iload_n 2, 1) := by decide +kernel
theorem dX10_runEnd_41 : decode cX10_runEnd 41 = .ok (.iload_n 1, 1) := by decide +kernel
theorem dX10_runEnd_42 : decode cX10_runEnd 42 = .ok (.invokevirtual 81, 3) := by decide +kernel
theorem dX10_runEnd_45 : decode cX10_runEnd 45 = .ok (.ifCond .eq 22, 3) := by decide +kernel
theorem dX10_runEnd_48 : decode cX10_runEnd 48 = .ok (.iload_n 3, 1) := by decide +kernel
theorem dX10_runEnd_49 : decode cX10_runEnd 49 = .ok (.iconst 0, 1) := by decide +kernel
theorem dX10_runEnd_50 : decode cX10_runEnd 50 = .ok (.aload_n 0, 1) := by decide +kernel
theorem dX10_runEnd_51 : decode cX10_runEnd 51 = .ok (.iload_n 2, 1) := by decide +kernel
theorem dX10_runEnd_52 : decode cX10_runEnd 52 = .ok (.invokevirtual 159, 3) := by decide +kernel
theorem dX10_runEnd_55 : decode cX10_runEnd 55 = .ok (.iconst 1, 1) := by decide +kernel
theorem dX10_runEnd_56 : decode cX10_runEnd 56 = .ok (.isub, 1) := by decide +kernel
theorem dX10_runEnd_57 : decode cX10_runEnd 57 = .ok (.invokestatic 56, 3) := by decide +kernel
theorem dX10_runEnd_60 : decode cX10_runEnd 60 = .ok (.ifCond .eq 7, 3) := by decide +kernel
theorem dX10_runEnd_63 : decode cX10_runEnd 63 = .ok (.iconst 0, 1) := by decide +kernel
theorem dX10_runEnd_64 : decode cX10_runEnd 64 = .ok (.goto 4, 3) := by decide +kernel
theorem dX10_runEnd_67 : decode cX10_runEnd 67 = .ok (.iconst 1, 1) := by decide +kernel
theorem dX10_runEnd_68 : decode cX10_runEnd 68 = .ok (.invokevirtual 67, 3) := by decide +kernel
theorem dX10_runEnd_71 : decode cX10_runEnd 71 = .ok (.ifCond .eq 5, 3) := by decide +kernel
theorem dX10_runEnd_74 : decode cX10_runEnd 74 = .ok (.iconst 0, 1) := by decide +kernel
theorem dX10_runEnd_75 : decode cX10_runEnd 75 = .ok (.ireturn, 1) := by decide +kernel
theorem dX10_runEnd_76 : decode cX10_runEnd 76 = .ok (.aload_n 0, 1) := by decide +kernel
theorem dX10_runEnd_77 : decode cX10_runEnd 77 = .ok (.invokevirtual 152, 3) := by decide +kernel
theorem dX10_runEnd_80 : decode cX10_runEnd 80 = .ok (.ifCond .eq 24, 3) := by decide +kernel
theorem dX10_runEnd_83 : decode cX10_runEnd 83 = .ok (.aload_n 0, 1) := by decide +kernel
theorem dX10_runEnd_84 : decode cX10_runEnd 84 = .ok (.getfield 28, 3) := by decide +kernel
theorem dX10_runEnd_87 : decode cX10_runEnd 87 = .ok (.iload 4, 2) := by decide +kernel
theorem dX10_runEnd_89 : decode cX10_runEnd 89 = .ok (.ifCond .eq 12, 3) := by decide +kernel
theorem dX10_runEnd_92 : decode cX10_runEnd 92 = .ok (.aload_n 0, 1) := by decide +kernel
theorem dX10_runEnd_93 : decode cX10_runEnd 93 = .ok (.getfield 146, 3) := by decide +kernel
theorem dX10_runEnd_96 : decode cX10_runEnd 96 = .ok (.iconst 1, 1) := by decide +kernel
theorem dX10_runEnd_97 : decode cX10_runEnd 97 = .ok (.isub, 1) := by decide +kernel
theorem dX10_runEnd_98 : decode cX10_runEnd 98 = .ok (.goto 4, 3) := by decide +kernel
theorem dX10_runEnd_101 : decode cX10_runEnd 101 = .ok (.iconst 0, 1) := by decide +kernel
theorem dX10_runEnd_102 : decode cX10_runEnd 102 = .ok (.iaload, 1) := by decide +kernel
theorem dX10_runEnd_103 : decode cX10_runEnd 103 = .ok (.ireturn, 1) := by decide +kernel
theorem dX10_runEnd_104 : decode cX10_runEnd 104 = .ok (.iconst 0, 1) := by decide +kernel
theorem dX10_runEnd_105 : decode cX10_runEnd 105 = .ok (.istore 6, 2) := by decide +kernel
theorem dX10_runEnd_107 : decode cX10_runEnd 107 = .ok (.iload_n 3, 1) := by decide +kernel
theorem dX10_runEnd_108 : decode cX10_runEnd 108 = .ok (.istore 7, 2) := by decide +kernel
theorem dX10_runEnd_110 : decode cX10_runEnd 110 = .ok (.aload_n 0, 1) := by decide +kernel
theorem dX10_runEnd_111 : decode cX10_runEnd 111 = .ok (.getfield 25, 3) := by decide +kernel
theorem dX10_runEnd_114 : decode cX10_runEnd 114 = .ok (.iload 6, 2) := by decide +kernel
theorem dX10_runEnd_116 : decode cX10_runEnd 116 = .ok (.iaload, 1) := by decide +kernel
theorem dX10_runEnd_117 : decode cX10_runEnd 117 = .ok (.iload_n 2, 1) := by decide +kernel
theorem dX10_runEnd_118 : decode cX10_runEnd 118 = .ok (.if_icmp .ne 17, 3) := by decide +kernel
theorem dX10_runEnd_121 : decode cX10_runEnd 121 = .ok (.aload_n 0, 1) := by decide +kernel
theorem dX10_runEnd_122 : decode cX10_runEnd 122 = .ok (.iload 6, 2) := by decide +kernel
theorem dX10_runEnd_124 : decode cX10_runEnd 124 = .ok (.invokevirtual 156, 3) := by decide +kernel
theorem dX10_runEnd_127 : decode cX10_runEnd 127 = .ok (.ifCond .eq 8, 3) := by decide +kernel
theorem dX10_runEnd_130 : decode cX10_runEnd 130 = .ok (.iload 7, 2) := by decide +kernel
theorem dX10_runEnd_132 : decode cX10_runEnd 132 = .ok (.ifCond .le 39, 3) := by decide +kernel
theorem dX10_runEnd_135 : decode cX10_runEnd 135 = .ok (.iload 7, 2) := by decide +kernel
theorem dX10_runEnd_137 : decode cX10_runEnd 137 = .ok (.aload_n 0, 1) := by decide +kernel
theorem dX10_runEnd_138 : decode cX10_runEnd 138 = .ok (.getfield 25, 3) := by decide +kernel
theorem dX10_runEnd_141 : decode cX10_runEnd 141 = .ok (.iload 6, 2) := by decide +kernel
theorem dX10_runEnd_143 : decode cX10_runEnd 143 = .ok (.iaload, 1) := by decide +kernel
theorem dX10_runEnd_144 : decode cX10_runEnd 144 = .ok (.iload_n 2, 1) := by decide +kernel
theorem dX10_runEnd_145 : decode cX10_runEnd 145 = .ok (.if_icmp .ne 16, 3) := by decide +kernel
theorem dX10_runEnd_148 : decode cX10_runEnd 148 = .ok (.aload_n 0, 1) := by decide +kernel
theorem dX10_runEnd_149 : decode cX10_runEnd 149 = .ok (.iload 6, 2) := by decide +kernel
theorem dX10_runEnd_151 : decode cX10_runEnd 151 = .ok (.invokevirtual 156, 3) := by decide +kernel
theorem dX10_runEnd_154 : decode cX10_runEnd 154 = .ok (.ifCond .eq 7, 3) := by decide +kernel
theorem dX10_runEnd_157 : decode cX10_runEnd 157 = .ok (.iconst 1, 1) := by decide +kernel
theorem dX10_runEnd_158 : decode cX10_runEnd 158 = .ok (.goto 4, 3) := by decide +kernel
theorem dX10_runEnd_161 : decode cX10_runEnd 161 = .ok (.iconst 0, 1) := by decide +kernel
theorem dX10_runEnd_162 : decode cX10_runEnd 162 = .ok (.isub, 1) := by decide +kernel
theorem dX10_runEnd_163 : decode cX10_runEnd 163 = .ok (.istore 7, 2) := by decide +kernel
theorem dX10_runEnd_165 : decode cX10_runEnd 165 = .ok (.iinc 6 1, 3) := by decide +kernel
theorem dX10_runEnd_168 : decode cX10_runEnd 168 = .ok (.goto (-58), 3) := by decide +kernel
theorem dX10_runEnd_171 : decode cX10_runEnd 171 = .ok (.iload 4, 2) := by decide +kernel
theorem dX10_runEnd_173 : decode cX10_runEnd 173 = .ok (.ifCond .eq 35, 3) := by decide +kernel
theorem dX10_runEnd_176 : decode cX10_runEnd 176 = .ok (.aload_n 0, 1) := by decide +kernel
theorem dX10_runEnd_177 : decode cX10_runEnd 177 = .ok (.getfield 25, 3) := by decide +kernel
theorem dX10_runEnd_180 : decode cX10_runEnd 180 = .ok (.iload 6, 2) := by decide +kernel
theorem dX10_runEnd_182 : decode cX10_runEnd 182 = .ok (.iconst 1, 1) := by decide +kernel
theorem dX10_runEnd_183 : decode cX10_runEnd 183 = .ok (.iadd, 1) := by decide +kernel
theorem dX10_runEnd_184 : decode cX10_runEnd 184 = .ok (.aload_n 0, 1) := by decide +kernel
theorem dX10_runEnd_185 : decode cX10_runEnd 185 = .ok (.getfield 146, 3) := by decide +kernel
theorem dX10_runEnd_188 : decode cX10_runEnd 188 = .ok (.irem, 1) := by decide +kernel
theorem dX10_runEnd_189 : decode cX10_runEnd 189 = .ok (.iaload, 1) := by decide +kernel
theorem dX10_runEnd_190 : decode cX10_runEnd 190 = .ok (.iload_n 2, 1) := by decide +kernel
theorem dX10_runEnd_191 : decode cX10_runEnd 191 = .ok (.if_icmp .ne 17, 3) := by decide +kernel
theorem dX10_runEnd_194 : decode cX10_runEnd 194 = .ok (.iload 6, 2) := by decide +kernel
theorem dX10_runEnd_196 : decode cX10_runEnd 196 = .ok (.iconst 1, 1) := by decide +kernel
theorem dX10_runEnd_197 : decode cX10_runEnd 197 = .ok (.iadd, 1) := by decide +kernel
theorem dX10_runEnd_198 : decode cX10_runEnd 198 = .ok (.aload_n 0, 1) := by decide +kernel
theorem dX10_runEnd_199 : decode cX10_runEnd 199 = .ok (.getfield 146, 3) := by decide +kernel
theorem dX10_runEnd_202 : decode cX10_runEnd 202 = .ok (.irem, 1) := by decide +kernel
theorem dX10_runEnd_203 : decode cX10_runEnd 203 = .ok (.istore 6, 2) := by decide +kernel
theorem dX10_runEnd_205 : decode cX10_runEnd 205 = .ok (.goto (-34), 3) := by decide +kernel
theorem dX10_runEnd_208 : decode cX10_runEnd 208 = .ok (.aload_n 0, 1) := by decide +kernel
theorem dX10_runEnd_209 : decode cX10_runEnd 209 = .ok (.getfield 28, 3) := by decide +kernel
theorem dX10_runEnd_212 : decode cX10_runEnd 212 = .ok (.iload 6, 2) := by decide +kernel
theorem dX10_runEnd_214 : decode cX10_runEnd 214 = .ok (.iaload, 1) := by decide +kernel
theorem dX10_runEnd_215 : decode cX10_runEnd 215 = .ok (.ireturn, 1) := by decide +kernel
theorem dX10_tableSize_0 : decode cX10_tableSize 0 = .ok (.aload_n 0, 1) := by decide +kernel
theorem dX10_tableSize_1 : decode cX10_tableSize 1 = .ok (.iload_n 1, 1) := by decide +kernel
theorem dX10_tableSize_2 : decode cX10_tableSize 2 = .ok (.iconst (-1), 1) := by decide +kernel
theorem dX10_tableSize_3 : decode cX10_tableSize 3 = .ok (.if_icmp .eq 11, 3) := by decide +kernel
theorem dX10_tableSize_6 : decode cX10_tableSize 6 = .ok (.aload_n 0, 1) := by decide +kernel
theorem dX10_tableSize_7 : decode cX10_tableSize 7 = .ok (.iload_n 1, 1) := by decide +kernel
theorem dX10_tableSize_8 : decode cX10_tableSize 8 = .ok (.invokevirtual 85, 3) := by decide +kernel
theorem dX10_tableSize_11 : decode cX10_tableSize 11 = .ok (.ifCond .eq 7, 3) := by decide +kernel
theorem dX10_tableSize_14 : decode cX10_tableSize 14 = .ok (.iconst 0, 1) := by decide +kernel
theorem dX10_tableSize_15 : decode cX10_tableSize 15 = .ok (.goto 4, 3) := by decide +kernel
theorem dX10_tableSize_18 : decode cX10_tableSize 18 = .ok (.iconst 1, 1) := by decide +kernel
theorem dX10_tableSize_19 : decode cX10_tableSize 19 = .ok (.invokevirtual 67, 3) := by decide +kernel
theorem dX10_tableSize_22 : decode cX10_tableSize 22 = .ok (.ifCond .eq 5, 3) := by decide +kernel
theorem dX10_tableSize_25 : decode cX10_tableSize 25 = .ok (.iconst 0, 1) := by decide +kernel
theorem dX10_tableSize_26 : decode cX10_tableSize 26 = .ok (.ireturn, 1) := by decide +kernel
theorem dX10_tableSize_27 : decode cX10_tableSize 27 = .ok (.iload_n 1, 1) := by decide +kernel
theorem dX10_tableSize_28 : decode cX10_tableSize 28 = .ok (.iconst (-1), 1) := by decide +kernel
theorem dX10_tableSize_29 : decode cX10_tableSize 29 = .ok (.if_icmp .ne 8, 3) := by decide +kernel
theorem dX10_tableSize_32 : decode cX10_tableSize 32 = .ok (.aload_n 0, 1) := by decide +kernel
theorem dX10_tableSize_33 : decode cX10_tableSize 33 = .ok (.invokevirtual 178, 3) := by decide +kernel
theorem dX10_tableSize_36 : decode cX10_tableSize 36 = .ok (.ireturn, 1) := by decide +kernel
theorem dX10_tableSize_37 : decode cX10_tableSize 37 = .ok (.aload_n 0, 1) := by decide +kernel
theorem dX10_tableSize_38 : decode cX10_tableSize 38 = .ok (.iload_n 1, 1) := by decide +kernel
theorem dX10_tableSize_39 : decode cX10_tableSize 39 = .ok (.invokevirtual 165, 3) := by decide +kernel
theorem dX10_tableSize_42 : decode cX10_tableSize 42 = .ok (.aload_n 0, 1) := by decide +kernel
theorem dX10_tableSize_43 : decode cX10_tableSize 43 = .ok (.invokevirtual 172, 3) := by decide +kernel
theorem dX10_tableSize_46 : decode cX10_tableSize 46 = .ok (.ireturn, 1) := by decide +kernel
theorem dX10_mostRuns_0 : decode cX10_mostRuns 0 = .ok (.iconst 0, 1) := by decide +kernel
theorem dX10_mostRuns_1 : decode cX10_mostRuns 1 = .ok (.istore_n 1, 1) := by decide +kernel
theorem dX10_mostRuns_2 : decode cX10_mostRuns 2 = .ok (.iconst 0, 1) := by decide +kernel
theorem dX10_mostRuns_3 : decode cX10_mostRuns 3 = .ok (.istore_n 2, 1) := by decide +kernel
theorem dX10_mostRuns_4 : decode cX10_mostRuns 4 = .ok (.iload_n 2, 1) := by decide +kernel
theorem dX10_mostRuns_5 : decode cX10_mostRuns 5 = .ok (.aload_n 0, 1) := by decide +kernel
theorem dX10_mostRuns_6 : decode cX10_mostRuns 6 = .ok (.getfield 7, 3) := by decide +kernel
theorem dX10_mostRuns_9 : decode cX10_mostRuns 9 = .ok (.iconst 0, 1) := by decide +kernel
theorem dX10_mostRuns_10 : decode cX10_mostRuns 10 = .ok (.iaload, 1) := by decide +kernel
theorem dX10_mostRuns_11 : decode cX10_mostRuns 11 = .ok (.if_icmp .ge 31, 3) := by decide +kernel
theorem dX10_mostRuns_14 : decode cX10_mostRuns 14 = .ok (.aload_n 0, 1) := by decide +kernel
theorem dX10_mostRuns_15 : decode cX10_mostRuns 15 = .ok (.iload_n 2, 1) := by decide +kernel
theorem dX10_mostRuns_16 : decode cX10_mostRuns 16 = .ok (.invokevirtual 165, 3) := by decide +kernel
theorem dX10_mostRuns_19 : decode cX10_mostRuns 19 = .ok (.aload_n 0, 1) := by decide +kernel
theorem dX10_mostRuns_20 : decode cX10_mostRuns 20 = .ok (.invokevirtual 181, 3) := by decide +kernel
theorem dX10_mostRuns_23 : decode cX10_mostRuns 23 = .ok (.iload_n 1, 1) := by decide +kernel
theorem dX10_mostRuns_24 : decode cX10_mostRuns 24 = .ok (.if_icmp .le 10, 3) := by decide +kernel
theorem dX10_mostRuns_27 : decode cX10_mostRuns 27 = .ok (.aload_n 0, 1) := by decide +kernel
theorem dX10_mostRuns_28 : decode cX10_mostRuns 28 = .ok (.invokevirtual 181, 3) := by decide +kernel
theorem dX10_mostRuns_31 : decode cX10_mostRuns 31 = .ok (.goto 4, 3) := by decide +kernel
theorem dX10_mostRuns_34 : decode cX10_mostRuns 34 = .ok (.iload_n 1, 1) := by decide +kernel
theorem dX10_mostRuns_35 : decode cX10_mostRuns 35 = .ok (.istore_n 1, 1) := by decide +kernel
theorem dX10_mostRuns_36 : decode cX10_mostRuns 36 = .ok (.iinc 2 1, 3) := by decide +kernel
theorem dX10_mostRuns_39 : decode cX10_mostRuns 39 = .ok (.goto (-35), 3) := by decide +kernel
theorem dX10_mostRuns_42 : decode cX10_mostRuns 42 = .ok (.iload_n 1, 1) := by decide +kernel
theorem dX10_mostRuns_43 : decode cX10_mostRuns 43 = .ok (.ireturn, 1) := by decide +kernel
theorem dX10_compactness_0 : decode cX10_compactness 0 = .ok (.aload_n 0, 1) := by decide +kernel
theorem dX10_compactness_1 : decode cX10_compactness 1 = .ok (.iconst 0, 1) := by decide +kernel
theorem dX10_compactness_2 : decode cX10_compactness 2 = .ok (.putfield 52, 3) := by decide +kernel
theorem dX10_compactness_5 : decode cX10_compactness 5 = .ok (.aload_n 0, 1) := by decide +kernel
theorem dX10_compactness_6 : decode cX10_compactness 6 = .ok (.invokevirtual 184, 3) := by decide +kernel
theorem dX10_compactness_9 : decode cX10_compactness 9 = .ok (.ireturn, 1) := by decide +kernel
theorem dX10_bestSize_0 : decode cX10_bestSize 0 = .ok (.aload_n 0, 1) := by decide +kernel
theorem dX10_bestSize_1 : decode cX10_bestSize 1 = .ok (.aload_n 0, 1) := by decide +kernel
theorem dX10_bestSize_2 : decode cX10_bestSize 2 = .ok (.iload_n 1, 1) := by decide +kernel
theorem dX10_bestSize_3 : decode cX10_bestSize 3 = .ok (.invokevirtual 85, 3) := by decide +kernel
theorem dX10_bestSize_6 : decode cX10_bestSize 6 = .ok (.ifCond .eq 7, 3) := by decide +kernel
theorem dX10_bestSize_9 : decode cX10_bestSize 9 = .ok (.iconst 0, 1) := by decide +kernel
theorem dX10_bestSize_10 : decode cX10_bestSize 10 = .ok (.goto 4, 3) := by decide +kernel
theorem dX10_bestSize_13 : decode cX10_bestSize 13 = .ok (.iconst 1, 1) := by decide +kernel
theorem dX10_bestSize_14 : decode cX10_bestSize 14 = .ok (.invokevirtual 67, 3) := by decide +kernel
theorem dX10_bestSize_17 : decode cX10_bestSize 17 = .ok (.ifCond .eq 5, 3) := by decide +kernel
theorem dX10_bestSize_20 : decode cX10_bestSize 20 = .ok (.iconst 0, 1) := by decide +kernel
theorem dX10_bestSize_21 : decode cX10_bestSize 21 = .ok (.ireturn, 1) := by decide +kernel
theorem dX10_bestSize_22 : decode cX10_bestSize 22 = .ok (.aload_n 0, 1) := by decide +kernel
theorem dX10_bestSize_23 : decode cX10_bestSize 23 = .ok (.invokevirtual 101, 3) := by decide +kernel
theorem dX10_bestSize_26 : decode cX10_bestSize 26 = .ok (.aload_n 0, 1) := by decide +kernel
theorem dX10_bestSize_27 : decode cX10_bestSize 27 = .ok (.iload_n 1, 1) := by decide +kernel
theorem dX10_bestSize_28 : decode cX10_bestSize 28 = .ok (.invokevirtual 175, 3) := by decide +kernel
theorem dX10_bestSize_31 : decode cX10_bestSize 31 = .ok (.aload_n 0, 1) := by decide +kernel
theorem dX10_bestSize_32 : decode cX10_bestSize 32 = .ok (.invokevirtual 172, 3) := by decide +kernel
theorem dX10_bestSize_35 : decode cX10_bestSize 35 = .ok (.ireturn, 1) := by decide +kernel
theorem dX10_checks_0 : decode cX10_checks 0 = .ok (.iload_n 1, 1) := by decide +kernel
theorem dX10_checks_1 : decode cX10_checks 1 = .ok (.iload_n 2, 1) := by decide +kernel
theorem dX10_checks_2 : decode cX10_checks 2 = .ok (.if_icmp .ne 5, 3) := by decide +kernel
theorem dX10_checks_5 : decode cX10_checks 5 = .ok (.iconst 0, 1) := by decide +kernel
theorem dX10_checks_6 : decode cX10_checks 6 = .ok (.ireturn, 1) := by decide +kernel
theorem dX10_checks_7 : decode cX10_checks 7 = .ok (.aload_n 0, 1) := by decide +kernel
theorem dX10_checks_8 : decode cX10_checks 8 = .ok (.iload_n 1, 1) := by decide +kernel
theorem dX10_checks_9 : decode cX10_checks 9 = .ok (.iload_n 2, 1) := by decide +kernel
theorem dX10_checks_10 : decode cX10_checks 10 = .ok (.invokevirtual 104, 3) := by decide +kernel
theorem dX10_checks_13 : decode cX10_checks 13 = .ok (.sipush 1000, 3) := by decide +kernel
theorem dX10_checks_16 : decode cX10_checks 16 = .ok (.if_icmp .ne 5, 3) := by decide +kernel
theorem dX10_checks_19 : decode cX10_checks 19 = .ok (.iconst 4, 1) := by decide +kernel
theorem dX10_checks_20 : decode cX10_checks 20 = .ok (.ireturn, 1) := by decide +kernel
theorem dX10_checks_21 : decode cX10_checks 21 = .ok (.aload_n 0, 1) := by decide +kernel
theorem dX10_checks_22 : decode cX10_checks 22 = .ok (.iload_n 1, 1) := by decide +kernel
theorem dX10_checks_23 : decode cX10_checks 23 = .ok (.aload_n 0, 1) := by decide +kernel
theorem dX10_checks_24 : decode cX10_checks 24 = .ok (.getfield 7, 3) := by decide +kernel
theorem dX10_checks_27 : decode cX10_checks 27 = .ok (.bipush 50, 2) := by decide +kernel
theorem dX10_checks_29 : decode cX10_checks 29 = .ok (.iload_n 2, 1) := by decide +kernel
theorem dX10_checks_30 : decode cX10_checks 30 = .ok (.iadd, 1) := by decide +kernel
theorem dX10_checks_31 : decode cX10_checks 31 = .ok (.iaload, 1) := by decide +kernel
theorem dX10_checks_32 : decode cX10_checks 32 = .ok (.invokevirtual 149, 3) := by decide +kernel
theorem dX10_checks_35 : decode cX10_checks 35 = .ok (.istore_n 3, 1) := by decide +kernel
theorem dX10_checks_36 : decode cX10_checks 36 = .ok (.iload_n 3, 1) := by decide +kernel
theorem dX10_checks_37 : decode cX10_checks 37 = .ok (.iconst (-1), 1) := by decide +kernel
theorem dX10_checks_38 : decode cX10_checks 38 = .ok (.if_icmp .ne 7, 3) := by decide +kernel
theorem dX10_checks_41 : decode cX10_checks 41 = .ok (.iconst 3, 1) := by decide +kernel
theorem dX10_checks_42 : decode cX10_checks 42 = .ok (.goto 21, 3) := by decide +kernel
theorem dX10_checks_45 : decode cX10_checks 45 = .ok (.aload_n 0, 1) := by decide +kernel
theorem dX10_checks_46 : decode cX10_checks 46 = .ok (.iload_n 1, 1) := by decide +kernel
theorem dX10_checks_47 : decode cX10_checks 47 = .ok (.iload_n 2, 1) := by decide +kernel
theorem dX10_checks_48 : decode cX10_checks 48 = .ok (.invokevirtual 110, 3) := by decide +kernel
theorem dX10_checks_51 : decode cX10_checks 51 = .ok (.iload_n 3, 1) := by decide +kernel
theorem dX10_checks_52 : decode cX10_checks 52 = .ok (.invokestatic 120, 3) := by decide +kernel
theorem dX10_checks_55 : decode cX10_checks 55 = .ok (.ifCond .eq 7, 3) := by decide +kernel
theorem dX10_checks_58 : decode cX10_checks 58 = .ok (.iconst 1, 1) := by decide +kernel
theorem dX10_checks_59 : decode cX10_checks 59 = .ok (.goto 4, 3) := by decide +kernel
theorem dX10_checks_62 : decode cX10_checks 62 = .ok (.iconst 2, 1) := by decide +kernel
theorem dX10_checks_63 : decode cX10_checks 63 = .ok (.ireturn, 1) := by decide +kernel
theorem dX10_check_0 : decode cX10_check 0 = .ok (.aload_n 0, 1) := by decide +kernel
theorem dX10_check_1 : decode cX10_check 1 = .ok (.aload_n 0, 1) := by decide +kernel
theorem dX10_check_2 : decode cX10_check 2 = .ok (.iload_n 1, 1) := by decide +kernel
theorem dX10_check_3 : decode cX10_check 3 = .ok (.invokevirtual 85, 3) := by decide +kernel
theorem dX10_check_6 : decode cX10_check 6 = .ok (.ifCond .eq 15, 3) := by decide +kernel
theorem dX10_check_9 : decode cX10_check 9 = .ok (.aload_n 0, 1) := by decide +kernel
theorem dX10_check_10 : decode cX10_check 10 = .ok (.iload_n 2, 1) := by decide +kernel
theorem dX10_check_11 : decode cX10_check 11 = .ok (.invokevirtual 85, 3) := by decide +kernel
theorem dX10_check_14 : decode cX10_check 14 = .ok (.ifCond .eq 7, 3) := by decide +kernel
theorem dX10_check_17 : decode cX10_check 17 = .ok (.iconst 0, 1) := by decide +kernel
theorem dX10_check_18 : decode cX10_check 18 = .ok (.goto 4, 3) := by decide +kernel
theorem dX10_check_21 : decode cX10_check 21 = .ok (.iconst 1, 1) := by decide +kernel
theorem dX10_check_22 : decode cX10_check 22 = .ok (.invokevirtual 67, 3) := by decide +kernel
theorem dX10_check_25 : decode cX10_check 25 = .ok (.ifCond .eq 5, 3) := by decide +kernel
theorem dX10_check_28 : decode cX10_check 28 = .ok (.iconst 0, 1) := by decide +kernel
theorem dX10_check_29 : decode cX10_check 29 = .ok (.ireturn, 1) := by decide +kernel
theorem dX10_check_30 : decode cX10_check 30 = .ok (.aload_n 0, 1) := by decide +kernel
theorem dX10_check_31 : decode cX10_check 31 = .ok (.invokevirtual 101, 3) := by decide +kernel
theorem dX10_check_34 : decode cX10_check 34 = .ok (.aload_n 0, 1) := by decide +kernel
theorem dX10_check_35 : decode cX10_check 35 = .ok (.iload_n 1, 1) := by decide +kernel
theorem dX10_check_36 : decode cX10_check 36 = .ok (.iload_n 2, 1) := by decide +kernel
theorem dX10_check_37 : decode cX10_check 37 = .ok (.invokevirtual 187, 3) := by decide +kernel
theorem dX10_check_40 : decode cX10_check 40 = .ok (.ireturn, 1) := by decide +kernel
theorem dX10_checkedFor_0 : decode cX10_checkedFor 0 = .ok (.iconst 0, 1) := by decide +kernel
theorem dX10_checkedFor_1 : decode cX10_checkedFor 1 = .ok (.istore_n 2, 1) := by decide +kernel
theorem dX10_checkedFor_2 : decode cX10_checkedFor 2 = .ok (.iconst 0, 1) := by decide +kernel
theorem dX10_checkedFor_3 : decode cX10_checkedFor 3 = .ok (.istore_n 3, 1) := by decide +kernel
theorem dX10_checkedFor_4 : decode cX10_checkedFor 4 = .ok (.iload_n 3, 1) := by decide +kernel
theorem dX10_checkedFor_5 : decode cX10_checkedFor 5 = .ok (.aload_n 0, 1) := by decide +kernel
theorem dX10_checkedFor_6 : decode cX10_checkedFor 6 = .ok (.getfield 7, 3) := by decide +kernel
theorem dX10_checkedFor_9 : decode cX10_checkedFor 9 = .ok (.iconst 0, 1) := by decide +kernel
theorem dX10_checkedFor_10 : decode cX10_checkedFor 10 = .ok (.iaload, 1) := by decide +kernel
theorem dX10_checkedFor_11 : decode cX10_checkedFor 11 = .ok (.if_icmp .ge 48, 3) := by decide +kernel
theorem dX10_checkedFor_14 : decode cX10_checkedFor 14 = .ok (.iconst 0, 1) := by decide +kernel
theorem dX10_checkedFor_15 : decode cX10_checkedFor 15 = .ok (.istore 4, 2) := by decide +kernel
theorem dX10_checkedFor_17 : decode cX10_checkedFor 17 = .ok (.iload 4, 2) := by decide +kernel
theorem dX10_checkedFor_19 : decode cX10_checkedFor 19 = .ok (.aload_n 0, 1) := by decide +kernel
theorem dX10_checkedFor_20 : decode cX10_checkedFor 20 = .ok (.getfield 7, 3) := by decide +kernel
theorem dX10_checkedFor_23 : decode cX10_checkedFor 23 = .ok (.iconst 0, 1) := by decide +kernel
theorem dX10_checkedFor_24 : decode cX10_checkedFor 24 = .ok (.iaload, 1) := by decide +kernel
theorem dX10_checkedFor_25 : decode cX10_checkedFor 25 = .ok (.if_icmp .ge 28, 3) := by decide +kernel
theorem dX10_checkedFor_28 : decode cX10_checkedFor 28 = .ok (.iload_n 2, 1) := by decide +kernel
theorem dX10_checkedFor_29 : decode cX10_checkedFor 29 = .ok (.aload_n 0, 1) := by decide +kernel
theorem dX10_checkedFor_30 : decode cX10_checkedFor 30 = .ok (.iload_n 3, 1) := by decide +kernel
theorem dX10_checkedFor_31 : decode cX10_checkedFor 31 = .ok (.iload 4, 2) := by decide +kernel
theorem dX10_checkedFor_33 : decode cX10_checkedFor 33 = .ok (.invokevirtual 187, 3) := by decide +kernel
theorem dX10_checkedFor_36 : decode cX10_checkedFor 36 = .ok (.iload_n 1, 1) := by decide +kernel
theorem dX10_checkedFor_37 : decode cX10_checkedFor 37 = .ok (.if_icmp .ne 7, 3) := by decide +kernel
theorem dX10_checkedFor_40 : decode cX10_checkedFor 40 = .ok (.iconst 1, 1) := by decide +kernel
theorem dX10_checkedFor_41 : decode cX10_checkedFor 41 = .ok (.goto 4, 3) := by decide +kernel
theorem dX10_checkedFor_44 : decode cX10_checkedFor 44 = .ok (.iconst 0, 1) := by decide +kernel
theorem dX10_checkedFor_45 : decode cX10_checkedFor 45 = .ok (.iadd, 1) := by decide +kernel
theorem dX10_checkedFor_46 : decode cX10_checkedFor 46 = .ok (.istore_n 2, 1) := by decide +kernel
theorem dX10_checkedFor_47 : decode cX10_checkedFor 47 = .ok (.iinc 4 1, 3) := by decide +kernel
theorem dX10_checkedFor_50 : decode cX10_checkedFor 50 = .ok (.goto (-33), 3) := by decide +kernel
theorem dX10_checkedFor_53 : decode cX10_checkedFor 53 = .ok (.iinc 3 1, 3) := by decide +kernel
theorem dX10_checkedFor_56 : decode cX10_checkedFor 56 = .ok (.goto (-52), 3) := by decide +kernel
theorem dX10_checkedFor_59 : decode cX10_checkedFor 59 = .ok (.iload_n 2, 1) := by decide +kernel
theorem dX10_checkedFor_60 : decode cX10_checkedFor 60 = .ok (.ireturn, 1) := by decide +kernel
theorem dX10_checked_0 : decode cX10_checked 0 = .ok (.aload_n 0, 1) := by decide +kernel
theorem dX10_checked_1 : decode cX10_checked 1 = .ok (.iload_n 1, 1) := by decide +kernel
theorem dX10_checked_2 : decode cX10_checked 2 = .ok (.iconst 0, 1) := by decide +kernel
theorem dX10_checked_3 : decode cX10_checked 3 = .ok (.iconst 4, 1) := by decide +kernel
theorem dX10_checked_4 : decode cX10_checked 4 = .ok (.invokestatic 56, 3) := by decide +kernel
theorem dX10_checked_7 : decode cX10_checked 7 = .ok (.ifCond .eq 7, 3) := by decide +kernel
theorem dX10_checked_10 : decode cX10_checked 10 = .ok (.iconst 0, 1) := by decide +kernel
theorem dX10_checked_11 : decode cX10_checked 11 = .ok (.goto 4, 3) := by decide +kernel
theorem dX10_checked_14 : decode cX10_checked 14 = .ok (.iconst 1, 1) := by decide +kernel
theorem dX10_checked_15 : decode cX10_checked 15 = .ok (.invokevirtual 67, 3) := by decide +kernel
theorem dX10_checked_18 : decode cX10_checked 18 = .ok (.ifCond .eq 5, 3) := by decide +kernel
theorem dX10_checked_21 : decode cX10_checked 21 = .ok (.iconst 0, 1) := by decide +kernel
theorem dX10_checked_22 : decode cX10_checked 22 = .ok (.ireturn, 1) := by decide +kernel
theorem dX10_checked_23 : decode cX10_checked 23 = .ok (.aload_n 0, 1) := by decide +kernel
theorem dX10_checked_24 : decode cX10_checked 24 = .ok (.invokevirtual 101, 3) := by decide +kernel
theorem dX10_checked_27 : decode cX10_checked 27 = .ok (.aload_n 0, 1) := by decide +kernel
theorem dX10_checked_28 : decode cX10_checked 28 = .ok (.iload_n 1, 1) := by decide +kernel
theorem dX10_checked_29 : decode cX10_checked 29 = .ok (.invokevirtual 190, 3) := by decide +kernel
theorem dX10_checked_32 : decode cX10_checked 32 = .ok (.ireturn, 1) := by decide +kernel
theorem dX10_lowestOther_0 : decode cX10_lowestOther 0 = .ok (.iconst 0, 1) := by decide +kernel
theorem dX10_lowestOther_1 : decode cX10_lowestOther 1 = .ok (.istore_n 3, 1) := by decide +kernel
theorem dX10_lowestOther_2 : decode cX10_lowestOther 2 = .ok (.iload_n 3, 1) := by decide +kernel
theorem dX10_lowestOther_3 : decode cX10_lowestOther 3 = .ok (.aload_n 0, 1) := by decide +kernel
theorem dX10_lowestOther_4 : decode cX10_lowestOther 4 = .ok (.getfield 7, 3) := by decide +kernel
theorem dX10_lowestOther_7 : decode cX10_lowestOther 7 = .ok (.iconst 1, 1) := by decide +kernel
theorem dX10_lowestOther_8 : decode cX10_lowestOther 8 = .ok (.iaload, 1) := by decide +kernel
theorem dX10_lowestOther_9 : decode cX10_lowestOther 9 = .ok (.if_icmp .ge 25, 3) := by decide +kernel
theorem dX10_lowestOther_12 : decode cX10_lowestOther 12 = .ok (.iload_n 3, 1) := by decide +kernel
theorem dX10_lowestOther_13 : decode cX10_lowestOther 13 = .ok (.iload_n 2, 1) := by decide +kernel
theorem dX10_lowestOther_14 : decode cX10_lowestOther 14 = .ok (.if_icmp .eq 14, 3) := by decide +kernel
theorem dX10_lowestOther_17 : decode cX10_lowestOther 17 = .ok (.aload_n 0, 1) := by decide +kernel
theorem dX10_lowestOther_18 : decode cX10_lowestOther 18 = .ok (.iload_n 3, 1) := by decide +kernel
theorem dX10_lowestOther_19 : decode cX10_lowestOther 19 = .ok (.iload_n 1, 1) := by decide +kernel
theorem dX10_lowestOther_20 : decode cX10_lowestOther 20 = .ok (.invokevirtual 81, 3) := by decide +kernel
theorem dX10_lowestOther_23 : decode cX10_lowestOther 23 = .ok (.ifCond .eq 5, 3) := by decide +kernel
theorem dX10_lowestOther_26 : decode cX10_lowestOther 26 = .ok (.iload_n 3, 1) := by decide +kernel
theorem dX10_lowestOther_27 : decode cX10_lowestOther 27 = .ok (.ireturn, 1) := by decide +kernel
theorem dX10_lowestOther_28 : decode cX10_lowestOther 28 = .ok (.iinc 3 1, 3) := by decide +kernel
theorem dX10_lowestOther_31 : decode cX10_lowestOther 31 = .ok (.goto (-29), 3) := by decide +kernel
theorem dX10_lowestOther_34 : decode cX10_lowestOther 34 = .ok (.iconst (-1), 1) := by decide +kernel
theorem dX10_lowestOther_35 : decode cX10_lowestOther 35 = .ok (.ireturn, 1) := by decide +kernel
theorem dX10_goes_0 : decode cX10_goes 0 = .ok (.aload_n 0, 1) := by decide +kernel
theorem dX10_goes_1 : decode cX10_goes 1 = .ok (.getfield 37, 3) := by decide +kernel
theorem dX10_goes_4 : decode cX10_goes 4 = .ok (.iconst 0, 1) := by decide +kernel
theorem dX10_goes_5 : decode cX10_goes 5 = .ok (.iload_n 1, 1) := by decide +kernel
theorem dX10_goes_6 : decode cX10_goes 6 = .ok (.iastore, 1) := by decide +kernel
theorem dX10_goes_7 : decode cX10_goes 7 = .ok (.aload_n 0, 1) := by decide +kernel
theorem dX10_goes_8 : decode cX10_goes 8 = .ok (.iconst 1, 1) := by decide +kernel
theorem dX10_goes_9 : decode cX10_goes 9 = .ok (.putfield 193, 3) := by decide +kernel
theorem dX10_goes_12 : decode cX10_goes 12 = .ok (.aload_n 0, 1) := by decide +kernel
theorem dX10_goes_13 : decode cX10_goes 13 = .ok (.iconst 0, 1) := by decide +kernel
theorem dX10_goes_14 : decode cX10_goes 14 = .ok (.putfield 196, 3) := by decide +kernel
theorem dX10_goes_17 : decode cX10_goes 17 = .ok (.aload_n 0, 1) := by decide +kernel
theorem dX10_goes_18 : decode cX10_goes 18 = .ok (.iconst 0, 1) := by decide +kernel
theorem dX10_goes_19 : decode cX10_goes 19 = .ok (.putfield 199, 3) := by decide +kernel
theorem dX10_goes_22 : decode cX10_goes 22 = .ok (.iload_n 1, 1) := by decide +kernel
theorem dX10_goes_23 : decode cX10_goes 23 = .ok (.istore 4, 2) := by decide +kernel
theorem dX10_goes_25 : decode cX10_goes 25 = .ok (.iload 4, 2) := by decide +kernel
theorem dX10_goes_27 : decode cX10_goes 27 = .ok (.iload_n 2, 1) := by decide +kernel
theorem dX10_goes_28 : decode cX10_goes 28 = .ok (.if_icmp .eq 130, 3) := by decide +kernel
theorem dX10_goes_31 : decode cX10_goes 31 = .ok (.aload_n 0, 1) := by decide +kernel
theorem dX10_goes_32 : decode cX10_goes 32 = .ok (.getfield 193, 3) := by decide +kernel
theorem dX10_goes_35 : decode cX10_goes 35 = .ok (.aload_n 0, 1) := by decide +kernel
theorem dX10_goes_36 : decode cX10_goes 36 = .ok (.getfield 7, 3) := by decide +kernel
theorem dX10_goes_39 : decode cX10_goes 39 = .ok (.iconst 0, 1) := by decide +kernel
theorem dX10_goes_40 : decode cX10_goes 40 = .ok (.iaload, 1) := by decide +kernel
theorem dX10_goes_41 : decode cX10_goes 41 = .ok (.if_icmp .gt 117, 3) := by decide +kernel
theorem dX10_goes_44 : decode cX10_goes 44 = .ok (.aload_n 0, 1) := by decide +kernel
theorem dX10_goes_45 : decode cX10_goes 45 = .ok (.iload 4, 2) := by decide +kernel
theorem dX10_goes_47 : decode cX10_goes 47 = .ok (.aload_n 0, 1) := by decide +kernel
theorem dX10_goes_48 : decode cX10_goes 48 = .ok (.getfield 7, 3) := by decide +kernel
theorem dX10_goes_51 : decode cX10_goes 51 = .ok (.bipush 50, 2) := by decide +kernel
theorem dX10_goes_53 : decode cX10_goes 53 = .ok (.iload_n 2, 1) := by decide +kernel
theorem dX10_goes_54 : decode cX10_goes 54 = .ok (.iadd, 1) := by decide +kernel
theorem dX10_goes_55 : decode cX10_goes 55 = .ok (.iaload, 1) := by decide +kernel
theorem dX10_goes_56 : decode cX10_goes 56 = .ok (.invokevirtual 149, 3) := by decide +kernel
theorem dX10_goes_59 : decode cX10_goes 59 = .ok (.istore 5, 2) := by decide +kernel
theorem dX10_goes_61 : decode cX10_goes 61 = .ok (.iload 5, 2) := by decide +kernel
theorem dX10_goes_63 : decode cX10_goes 63 = .ok (.iconst (-1), 1) := by decide +kernel
theorem dX10_goes_64 : decode cX10_goes 64 = .ok (.if_icmp .eq 19, 3) := by decide +kernel
theorem dX10_goes_67 : decode cX10_goes 67 = .ok (.iload 5, 2) := by decide +kernel
theorem dX10_goes_69 : decode cX10_goes 69 = .ok (.iload_n 3, 1) := by decide +kernel
theorem dX10_goes_70 : decode cX10_goes 70 = .ok (.if_icmp .ne 13, 3) := by decide +kernel
theorem dX10_goes_73 : decode cX10_goes 73 = .ok (.aload_n 0, 1) := by decide +kernel
theorem dX10_goes_74 : decode cX10_goes 74 = .ok (.iload 4, 2) := by decide +kernel
theorem dX10_goes_76 : decode cX10_goes 76 = .ok (.iload_n 3, 1) := by decide +kernel
theorem dX10_goes_77 : decode cX10_goes 77 = .ok (.invokevirtual 202, 3) := by decide +kernel
theorem dX10_goes_80 : decode cX10_goes 80 = .ok (.goto 5, 3) := by decide +kernel
theorem dX10_goes_83 : decode cX10_goes 83 = .ok (.iload 5, 2) := by decide +kernel
theorem dX10_goes_85 : decode cX10_goes 85 = .ok (.istore 5, 2) := by decide +kernel
theorem dX10_goes_87 : decode cX10_goes 87 = .ok (.iload 5, 2) := by decide +kernel
theorem dX10_goes_89 : decode cX10_goes 89 = .ok (.iconst (-1), 1) := by decide +kernel
theorem dX10_goes_90 : decode cX10_goes 90 = .ok (.if_icmp .ne 5, 3) := by decide +kernel
theorem dX10_goes_93 : decode cX10_goes 93 = .ok (.iconst 0, 1) := by decide +kernel
theorem dX10_goes_94 : decode cX10_goes 94 = .ok (.ireturn, 1) := by decide +kernel
theorem dX10_goes_95 : decode cX10_goes 95 = .ok (.aload_n 0, 1) := by decide +kernel
theorem dX10_goes_96 : decode cX10_goes 96 = .ok (.iload 5, 2) := by decide +kernel
theorem dX10_goes_98 : decode cX10_goes 98 = .ok (.iload 4, 2) := by decide +kernel
theorem dX10_goes_100 : decode cX10_goes 100 = .ok (.invokevirtual 107, 3) := by decide +kernel
theorem dX10_goes_103 : decode cX10_goes 103 = .ok (.istore 4, 2) := by decide +kernel
theorem dX10_goes_105 : decode cX10_goes 105 = .ok (.aload_n 0, 1) := by decide +kernel
theorem dX10_goes_106 : decode cX10_goes 106 = .ok (.dup, 1) := by decide +kernel
theorem dX10_goes_107 : decode cX10_goes 107 = .ok (.getfield 196, 3) := by decide +kernel
theorem dX10_goes_110 : decode cX10_goes 110 = .ok (.iconst 1, 1) := by decide +kernel
theorem dX10_goes_111 : decode cX10_goes 111 = .ok (.iload 5, 2) := by decide +kernel
theorem dX10_goes_113 : decode cX10_goes 113 = .ok (.ishl, 1) := by decide +kernel
theorem dX10_goes_114 : decode cX10_goes 114 = .ok (.ior, 1) := by decide +kernel
theorem dX10_goes_115 : decode cX10_goes 115 = .ok (.putfield 196, 3) := by decide +kernel
theorem dX10_goes_118 : decode cX10_goes 118 = .ok (.aload_n 0, 1) := by decide +kernel
theorem dX10_goes_119 : decode cX10_goes 119 = .ok (.dup, 1) := by decide +kernel
theorem dX10_goes_120 : decode cX10_goes 120 = .ok (.getfield 199, 3) := by decide +kernel
theorem dX10_goes_123 : decode cX10_goes 123 = .ok (.aload_n 0, 1) := by decide +kernel
theorem dX10_goes_124 : decode cX10_goes 124 = .ok (.iload 5, 2) := by decide +kernel
theorem dX10_goes_126 : decode cX10_goes 126 = .ok (.iconst 2, 1) := by decide +kernel
theorem dX10_goes_127 : decode cX10_goes 127 = .ok (.invokevirtual 60, 3) := by decide +kernel
theorem dX10_goes_130 : decode cX10_goes 130 = .ok (.iadd, 1) := by decide +kernel
theorem dX10_goes_131 : decode cX10_goes 131 = .ok (.putfield 199, 3) := by decide +kernel
theorem dX10_goes_134 : decode cX10_goes 134 = .ok (.aload_n 0, 1) := by decide +kernel
theorem dX10_goes_135 : decode cX10_goes 135 = .ok (.getfield 37, 3) := by decide +kernel
theorem dX10_goes_138 : decode cX10_goes 138 = .ok (.aload_n 0, 1) := by decide +kernel
theorem dX10_goes_139 : decode cX10_goes 139 = .ok (.getfield 193, 3) := by decide +kernel
theorem dX10_goes_142 : decode cX10_goes 142 = .ok (.iload 4, 2) := by decide +kernel
theorem dX10_goes_144 : decode cX10_goes 144 = .ok (.iastore, 1) := by decide +kernel
theorem dX10_goes_145 : decode cX10_goes 145 = .ok (.aload_n 0, 1) := by decide +kernel
theorem dX10_goes_146 : decode cX10_goes 146 = .ok (.dup, 1) := by decide +kernel
theorem dX10_goes_147 : decode cX10_goes 147 = .ok (.getfield 193, 3) := by decide +kernel
theorem dX10_goes_150 : decode cX10_goes 150 = .ok (.iconst 1, 1) := by decide +kernel
theorem dX10_goes_151 : decode cX10_goes 151 = .ok (.iadd, 1) := by decide +kernel
theorem dX10_goes_152 : decode cX10_goes 152 = .ok (.putfield 193, 3) := by decide +kernel
theorem dX10_goes_155 : decode cX10_goes 155 = .ok (.goto (-130), 3) := by decide +kernel
theorem dX10_goes_158 : decode cX10_goes 158 = .ok (.iload 4, 2) := by decide +kernel
theorem dX10_goes_160 : decode cX10_goes 160 = .ok (.iload_n 2, 1) := by decide +kernel
theorem dX10_goes_161 : decode cX10_goes 161 = .ok (.if_icmp .ne 7, 3) := by decide +kernel
theorem dX10_goes_164 : decode cX10_goes 164 = .ok (.iconst 1, 1) := by decide +kernel
theorem dX10_goes_165 : decode cX10_goes 165 = .ok (.goto 4, 3) := by decide +kernel
theorem dX10_goes_168 : decode cX10_goes 168 = .ok (.iconst 0, 1) := by decide +kernel
theorem dX10_goes_169 : decode cX10_goes 169 = .ok (.ireturn, 1) := by decide +kernel
theorem dX10_send_0 : decode cX10_send 0 = .ok (.aload_n 0, 1) := by decide +kernel
theorem dX10_send_1 : decode cX10_send 1 = .ok (.aload_n 0, 1) := by decide +kernel
theorem dX10_send_2 : decode cX10_send 2 = .ok (.iload_n 1, 1) := by decide +kernel
theorem dX10_send_3 : decode cX10_send 3 = .ok (.invokevirtual 85, 3) := by decide +kernel
theorem dX10_send_6 : decode cX10_send 6 = .ok (.ifCond .eq 15, 3) := by decide +kernel
theorem dX10_send_9 : decode cX10_send 9 = .ok (.aload_n 0, 1) := by decide +kernel
theorem dX10_send_10 : decode cX10_send 10 = .ok (.iload_n 2, 1) := by decide +kernel
theorem dX10_send_11 : decode cX10_send 11 = .ok (.invokevirtual 85, 3) := by decide +kernel
theorem dX10_send_14 : decode cX10_send 14 = .ok (.ifCond .eq 7, 3) := by decide +kernel
theorem dX10_send_17 : decode cX10_send 17 = .ok (.iconst 0, 1) := by decide +kernel
theorem dX10_send_18 : decode cX10_send 18 = .ok (.goto 4, 3) := by decide +kernel
theorem dX10_send_21 : decode cX10_send 21 = .ok (.iconst 1, 1) := by decide +kernel
theorem dX10_send_22 : decode cX10_send 22 = .ok (.invokevirtual 67, 3) := by decide +kernel
theorem dX10_send_25 : decode cX10_send 25 = .ok (.ifCond .eq 5, 3) := by decide +kernel
theorem dX10_send_28 : decode cX10_send 28 = .ok (.iconst 0, 1) := by decide +kernel
theorem dX10_send_29 : decode cX10_send 29 = .ok (.ireturn, 1) := by decide +kernel
theorem dX10_send_30 : decode cX10_send 30 = .ok (.aload_n 0, 1) := by decide +kernel
theorem dX10_send_31 : decode cX10_send 31 = .ok (.iload_n 1, 1) := by decide +kernel
theorem dX10_send_32 : decode cX10_send 32 = .ok (.iload_n 2, 1) := by decide +kernel
theorem dX10_send_33 : decode cX10_send 33 = .ok (.iconst (-1), 1) := by decide +kernel
theorem dX10_send_34 : decode cX10_send 34 = .ok (.invokevirtual 205, 3) := by decide +kernel
theorem dX10_send_37 : decode cX10_send 37 = .ok (.ifCond .eq 10, 3) := by decide +kernel
theorem dX10_send_40 : decode cX10_send 40 = .ok (.aload_n 0, 1) := by decide +kernel
theorem dX10_send_41 : decode cX10_send 41 = .ok (.getfield 199, 3) := by decide +kernel
theorem dX10_send_44 : decode cX10_send 44 = .ok (.goto 4, 3) := by decide +kernel
theorem dX10_send_47 : decode cX10_send 47 = .ok (.iconst (-1), 1) := by decide +kernel
theorem dX10_send_48 : decode cX10_send 48 = .ok (.ireturn, 1) := by decide +kernel
theorem dX10_wayNode_0 : decode cX10_wayNode 0 = .ok (.aload_n 0, 1) := by decide +kernel
theorem dX10_wayNode_1 : decode cX10_wayNode 1 = .ok (.aload_n 0, 1) := by decide +kernel
theorem dX10_wayNode_2 : decode cX10_wayNode 2 = .ok (.iload_n 1, 1) := by decide +kernel
theorem dX10_wayNode_3 : decode cX10_wayNode 3 = .ok (.invokevirtual 85, 3) := by decide +kernel
theorem dX10_wayNode_6 : decode cX10_wayNode 6 = .ok (.ifCond .eq 11, 3) := by decide +kernel
theorem dX10_wayNode_9 : decode cX10_wayNode 9 = .ok (.aload_n 0, 1) := by decide +kernel
theorem dX10_wayNode_10 : decode cX10_wayNode 10 = .ok (.iload_n 2, 1) := by decide +kernel
theorem dX10_wayNode_11 : decode cX10_wayNode 11 = .ok (.invokevirtual 85, 3) := by decide +kernel
theorem dX10_wayNode_14 : decode cX10_wayNode 14 = .ok (.ifCond .ne 7, 3) := by decide +kernel
theorem dX10_wayNode_17 : decode cX10_wayNode 17 = .ok (.iconst 1, 1) := by decide +kernel
theorem dX10_wayNode_18 : decode cX10_wayNode 18 = .ok (.goto 12, 3) := by decide +kernel
theorem dX10_wayNode_21 : decode cX10_wayNode 21 = .ok (.iload_n 3, 1) := by decide +kernel
theorem dX10_wayNode_22 : decode cX10_wayNode 22 = .ok (.ifCond .ge 7, 3) := by decide +kernel
theorem dX10_wayNode_25 : decode cX10_wayNode 25 = .ok (.iconst 2, 1) := by decide +kernel
theorem dX10_wayNode_26 : decode cX10_wayNode 26 = .ok (.goto 4, 3) := by decide +kernel
theorem dX10_wayNode_29 : decode cX10_wayNode 29 = .ok (.iconst 0, 1) := by decide +kernel
theorem dX10_wayNode_30 : decode cX10_wayNode 30 = .ok (.invokevirtual 67, 3) := by decide +kernel
theorem dX10_wayNode_33 : decode cX10_wayNode 33 = .ok (.ifCond .eq 5, 3) := by decide +kernel
theorem dX10_wayNode_36 : decode cX10_wayNode 36 = .ok (.iconst 0, 1) := by decide +kernel
theorem dX10_wayNode_37 : decode cX10_wayNode 37 = .ok (.ireturn, 1) := by decide +kernel
theorem dX10_wayNode_38 : decode cX10_wayNode 38 = .ok (.aload_n 0, 1) := by decide +kernel
theorem dX10_wayNode_39 : decode cX10_wayNode 39 = .ok (.iload_n 1, 1) := by decide +kernel
theorem dX10_wayNode_40 : decode cX10_wayNode 40 = .ok (.iload_n 2, 1) := by decide +kernel
theorem dX10_wayNode_41 : decode cX10_wayNode 41 = .ok (.iconst (-1), 1) := by decide +kernel
theorem dX10_wayNode_42 : decode cX10_wayNode 42 = .ok (.invokevirtual 205, 3) := by decide +kernel
theorem dX10_wayNode_45 : decode cX10_wayNode 45 = .ok (.istore 4, 2) := by decide +kernel
theorem dX10_wayNode_47 : decode cX10_wayNode 47 = .ok (.iload_n 3, 1) := by decide +kernel
theorem dX10_wayNode_48 : decode cX10_wayNode 48 = .ok (.aload_n 0, 1) := by decide +kernel
theorem dX10_wayNode_49 : decode cX10_wayNode 49 = .ok (.getfield 193, 3) := by decide +kernel
theorem dX10_wayNode_52 : decode cX10_wayNode 52 = .ok (.if_icmp .ge 12, 3) := by decide +kernel
theorem dX10_wayNode_55 : decode cX10_wayNode 55 = .ok (.aload_n 0, 1) := by decide +kernel
theorem dX10_wayNode_56 : decode cX10_wayNode 56 = .ok (.getfield 37, 3) := by decide +kernel
theorem dX10_wayNode_59 : decode cX10_wayNode 59 = .ok (.iload_n 3, 1) := by decide +kernel
theorem dX10_wayNode_60 : decode cX10_wayNode 60 = .ok (.iaload, 1) := by decide +kernel
theorem dX10_wayNode_61 : decode cX10_wayNode 61 = .ok (.goto 4, 3) := by decide +kernel
theorem dX10_wayNode_64 : decode cX10_wayNode 64 = .ok (.iconst (-1), 1) := by decide +kernel
theorem dX10_wayNode_65 : decode cX10_wayNode 65 = .ok (.ireturn, 1) := by decide +kernel
theorem dX10_arrivals_0 : decode cX10_arrivals 0 = .ok (.iconst 0, 1) := by decide +kernel
theorem dX10_arrivals_1 : decode cX10_arrivals 1 = .ok (.istore_n 1, 1) := by decide +kernel
theorem dX10_arrivals_2 : decode cX10_arrivals 2 = .ok (.iconst 0, 1) := by decide +kernel
theorem dX10_arrivals_3 : decode cX10_arrivals 3 = .ok (.istore_n 2, 1) := by decide +kernel
theorem dX10_arrivals_4 : decode cX10_arrivals 4 = .ok (.iload_n 2, 1) := by decide +kernel
theorem dX10_arrivals_5 : decode cX10_arrivals 5 = .ok (.aload_n 0, 1) := by decide +kernel
theorem dX10_arrivals_6 : decode cX10_arrivals 6 = .ok (.getfield 7, 3) := by decide +kernel
theorem dX10_arrivals_9 : decode cX10_arrivals 9 = .ok (.iconst 0, 1) := by decide +kernel
theorem dX10_arrivals_10 : decode cX10_arrivals 10 = .ok (.iaload, 1) := by decide +kernel
theorem dX10_arrivals_11 : decode cX10_arrivals 11 = .ok (.if_icmp .ge 50, 3) := by decide +kernel
theorem dX10_arrivals_14 : decode cX10_arrivals 14 = .ok (.iconst 0, 1) := by decide +kernel
theorem dX10_arrivals_15 : decode cX10_arrivals 15 = .ok (.istore_n 3, 1) := by decide +kernel
theorem dX10_arrivals_16 : decode cX10_arrivals 16 = .ok (.iload_n 3, 1) := by decide +kernel
theorem dX10_arrivals_17 : decode cX10_arrivals 17 = .ok (.aload_n 0, 1) := by decide +kernel
theorem dX10_arrivals_18 : decode cX10_arrivals 18 = .ok (.getfield 7, 3) := by decide +kernel
theorem dX10_arrivals_21 : decode cX10_arrivals 21 = .ok (.iconst 0, 1) := by decide +kernel
theorem dX10_arrivals_22 : decode cX10_arrivals 22 = .ok (.iaload, 1) := by decide +kernel
theorem dX10_arrivals_23 : decode cX10_arrivals 23 = .ok (.if_icmp .ge 32, 3) := by decide +kernel
theorem dX10_arrivals_26 : decode cX10_arrivals 26 = .ok (.iload_n 1, 1) := by decide +kernel
theorem dX10_arrivals_27 : decode cX10_arrivals 27 = .ok (.iload_n 2, 1) := by decide +kernel
theorem dX10_arrivals_28 : decode cX10_arrivals 28 = .ok (.iload_n 3, 1) := by decide +kernel
theorem dX10_arrivals_29 : decode cX10_arrivals 29 = .ok (.if_icmp .eq 17, 3) := by decide +kernel
theorem dX10_arrivals_32 : decode cX10_arrivals 32 = .ok (.aload_n 0, 1) := by decide +kernel
theorem dX10_arrivals_33 : decode cX10_arrivals 33 = .ok (.iload_n 2, 1) := by decide +kernel
theorem dX10_arrivals_34 : decode cX10_arrivals 34 = .ok (.iload_n 3, 1) := by decide +kernel
theorem dX10_arrivals_35 : decode cX10_arrivals 35 = .ok (.iconst (-1), 1) := by decide +kernel
theorem dX10_arrivals_36 : decode cX10_arrivals 36 = .ok (.invokevirtual 205, 3) := by decide +kernel
theorem dX10_arrivals_39 : decode cX10_arrivals 39 = .ok (.ifCond .eq 7, 3) := by decide +kernel
theorem dX10_arrivals_42 : decode cX10_arrivals 42 = .ok (.iconst 1, 1) := by decide +kernel
theorem dX10_arrivals_43 : decode cX10_arrivals 43 = .ok (.goto 4, 3) := by decide +kernel
theorem dX10_arrivals_46 : decode cX10_arrivals 46 = .ok (.iconst 0, 1) := by decide +kernel
theorem dX10_arrivals_47 : decode cX10_arrivals 47 = .ok (.iadd, 1) := by decide +kernel
theorem dX10_arrivals_48 : decode cX10_arrivals 48 = .ok (.istore_n 1, 1) := by decide +kernel
theorem dX10_arrivals_49 : decode cX10_arrivals 49 = .ok (.iinc 3 1, 3) := by decide +kernel
theorem dX10_arrivals_52 : decode cX10_arrivals 52 = .ok (.goto (-36), 3) := by decide +kernel
theorem dX10_arrivals_55 : decode cX10_arrivals 55 = .ok (.iinc 2 1, 3) := by decide +kernel
theorem dX10_arrivals_58 : decode cX10_arrivals 58 = .ok (.goto (-54), 3) := by decide +kernel
theorem dX10_arrivals_61 : decode cX10_arrivals 61 = .ok (.iload_n 1, 1) := by decide +kernel
theorem dX10_arrivals_62 : decode cX10_arrivals 62 = .ok (.ireturn, 1) := by decide +kernel
theorem dX10_arriving_0 : decode cX10_arriving 0 = .ok (.aload_n 0, 1) := by decide +kernel
theorem dX10_arriving_1 : decode cX10_arriving 1 = .ok (.iconst 0, 1) := by decide +kernel
theorem dX10_arriving_2 : decode cX10_arriving 2 = .ok (.putfield 52, 3) := by decide +kernel
theorem dX10_arriving_5 : decode cX10_arriving 5 = .ok (.aload_n 0, 1) := by decide +kernel
theorem dX10_arriving_6 : decode cX10_arriving 6 = .ok (.invokevirtual 208, 3) := by decide +kernel
theorem dX10_arriving_9 : decode cX10_arriving 9 = .ok (.ireturn, 1) := by decide +kernel
