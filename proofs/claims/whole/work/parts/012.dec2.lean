theorem dX10_holdsLoads_1 : decode cX10_holdsLoads 1 = .ok (.istore_n 1, 1) := by decide +kernel
theorem dX10_holdsLoads_2 : decode cX10_holdsLoads 2 = .ok (.iload_n 1, 1) := by decide +kernel
theorem dX10_holdsLoads_3 : decode cX10_holdsLoads 3 = .ok (.bipush 30, 2) := by decide +kernel
theorem dX10_holdsLoads_5 : decode cX10_holdsLoads 5 = .ok (.if_icmp .ge 27, 3) := by decide +kernel
theorem dX10_holdsLoads_8 : decode cX10_holdsLoads 8 = .ok (.aload_n 0, 1) := by decide +kernel
theorem dX10_holdsLoads_9 : decode cX10_holdsLoads 9 = .ok (.iload_n 1, 1) := by decide +kernel
theorem dX10_holdsLoads_10 : decode cX10_holdsLoads 10 = .ok (.iconst 2, 1) := by decide +kernel
theorem dX10_holdsLoads_11 : decode cX10_holdsLoads 11 = .ok (.aload_n 0, 1) := by decide +kernel
theorem dX10_holdsLoads_12 : decode cX10_holdsLoads 12 = .ok (.iload_n 1, 1) := by decide +kernel
theorem dX10_holdsLoads_13 : decode cX10_holdsLoads 13 = .ok (.iconst 2, 1) := by decide +kernel
theorem dX10_holdsLoads_14 : decode cX10_holdsLoads 14 = .ok (.invokevirtual 92, 3) := by decide +kernel
theorem dX10_holdsLoads_17 : decode cX10_holdsLoads 17 = .ok (.sipush 999, 3) := by decide +kernel
theorem dX10_holdsLoads_20 : decode cX10_holdsLoads 20 = .ok (.invokestatic 103, 3) := by decide +kernel
theorem dX10_holdsLoads_23 : decode cX10_holdsLoads 23 = .ok (.invokevirtual 127, 3) := by decide +kernel
theorem dX10_holdsLoads_26 : decode cX10_holdsLoads 26 = .ok (.iinc 1 1, 3) := by decide +kernel
theorem dX10_holdsLoads_29 : decode cX10_holdsLoads 29 = .ok (.goto (-27), 3) := by decide +kernel
theorem dX10_holdsLoads_32 : decode cX10_holdsLoads 32 = .ok (.return_, 1) := by decide +kernel
theorem dX10_ticks_0 : decode cX10_ticks 0 = .ok (.aload_n 0, 1) := by decide +kernel
theorem dX10_ticks_1 : decode cX10_ticks 1 = .ok (.getfield 7, 3) := by decide +kernel
theorem dX10_ticks_4 : decode cX10_ticks 4 = .ok (.iconst 4, 1) := by decide +kernel
theorem dX10_ticks_5 : decode cX10_ticks 5 = .ok (.iaload, 1) := by decide +kernel
theorem dX10_ticks_6 : decode cX10_ticks 6 = .ok (.aload_n 0, 1) := by decide +kernel
theorem dX10_ticks_7 : decode cX10_ticks 7 = .ok (.invokevirtual 154, 3) := by decide +kernel
theorem dX10_ticks_10 : decode cX10_ticks 10 = .ok (.iconst 3, 1) := by decide +kernel
theorem dX10_ticks_11 : decode cX10_ticks 11 = .ok (.irem, 1) := by decide +kernel
theorem dX10_ticks_12 : decode cX10_ticks 12 = .ok (.iadd, 1) := by decide +kernel
theorem dX10_ticks_13 : decode cX10_ticks 13 = .ok (.istore_n 1, 1) := by decide +kernel
theorem dX10_ticks_14 : decode cX10_ticks 14 = .ok (.iconst 0, 1) := by decide +kernel
theorem dX10_ticks_15 : decode cX10_ticks 15 = .ok (.istore_n 2, 1) := by decide +kernel
theorem dX10_ticks_16 : decode cX10_ticks 16 = .ok (.iload_n 2, 1) := by decide +kernel
theorem dX10_ticks_17 : decode cX10_ticks 17 = .ok (.bipush 30, 2) := by decide +kernel
theorem dX10_ticks_19 : decode cX10_ticks 19 = .ok (.if_icmp .ge 23, 3) := by decide +kernel
theorem dX10_ticks_22 : decode cX10_ticks 22 = .ok (.aload_n 0, 1) := by decide +kernel
theorem dX10_ticks_23 : decode cX10_ticks 23 = .ok (.iload_n 2, 1) := by decide +kernel
theorem dX10_ticks_24 : decode cX10_ticks 24 = .ok (.iconst 2, 1) := by decide +kernel
theorem dX10_ticks_25 : decode cX10_ticks 25 = .ok (.aload_n 0, 1) := by decide +kernel
theorem dX10_ticks_26 : decode cX10_ticks 26 = .ok (.iload_n 2, 1) := by decide +kernel
theorem dX10_ticks_27 : decode cX10_ticks 27 = .ok (.iconst 2, 1) := by decide +kernel
theorem dX10_ticks_28 : decode cX10_ticks 28 = .ok (.invokevirtual 92, 3) := by decide +kernel
theorem dX10_ticks_31 : decode cX10_ticks 31 = .ok (.iload_n 1, 1) := by decide +kernel
theorem dX10_ticks_32 : decode cX10_ticks 32 = .ok (.iadd, 1) := by decide +kernel
theorem dX10_ticks_33 : decode cX10_ticks 33 = .ok (.invokevirtual 127, 3) := by decide +kernel
theorem dX10_ticks_36 : decode cX10_ticks 36 = .ok (.iinc 2 1, 3) := by decide +kernel
theorem dX10_ticks_39 : decode cX10_ticks 39 = .ok (.goto (-23), 3) := by decide +kernel
theorem dX10_ticks_42 : decode cX10_ticks 42 = .ok (.aload_n 0, 1) := by decide +kernel
theorem dX10_ticks_43 : decode cX10_ticks 43 = .ok (.invokevirtual 160, 3) := by decide +kernel
theorem dX10_ticks_46 : decode cX10_ticks 46 = .ok (.iconst 0, 1) := by decide +kernel
theorem dX10_ticks_47 : decode cX10_ticks 47 = .ok (.istore_n 2, 1) := by decide +kernel
theorem dX10_ticks_48 : decode cX10_ticks 48 = .ok (.iload_n 2, 1) := by decide +kernel
theorem dX10_ticks_49 : decode cX10_ticks 49 = .ok (.bipush 30, 2) := by decide +kernel
theorem dX10_ticks_51 : decode cX10_ticks 51 = .ok (.if_icmp .ge 52, 3) := by decide +kernel
theorem dX10_ticks_54 : decode cX10_ticks 54 = .ok (.aload_n 0, 1) := by decide +kernel
theorem dX10_ticks_55 : decode cX10_ticks 55 = .ok (.getfield 43, 3) := by decide +kernel
theorem dX10_ticks_58 : decode cX10_ticks 58 = .ok (.iload_n 2, 1) := by decide +kernel
theorem dX10_ticks_59 : decode cX10_ticks 59 = .ok (.aload_n 0, 1) := by decide +kernel
theorem dX10_ticks_60 : decode cX10_ticks 60 = .ok (.iload_n 2, 1) := by decide +kernel
theorem dX10_ticks_61 : decode cX10_ticks 61 = .ok (.iconst 0, 1) := by decide +kernel
theorem dX10_ticks_62 : decode cX10_ticks 62 = .ok (.invokevirtual 92, 3) := by decide +kernel
theorem dX10_ticks_65 : decode cX10_ticks 65 = .ok (.iconst 5, 1) := by decide +kernel
theorem dX10_ticks_66 : decode cX10_ticks 66 = .ok (.if_icmp .eq 14, 3) := by decide +kernel
theorem dX10_ticks_69 : decode cX10_ticks 69 = .ok (.aload_n 0, 1) := by decide +kernel
theorem dX10_ticks_70 : decode cX10_ticks 70 = .ok (.iload_n 2, 1) := by decide +kernel
theorem dX10_ticks_71 : decode cX10_ticks 71 = .ok (.iconst 2, 1) := by decide +kernel
theorem dX10_ticks_72 : decode cX10_ticks 72 = .ok (.invokevirtual 92, 3) := by decide +kernel
theorem dX10_ticks_75 : decode cX10_ticks 75 = .ok (.bipush 20, 2) := by decide +kernel
theorem dX10_ticks_77 : decode cX10_ticks 77 = .ok (.if_icmp .gt 7, 3) := by decide +kernel
theorem dX10_ticks_80 : decode cX10_ticks 80 = .ok (.iconst 0, 1) := by decide +kernel
theorem dX10_ticks_81 : decode cX10_ticks 81 = .ok (.goto 15, 3) := by decide +kernel
theorem dX10_ticks_84 : decode cX10_ticks 84 = .ok (.aload_n 0, 1) := by decide +kernel
theorem dX10_ticks_85 : decode cX10_ticks 85 = .ok (.iload_n 2, 1) := by decide +kernel
theorem dX10_ticks_86 : decode cX10_ticks 86 = .ok (.iconst 2, 1) := by decide +kernel
theorem dX10_ticks_87 : decode cX10_ticks 87 = .ok (.invokevirtual 92, 3) := by decide +kernel
theorem dX10_ticks_90 : decode cX10_ticks 90 = .ok (.bipush 20, 2) := by decide +kernel
theorem dX10_ticks_92 : decode cX10_ticks 92 = .ok (.isub, 1) := by decide +kernel
theorem dX10_ticks_93 : decode cX10_ticks 93 = .ok (.bipush 10, 2) := by decide +kernel
theorem dX10_ticks_95 : decode cX10_ticks 95 = .ok (.idiv, 1) := by decide +kernel
theorem dX10_ticks_96 : decode cX10_ticks 96 = .ok (.iastore, 1) := by decide +kernel
theorem dX10_ticks_97 : decode cX10_ticks 97 = .ok (.iinc 2 1, 3) := by decide +kernel
theorem dX10_ticks_100 : decode cX10_ticks 100 = .ok (.goto (-52), 3) := by decide +kernel
theorem dX10_ticks_103 : decode cX10_ticks 103 = .ok (.iconst 0, 1) := by decide +kernel
theorem dX10_ticks_104 : decode cX10_ticks 104 = .ok (.istore_n 2, 1) := by decide +kernel
theorem dX10_ticks_105 : decode cX10_ticks 105 = .ok (.iload_n 2, 1) := by decide +kernel
theorem dX10_ticks_106 : decode cX10_ticks 106 = .ok (.bipush 30, 2) := by decide +kernel
theorem dX10_ticks_108 : decode cX10_ticks 108 = .ok (.if_icmp .ge 48, 3) := by decide +kernel
theorem dX10_ticks_111 : decode cX10_ticks 111 = .ok (.aload_n 0, 1) := by decide +kernel
theorem dX10_ticks_112 : decode cX10_ticks 112 = .ok (.iload_n 2, 1) := by decide +kernel
theorem dX10_ticks_113 : decode cX10_ticks 113 = .ok (.iconst 2, 1) := by decide +kernel
theorem dX10_ticks_114 : decode cX10_ticks 114 = .ok (.aload_n 0, 1) := by decide +kernel
theorem dX10_ticks_115 : decode cX10_ticks 115 = .ok (.iload_n 2, 1) := by decide +kernel
theorem dX10_ticks_116 : decode cX10_ticks 116 = .ok (.iconst 2, 1) := by decide +kernel
theorem dX10_ticks_117 : decode cX10_ticks 117 = .ok (.invokevirtual 92, 3) := by decide +kernel
theorem dX10_ticks_120 : decode cX10_ticks 120 = .ok (.aload_n 0, 1) := by decide +kernel
theorem dX10_ticks_121 : decode cX10_ticks 121 = .ok (.getfield 43, 3) := by decide +kernel
theorem dX10_ticks_124 : decode cX10_ticks 124 = .ok (.iload_n 2, 1) := by decide +kernel
theorem dX10_ticks_125 : decode cX10_ticks 125 = .ok (.iaload, 1) := by decide +kernel
theorem dX10_ticks_126 : decode cX10_ticks 126 = .ok (.isub, 1) := by decide +kernel
theorem dX10_ticks_127 : decode cX10_ticks 127 = .ok (.iload_n 2, 1) := by decide +kernel
theorem dX10_ticks_128 : decode cX10_ticks 128 = .ok (.bipush 6, 2) := by decide +kernel
theorem dX10_ticks_130 : decode cX10_ticks 130 = .ok (.irem, 1) := by decide +kernel
theorem dX10_ticks_131 : decode cX10_ticks 131 = .ok (.ifCond .ne 7, 3) := by decide +kernel
theorem dX10_ticks_134 : decode cX10_ticks 134 = .ok (.iconst 0, 1) := by decide +kernel
theorem dX10_ticks_135 : decode cX10_ticks 135 = .ok (.goto 11, 3) := by decide +kernel
theorem dX10_ticks_138 : decode cX10_ticks 138 = .ok (.aload_n 0, 1) := by decide +kernel
theorem dX10_ticks_139 : decode cX10_ticks 139 = .ok (.getfield 43, 3) := by decide +kernel
theorem dX10_ticks_142 : decode cX10_ticks 142 = .ok (.iload_n 2, 1) := by decide +kernel
theorem dX10_ticks_143 : decode cX10_ticks 143 = .ok (.iconst 1, 1) := by decide +kernel
theorem dX10_ticks_144 : decode cX10_ticks 144 = .ok (.isub, 1) := by decide +kernel
theorem dX10_ticks_145 : decode cX10_ticks 145 = .ok (.iaload, 1) := by decide +kernel
theorem dX10_ticks_146 : decode cX10_ticks 146 = .ok (.iadd, 1) := by decide +kernel
theorem dX10_ticks_147 : decode cX10_ticks 147 = .ok (.invokevirtual 127, 3) := by decide +kernel
theorem dX10_ticks_150 : decode cX10_ticks 150 = .ok (.iinc 2 1, 3) := by decide +kernel
theorem dX10_ticks_153 : decode cX10_ticks 153 = .ok (.goto (-48), 3) := by decide +kernel
theorem dX10_ticks_156 : decode cX10_ticks 156 = .ok (.aload_n 0, 1) := by decide +kernel
theorem dX10_ticks_157 : decode cX10_ticks 157 = .ok (.invokevirtual 160, 3) := by decide +kernel
theorem dX10_ticks_160 : decode cX10_ticks 160 = .ok (.iconst 0, 1) := by decide +kernel
theorem dX10_ticks_161 : decode cX10_ticks 161 = .ok (.istore_n 2, 1) := by decide +kernel
theorem dX10_ticks_162 : decode cX10_ticks 162 = .ok (.iconst 4, 1) := by decide +kernel
theorem dX10_ticks_163 : decode cX10_ticks 163 = .ok (.istore_n 3, 1) := by decide +kernel
theorem dX10_ticks_164 : decode cX10_ticks 164 = .ok (.iload_n 3, 1) := by decide +kernel
theorem dX10_ticks_165 : decode cX10_ticks 165 = .ok (.ifCond .lt 108, 3) := by decide +kernel
theorem dX10_ticks_168 : decode cX10_ticks 168 = .ok (.bipush 6, 2) := by decide +kernel
theorem dX10_ticks_170 : decode cX10_ticks 170 = .ok (.iload_n 3, 1) := by decide +kernel
theorem dX10_ticks_171 : decode cX10_ticks 171 = .ok (.imul, 1) := by decide +kernel
theorem dX10_ticks_172 : decode cX10_ticks 172 = .ok (.istore 4, 2) := by decide +kernel
theorem dX10_ticks_174 : decode cX10_ticks 174 = .ok (.iload 4, 2) := by decide +kernel
theorem dX10_ticks_176 : decode cX10_ticks 176 = .ok (.bipush 6, 2) := by decide +kernel
theorem dX10_ticks_178 : decode cX10_ticks 178 = .ok (.iload_n 3, 1) := by decide +kernel
theorem dX10_ticks_179 : decode cX10_ticks 179 = .ok (.imul, 1) := by decide +kernel
theorem dX10_ticks_180 : decode cX10_ticks 180 = .ok (.bipush 6, 2) := by decide +kernel
theorem dX10_ticks_182 : decode cX10_ticks 182 = .ok (.iadd, 1) := by decide +kernel
theorem dX10_ticks_183 : decode cX10_ticks 183 = .ok (.if_icmp .ge 84, 3) := by decide +kernel
theorem dX10_ticks_186 : decode cX10_ticks 186 = .ok (.aload_n 0, 1) := by decide +kernel
theorem dX10_ticks_187 : decode cX10_ticks 187 = .ok (.iload 4, 2) := by decide +kernel
theorem dX10_ticks_189 : decode cX10_ticks 189 = .ok (.iconst 1, 1) := by decide +kernel
theorem dX10_ticks_190 : decode cX10_ticks 190 = .ok (.invokevirtual 92, 3) := by decide +kernel
theorem dX10_ticks_193 : decode cX10_ticks 193 = .ok (.bipush 30, 2) := by decide +kernel
theorem dX10_ticks_195 : decode cX10_ticks 195 = .ok (.if_icmp .lt 66, 3) := by decide +kernel
theorem dX10_ticks_198 : decode cX10_ticks 198 = .ok (.aload_n 0, 1) := by decide +kernel
theorem dX10_ticks_199 : decode cX10_ticks 199 = .ok (.iload 4, 2) := by decide +kernel
theorem dX10_ticks_201 : decode cX10_ticks 201 = .ok (.iconst 2, 1) := by decide +kernel
theorem dX10_ticks_202 : decode cX10_ticks 202 = .ok (.invokevirtual 92, 3) := by decide +kernel
theorem dX10_ticks_205 : decode cX10_ticks 205 = .ok (.aload_n 0, 1) := by decide +kernel
theorem dX10_ticks_206 : decode cX10_ticks 206 = .ok (.iload 4, 2) := by decide +kernel
theorem dX10_ticks_208 : decode cX10_ticks 208 = .ok (.invokevirtual 134, 3) := by decide +kernel
theorem dX10_ticks_211 : decode cX10_ticks 211 = .ok (.if_icmp .le 50, 3) := by decide +kernel
theorem dX10_ticks_214 : decode cX10_ticks 214 = .ok (.aload_n 0, 1) := by decide +kernel
theorem dX10_ticks_215 : decode cX10_ticks 215 = .ok (.iload 4, 2) := by decide +kernel
theorem dX10_ticks_217 : decode cX10_ticks 217 = .ok (.iconst 2, 1) := by decide +kernel
theorem dX10_ticks_218 : decode cX10_ticks 218 = .ok (.invokevirtual 92, 3) := by decide +kernel
theorem dX10_ticks_221 : decode cX10_ticks 221 = .ok (.istore 5, 2) := by decide +kernel
theorem dX10_ticks_223 : decode cX10_ticks 223 = .ok (.aload_n 0, 1) := by decide +kernel
theorem dX10_ticks_224 : decode cX10_ticks 224 = .ok (.iload 4, 2) := by decide +kernel
theorem dX10_ticks_226 : decode cX10_ticks 226 = .ok (.iconst 2, 1) := by decide +kernel
theorem dX10_ticks_227 : decode cX10_ticks 227 = .ok (.iconst 0, 1) := by decide +kernel
theorem dX10_ticks_228 : decode cX10_ticks 228 = .ok (.invokevirtual 127, 3) := by decide +kernel
theorem dX10_ticks_231 : decode cX10_ticks 231 = .ok (.iload_n 3, 1) := by decide +kernel
theorem dX10_ticks_232 : decode cX10_ticks 232 = .ok (.ifCond .le 26, 3) := by decide +kernel
theorem dX10_ticks_235 : decode cX10_ticks 235 = .ok (.aload_n 0, 1) := by decide +kernel
theorem dX10_ticks_236 : decode cX10_ticks 236 = .ok (.iload 4, 2) := by decide +kernel
theorem dX10_ticks_238 : decode cX10_ticks 238 = .ok (.bipush 6, 2) := by decide +kernel
theorem dX10_ticks_240 : decode cX10_ticks 240 = .ok (.isub, 1) := by decide +kernel
theorem dX10_ticks_241 : decode cX10_ticks 241 = .ok (.iconst 2, 1) := by decide +kernel
theorem dX10_ticks_242 : decode cX10_ticks 242 = .ok (.aload_n 0, 1) := by decide +kernel
theorem dX10_ticks_243 : decode cX10_ticks 243 = .ok (.iload 4, 2) := by decide +kernel
theorem dX10_ticks_245 : decode cX10_ticks 245 = .ok (.bipush 6, 2) := by decide +kernel
theorem dX10_ticks_247 : decode cX10_ticks 247 = .ok (.isub, 1) := by decide +kernel
theorem dX10_ticks_248 : decode cX10_ticks 248 = .ok (.iconst 2, 1) := by decide +kernel
theorem dX10_ticks_249 : decode cX10_ticks 249 = .ok (.invokevirtual 92, 3) := by decide +kernel
theorem dX10_ticks_252 : decode cX10_ticks 252 = .ok (.iload 5, 2) := by decide +kernel
theorem dX10_ticks_254 : decode cX10_ticks 254 = .ok (.iadd, 1) := by decide +kernel
theorem dX10_ticks_255 : decode cX10_ticks 255 = .ok (.invokevirtual 127, 3) := by decide +kernel
theorem dX10_ticks_258 : decode cX10_ticks 258 = .ok (.iinc 2 1, 3) := by decide +kernel
theorem dX10_ticks_261 : decode cX10_ticks 261 = .ok (.iinc 4 1, 3) := by decide +kernel
theorem dX10_ticks_264 : decode cX10_ticks 264 = .ok (.goto (-90), 3) := by decide +kernel
theorem dX10_ticks_267 : decode cX10_ticks 267 = .ok (.iinc 3 (-1), 3) := by decide +kernel
theorem dX10_ticks_270 : decode cX10_ticks 270 = .ok (.goto (-106), 3) := by decide +kernel
theorem dX10_ticks_273 : decode cX10_ticks 273 = .ok (.aload_n 0, 1) := by decide +kernel
theorem dX10_ticks_274 : decode cX10_ticks 274 = .ok (.invokevirtual 160, 3) := by decide +kernel
theorem dX10_ticks_277 : decode cX10_ticks 277 = .ok (.aload_n 0, 1) := by decide +kernel
theorem dX10_ticks_278 : decode cX10_ticks 278 = .ok (.getfield 7, 3) := by decide +kernel
theorem dX10_ticks_281 : decode cX10_ticks 281 = .ok (.iconst 5, 1) := by decide +kernel
theorem dX10_ticks_282 : decode cX10_ticks 282 = .ok (.dup2, 1) := by decide +kernel
theorem dX10_ticks_283 : decode cX10_ticks 283 = .ok (.iaload, 1) := by decide +kernel
theorem dX10_ticks_284 : decode cX10_ticks 284 = .ok (.iload_n 2, 1) := by decide +kernel
theorem dX10_ticks_285 : decode cX10_ticks 285 = .ok (.iadd, 1) := by decide +kernel
theorem dX10_ticks_286 : decode cX10_ticks 286 = .ok (.iastore, 1) := by decide +kernel
theorem dX10_ticks_287 : decode cX10_ticks 287 = .ok (.aload_n 0, 1) := by decide +kernel
theorem dX10_ticks_288 : decode cX10_ticks 288 = .ok (.getfield 7, 3) := by decide +kernel
theorem dX10_ticks_291 : decode cX10_ticks 291 = .ok (.iconst 3, 1) := by decide +kernel
theorem dX10_ticks_292 : decode cX10_ticks 292 = .ok (.aload_n 0, 1) := by decide +kernel
theorem dX10_ticks_293 : decode cX10_ticks 293 = .ok (.getfield 7, 3) := by decide +kernel
theorem dX10_ticks_296 : decode cX10_ticks 296 = .ok (.iconst 3, 1) := by decide +kernel
theorem dX10_ticks_297 : decode cX10_ticks 297 = .ok (.iaload, 1) := by decide +kernel
theorem dX10_ticks_298 : decode cX10_ticks 298 = .ok (.bipush 23, 2) := by decide +kernel
theorem dX10_ticks_300 : decode cX10_ticks 300 = .ok (.if_icmp .ne 7, 3) := by decide +kernel
theorem dX10_ticks_303 : decode cX10_ticks 303 = .ok (.iconst 0, 1) := by decide +kernel
theorem dX10_ticks_304 : decode cX10_ticks 304 = .ok (.goto 11, 3) := by decide +kernel
theorem dX10_ticks_307 : decode cX10_ticks 307 = .ok (.aload_n 0, 1) := by decide +kernel
theorem dX10_ticks_308 : decode cX10_ticks 308 = .ok (.getfield 7, 3) := by decide +kernel
theorem dX10_ticks_311 : decode cX10_ticks 311 = .ok (.iconst 3, 1) := by decide +kernel
theorem dX10_ticks_312 : decode cX10_ticks 312 = .ok (.iaload, 1) := by decide +kernel
theorem dX10_ticks_313 : decode cX10_ticks 313 = .ok (.iconst 1, 1) := by decide +kernel
theorem dX10_ticks_314 : decode cX10_ticks 314 = .ok (.iadd, 1) := by decide +kernel
theorem dX10_ticks_315 : decode cX10_ticks 315 = .ok (.iastore, 1) := by decide +kernel
theorem dX10_ticks_316 : decode cX10_ticks 316 = .ok (.iload_n 2, 1) := by decide +kernel
theorem dX10_ticks_317 : decode cX10_ticks 317 = .ok (.ireturn, 1) := by decide +kernel
theorem dX10_ticksMany_0 : decode cX10_ticksMany 0 = .ok (.iconst 0, 1) := by decide +kernel
theorem dX10_ticksMany_1 : decode cX10_ticksMany 1 = .ok (.istore_n 2, 1) := by decide +kernel
theorem dX10_ticksMany_2 : decode cX10_ticksMany 2 = .ok (.iconst 0, 1) := by decide +kernel
theorem dX10_ticksMany_3 : decode cX10_ticksMany 3 = .ok (.istore_n 3, 1) := by decide +kernel
theorem dX10_ticksMany_4 : decode cX10_ticksMany 4 = .ok (.iload_n 3, 1) := by decide +kernel
theorem dX10_ticksMany_5 : decode cX10_ticksMany 5 = .ok (.iload_n 1, 1) := by decide +kernel
theorem dX10_ticksMany_6 : decode cX10_ticksMany 6 = .ok (.if_icmp .ge 16, 3) := by decide +kernel
theorem dX10_ticksMany_9 : decode cX10_ticksMany 9 = .ok (.iload_n 2, 1) := by decide +kernel
theorem dX10_ticksMany_10 : decode cX10_ticksMany 10 = .ok (.aload_n 0, 1) := by decide +kernel
theorem dX10_ticksMany_11 : decode cX10_ticksMany 11 = .ok (.invokevirtual 163, 3) := by decide +kernel
theorem dX10_ticksMany_14 : decode cX10_ticksMany 14 = .ok (.iadd, 1) := by decide +kernel
theorem dX10_ticksMany_15 : decode cX10_ticksMany 15 = .ok (.istore_n 2, 1) := by decide +kernel
theorem dX10_ticksMany_16 : decode cX10_ticksMany 16 = .ok (.iinc 3 1, 3) := by decide +kernel
theorem dX10_ticksMany_19 : decode cX10_ticksMany 19 = .ok (.goto (-15), 3) := by decide +kernel
theorem dX10_ticksMany_22 : decode cX10_ticksMany 22 = .ok (.iload_n 2, 1) := by decide +kernel
theorem dX10_ticksMany_23 : decode cX10_ticksMany 23 = .ok (.ireturn, 1) := by decide +kernel
theorem dX10_run_0 : decode cX10_run 0 = .ok (.iload_n 1, 1) := by decide +kernel
theorem dX10_run_1 : decode cX10_run 1 = .ok (.i2l, 1) := by decide +kernel
theorem dX10_run_2 : decode cX10_run 2 = .ok (.lconst 1, 1) := by decide +kernel
theorem dX10_run_3 : decode cX10_run 3 = .ok (.ldc2_w 166, 3) := by decide +kernel
theorem dX10_run_6 : decode cX10_run 6 = .ok (.invokestatic 87, 3) := by decide +kernel
theorem dX10_run_9 : decode cX10_run 9 = .ok (.ifCond .eq 11, 3) := by decide +kernel
theorem dX10_run_12 : decode cX10_run 12 = .ok (.aload_n 0, 1) := by decide +kernel
theorem dX10_run_13 : decode cX10_run 13 = .ok (.iload_n 1, 1) := by decide +kernel
theorem dX10_run_14 : decode cX10_run 14 = .ok (.invokevirtual 168, 3) := by decide +kernel
theorem dX10_run_17 : decode cX10_run 17 = .ok (.goto 5, 3) := by decide +kernel
theorem dX10_run_20 : decode cX10_run 20 = .ok (.ldc 126, 2) := by decide +kernel
theorem dX10_run_22 : decode cX10_run 22 = .ok (.ireturn, 1) := by decide +kernel
theorem dX10_laysBy_0 : decode cX10_laysBy 0 = .ok (.iconst 0, 1) := by decide +kernel
theorem dX10_laysBy_1 : decode cX10_laysBy 1 = .ok (.istore_n 1, 1) := by decide +kernel
theorem dX10_laysBy_2 : decode cX10_laysBy 2 = .ok (.iload_n 1, 1) := by decide +kernel
theorem dX10_laysBy_3 : decode cX10_laysBy 3 = .ok (.bipush 122, 2) := by decide +kernel
theorem dX10_laysBy_5 : decode cX10_laysBy 5 = .ok (.if_icmp .ge 21, 3) := by decide +kernel
theorem dX10_laysBy_8 : decode cX10_laysBy 8 = .ok (.aload_n 0, 1) := by decide +kernel
theorem dX10_laysBy_9 : decode cX10_laysBy 9 = .ok (.getfield 46, 3) := by decide +kernel
theorem dX10_laysBy_12 : decode cX10_laysBy 12 = .ok (.iload_n 1, 1) := by decide +kernel
theorem dX10_laysBy_13 : decode cX10_laysBy 13 = .ok (.aload_n 0, 1) := by decide +kernel
theorem dX10_laysBy_14 : decode cX10_laysBy 14 = .ok (.getfield 7, 3) := by decide +kernel
theorem dX10_laysBy_17 : decode cX10_laysBy 17 = .ok (.iload_n 1, 1) := by decide +kernel
theorem dX10_laysBy_18 : decode cX10_laysBy 18 = .ok (.iaload, 1) := by decide +kernel
theorem dX10_laysBy_19 : decode cX10_laysBy 19 = .ok (.iastore, 1) := by decide +kernel
theorem dX10_laysBy_20 : decode cX10_laysBy 20 = .ok (.iinc 1 1, 3) := by decide +kernel
theorem dX10_laysBy_23 : decode cX10_laysBy 23 = .ok (.goto (-21), 3) := by decide +kernel
theorem dX10_laysBy_26 : decode cX10_laysBy 26 = .ok (.return_, 1) := by decide +kernel
theorem dX10_laysBack_0 : decode cX10_laysBack 0 = .ok (.iconst 0, 1) := by decide +kernel
theorem dX10_laysBack_1 : decode cX10_laysBack 1 = .ok (.istore_n 1, 1) := by decide +kernel
theorem dX10_laysBack_2 : decode cX10_laysBack 2 = .ok (.iload_n 1, 1) := by decide +kernel
theorem dX10_laysBack_3 : decode cX10_laysBack 3 = .ok (.bipush 122, 2) := by decide +kernel
theorem dX10_laysBack_5 : decode cX10_laysBack 5 = .ok (.if_icmp .ge 21, 3) := by decide +kernel
theorem dX10_laysBack_8 : decode cX10_laysBack 8 = .ok (.aload_n 0, 1) := by decide +kernel
theorem dX10_laysBack_9 : decode cX10_laysBack 9 = .ok (.getfield 7, 3) := by decide +kernel
theorem dX10_laysBack_12 : decode cX10_laysBack 12 = .ok (.iload_n 1, 1) := by decide +kernel
theorem dX10_laysBack_13 : decode cX10_laysBack 13 = .ok (.aload_n 0, 1) := by decide +kernel
theorem dX10_laysBack_14 : decode cX10_laysBack 14 = .ok (.getfield 46, 3) := by decide +kernel
theorem dX10_laysBack_17 : decode cX10_laysBack 17 = .ok (.iload_n 1, 1) := by decide +kernel
theorem dX10_laysBack_18 : decode cX10_laysBack 18 = .ok (.iaload, 1) := by decide +kernel
theorem dX10_laysBack_19 : decode cX10_laysBack 19 = .ok (.iastore, 1) := by decide +kernel
theorem dX10_laysBack_20 : decode cX10_laysBack 20 = .ok (.iinc 1 1, 3) := by decide +kernel
theorem dX10_laysBack_23 : decode cX10_laysBack 23 = .ok (.goto (-21), 3) := by decide +kernel
theorem dX10_laysBack_26 : decode cX10_laysBack 26 = .ok (.return_, 1) := by decide +kernel
theorem dX10_ahead_0 : decode cX10_ahead 0 = .ok (.iload_n 1, 1) := by decide +kernel
theorem dX10_ahead_1 : decode cX10_ahead 1 = .ok (.i2l, 1) := by decide +kernel
theorem dX10_ahead_2 : decode cX10_ahead 2 = .ok (.lconst 0, 1) := by decide +kernel
theorem dX10_ahead_3 : decode cX10_ahead 3 = .ok (.ldc2_w 166, 3) := by decide +kernel
theorem dX10_ahead_6 : decode cX10_ahead 6 = .ok (.invokestatic 87, 3) := by decide +kernel
theorem dX10_ahead_9 : decode cX10_ahead 9 = .ok (.ifCond .eq 15, 3) := by decide +kernel
theorem dX10_ahead_12 : decode cX10_ahead 12 = .ok (.iload_n 2, 1) := by decide +kernel
theorem dX10_ahead_13 : decode cX10_ahead 13 = .ok (.i2l, 1) := by decide +kernel
theorem dX10_ahead_14 : decode cX10_ahead 14 = .ok (.lconst 0, 1) := by decide +kernel
theorem dX10_ahead_15 : decode cX10_ahead 15 = .ok (.ldc2_w 171, 3) := by decide +kernel
theorem dX10_ahead_18 : decode cX10_ahead 18 = .ok (.invokestatic 87, 3) := by decide +kernel
theorem dX10_ahead_21 : decode cX10_ahead 21 = .ok (.ifCond .ne 6, 3) := by decide +kernel
theorem dX10_ahead_24 : decode cX10_ahead 24 = .ok (.ldc 126, 2) := by decide +kernel
theorem dX10_ahead_26 : decode cX10_ahead 26 = .ok (.ireturn, 1) := by decide +kernel
theorem dX10_ahead_27 : decode cX10_ahead 27 = .ok (.aload_n 0, 1) := by decide +kernel
theorem dX10_ahead_28 : decode cX10_ahead 28 = .ok (.invokevirtual 173, 3) := by decide +kernel
theorem dX10_ahead_31 : decode cX10_ahead 31 = .ok (.aload_n 0, 1) := by decide +kernel
theorem dX10_ahead_32 : decode cX10_ahead 32 = .ok (.iload_n 1, 1) := by decide +kernel
theorem dX10_ahead_33 : decode cX10_ahead 33 = .ok (.invokevirtual 168, 3) := by decide +kernel
theorem dX10_ahead_36 : decode cX10_ahead 36 = .ok (.istore_n 3, 1) := by decide +kernel
theorem dX10_ahead_37 : decode cX10_ahead 37 = .ok (.iconst 0, 1) := by decide +kernel
theorem dX10_ahead_38 : decode cX10_ahead 38 = .ok (.istore 4, 2) := by decide +kernel
theorem dX10_ahead_40 : decode cX10_ahead 40 = .ok (.iconst 1, 1) := by decide +kernel
theorem dX10_ahead_41 : decode cX10_ahead 41 = .ok (.istore 5, 2) := by decide +kernel
theorem dX10_ahead_43 : decode cX10_ahead 43 = .ok (.iload 5, 2) := by decide +kernel
theorem dX10_ahead_45 : decode cX10_ahead 45 = .ok (.bipush 30, 2) := by decide +kernel
theorem dX10_ahead_47 : decode cX10_ahead 47 = .ok (.if_icmp .ge 35, 3) := by decide +kernel
theorem dX10_ahead_50 : decode cX10_ahead 50 = .ok (.aload_n 0, 1) := by decide +kernel
theorem dX10_ahead_51 : decode cX10_ahead 51 = .ok (.iload 5, 2) := by decide +kernel
theorem dX10_ahead_53 : decode cX10_ahead 53 = .ok (.iconst 2, 1) := by decide +kernel
theorem dX10_ahead_54 : decode cX10_ahead 54 = .ok (.invokevirtual 92, 3) := by decide +kernel
theorem dX10_ahead_57 : decode cX10_ahead 57 = .ok (.aload_n 0, 1) := by decide +kernel
theorem dX10_ahead_58 : decode cX10_ahead 58 = .ok (.iload 4, 2) := by decide +kernel
theorem dX10_ahead_60 : decode cX10_ahead 60 = .ok (.iconst 2, 1) := by decide +kernel
theorem dX10_ahead_61 : decode cX10_ahead 61 = .ok (.invokevirtual 92, 3) := by decide +kernel
theorem dX10_ahead_64 : decode cX10_ahead 64 = .ok (.if_icmp .le 8, 3) := by decide +kernel
theorem dX10_ahead_67 : decode cX10_ahead 67 = .ok (.iload 5, 2) := by decide +kernel
theorem dX10_ahead_69 : decode cX10_ahead 69 = .ok (.goto 5, 3) := by decide +kernel
theorem dX10_ahead_72 : decode cX10_ahead 72 = .ok (.iload 4, 2) := by decide +kernel
theorem dX10_ahead_74 : decode cX10_ahead 74 = .ok (.istore 4, 2) := by decide +kernel
theorem dX10_ahead_76 : decode cX10_ahead 76 = .ok (.iinc 5 1, 3) := by decide +kernel
theorem dX10_ahead_79 : decode cX10_ahead 79 = .ok (.goto (-36), 3) := by decide +kernel
theorem dX10_ahead_82 : decode cX10_ahead 82 = .ok (.iload_n 2, 1) := by decide +kernel
theorem dX10_ahead_83 : decode cX10_ahead 83 = .ok (.ifCond .ne 10, 3) := by decide +kernel
theorem dX10_ahead_86 : decode cX10_ahead 86 = .ok (.aload_n 0, 1) := by decide +kernel
theorem dX10_ahead_87 : decode cX10_ahead 87 = .ok (.invokevirtual 157, 3) := by decide +kernel
theorem dX10_ahead_90 : decode cX10_ahead 90 = .ok (.goto 29, 3) := by decide +kernel
theorem dX10_ahead_93 : decode cX10_ahead 93 = .ok (.iload_n 2, 1) := by decide +kernel
theorem dX10_ahead_94 : decode cX10_ahead 94 = .ok (.iconst 1, 1) := by decide +kernel
theorem dX10_ahead_95 : decode cX10_ahead 95 = .ok (.if_icmp .ne 7, 3) := by decide +kernel
theorem dX10_ahead_98 : decode cX10_ahead 98 = .ok (.iload_n 3, 1) := by decide +kernel
theorem dX10_ahead_99 : decode cX10_ahead 99 = .ok (.goto 20, 3) := by decide +kernel
theorem dX10_ahead_102 : decode cX10_ahead 102 = .ok (.iload_n 2, 1) := by decide +kernel
theorem dX10_ahead_103 : decode cX10_ahead 103 = .ok (.iconst 2, 1) := by decide +kernel
theorem dX10_ahead_104 : decode cX10_ahead 104 = .ok (.if_icmp .ne 13, 3) := by decide +kernel
theorem dX10_ahead_107 : decode cX10_ahead 107 = .ok (.aload_n 0, 1) := by decide +kernel
theorem dX10_ahead_108 : decode cX10_ahead 108 = .ok (.iload 4, 2) := by decide +kernel
theorem dX10_ahead_110 : decode cX10_ahead 110 = .ok (.iconst 2, 1) := by decide +kernel
theorem dX10_ahead_111 : decode cX10_ahead 111 = .ok (.invokevirtual 92, 3) := by decide +kernel
theorem dX10_ahead_114 : decode cX10_ahead 114 = .ok (.goto 5, 3) := by decide +kernel
theorem dX10_ahead_117 : decode cX10_ahead 117 = .ok (.iload 4, 2) := by decide +kernel
theorem dX10_ahead_119 : decode cX10_ahead 119 = .ok (.istore 5, 2) := by decide +kernel
theorem dX10_ahead_121 : decode cX10_ahead 121 = .ok (.aload_n 0, 1) := by decide +kernel
theorem dX10_ahead_122 : decode cX10_ahead 122 = .ok (.invokevirtual 176, 3) := by decide +kernel
theorem dX10_ahead_125 : decode cX10_ahead 125 = .ok (.iload 5, 2) := by decide +kernel
theorem dX10_ahead_127 : decode cX10_ahead 127 = .ok (.ireturn, 1) := by decide +kernel
theorem dX10_calm_0 : decode cX10_calm 0 = .ok (.aload_n 0, 1) := by decide +kernel
theorem dX10_calm_1 : decode cX10_calm 1 = .ok (.invokevirtual 173, 3) := by decide +kernel
theorem dX10_calm_4 : decode cX10_calm 4 = .ok (.iconst 1, 1) := by decide +kernel
theorem dX10_calm_5 : decode cX10_calm 5 = .ok (.istore_n 1, 1) := by decide +kernel
theorem dX10_calm_6 : decode cX10_calm 6 = .ok (.iload_n 1, 1) := by decide +kernel
theorem dX10_calm_7 : decode cX10_calm 7 = .ok (.bipush 48, 2) := by decide +kernel
theorem dX10_calm_9 : decode cX10_calm 9 = .ok (.if_icmp .gt 16, 3) := by decide +kernel
theorem dX10_calm_12 : decode cX10_calm 12 = .ok (.aload_n 0, 1) := by decide +kernel
theorem dX10_calm_13 : decode cX10_calm 13 = .ok (.invokevirtual 163, 3) := by decide +kernel
theorem dX10_calm_16 : decode cX10_calm 16 = .ok (.ifCond .ne 9, 3) := by decide +kernel
theorem dX10_calm_19 : decode cX10_calm 19 = .ok (.iinc 1 1, 3) := by decide +kernel
theorem dX10_calm_22 : decode cX10_calm 22 = .ok (.goto (-16), 3) := by decide +kernel
theorem dX10_calm_25 : decode cX10_calm 25 = .ok (.aload_n 0, 1) := by decide +kernel
theorem dX10_calm_26 : decode cX10_calm 26 = .ok (.invokevirtual 176, 3) := by decide +kernel
theorem dX10_calm_29 : decode cX10_calm 29 = .ok (.iload_n 1, 1) := by decide +kernel
theorem dX10_calm_30 : decode cX10_calm 30 = .ok (.bipush 48, 2) := by decide +kernel
theorem dX10_calm_32 : decode cX10_calm 32 = .ok (.if_icmp .le 8, 3) := by decide +kernel
theorem dX10_calm_35 : decode cX10_calm 35 = .ok (.ldc 86, 2) := by decide +kernel
theorem dX10_calm_37 : decode cX10_calm 37 = .ok (.goto 4, 3) := by decide +kernel
theorem dX10_calm_40 : decode cX10_calm 40 = .ok (.iload_n 1, 1) := by decide +kernel
theorem dX10_calm_41 : decode cX10_calm 41 = .ok (.ireturn, 1) := by decide +kernel
theorem dX10_beside_0 : decode cX10_beside 0 = .ok (.iload_n 0, 1) := by decide +kernel
theorem dX10_beside_1 : decode cX10_beside 1 = .ok (.bipush 6, 2) := by decide +kernel
theorem dX10_beside_3 : decode cX10_beside 3 = .ok (.irem, 1) := by decide +kernel
theorem dX10_beside_4 : decode cX10_beside 4 = .ok (.istore_n 2, 1) := by decide +kernel
theorem dX10_beside_5 : decode cX10_beside 5 = .ok (.iload_n 1, 1) := by decide +kernel
theorem dX10_beside_6 : decode cX10_beside 6 = .ok (.ifCond .ne 10, 3) := by decide +kernel
theorem dX10_beside_9 : decode cX10_beside 9 = .ok (.iload_n 0, 1) := by decide +kernel
theorem dX10_beside_10 : decode cX10_beside 10 = .ok (.bipush 6, 2) := by decide +kernel
theorem dX10_beside_12 : decode cX10_beside 12 = .ok (.iadd, 1) := by decide +kernel
theorem dX10_beside_13 : decode cX10_beside 13 = .ok (.goto 46, 3) := by decide +kernel
theorem dX10_beside_16 : decode cX10_beside 16 = .ok (.iload_n 1, 1) := by decide +kernel
theorem dX10_beside_17 : decode cX10_beside 17 = .ok (.iconst 1, 1) := by decide +kernel
theorem dX10_beside_18 : decode cX10_beside 18 = .ok (.if_icmp .ne 18, 3) := by decide +kernel
theorem dX10_beside_21 : decode cX10_beside 21 = .ok (.iload_n 2, 1) := by decide +kernel
theorem dX10_beside_22 : decode cX10_beside 22 = .ok (.iconst 5, 1) := by decide +kernel
theorem dX10_beside_23 : decode cX10_beside 23 = .ok (.if_icmp .ne 7, 3) := by decide +kernel
theorem dX10_beside_26 : decode cX10_beside 26 = .ok (.iconst (-1), 1) := by decide +kernel
theorem dX10_beside_27 : decode cX10_beside 27 = .ok (.goto 32, 3) := by decide +kernel
theorem dX10_beside_30 : decode cX10_beside 30 = .ok (.iload_n 0, 1) := by decide +kernel
theorem dX10_beside_31 : decode cX10_beside 31 = .ok (.iconst 1, 1) := by decide +kernel
theorem dX10_beside_32 : decode cX10_beside 32 = .ok (.iadd, 1) := by decide +kernel
theorem dX10_beside_33 : decode cX10_beside 33 = .ok (.goto 26, 3) := by decide +kernel
theorem dX10_beside_36 : decode cX10_beside 36 = .ok (.iload_n 1, 1) := by decide +kernel
theorem dX10_beside_37 : decode cX10_beside 37 = .ok (.iconst 2, 1) := by decide +kernel
theorem dX10_beside_38 : decode cX10_beside 38 = .ok (.if_icmp .ne 10, 3) := by decide +kernel
theorem dX10_beside_41 : decode cX10_beside 41 = .ok (.iload_n 0, 1) := by decide +kernel
theorem dX10_beside_42 : decode cX10_beside 42 = .ok (.bipush 6, 2) := by decide +kernel
theorem dX10_beside_44 : decode cX10_beside 44 = .ok (.isub, 1) := by decide +kernel
theorem dX10_beside_45 : decode cX10_beside 45 = .ok (.goto 14, 3) := by decide +kernel
theorem dX10_beside_48 : decode cX10_beside 48 = .ok (.iload_n 2, 1) := by decide +kernel
theorem dX10_beside_49 : decode cX10_beside 49 = .ok (.ifCond .ne 7, 3) := by decide +kernel
theorem dX10_beside_52 : decode cX10_beside 52 = .ok (.iconst (-1), 1) := by decide +kernel
theorem dX10_beside_53 : decode cX10_beside 53 = .ok (.goto 6, 3) := by decide +kernel
theorem dX10_beside_56 : decode cX10_beside 56 = .ok (.iload_n 0, 1) := by decide +kernel
theorem dX10_beside_57 : decode cX10_beside 57 = .ok (.iconst 1, 1) := by decide +kernel
theorem dX10_beside_58 : decode cX10_beside 58 = .ok (.isub, 1) := by decide +kernel
theorem dX10_beside_59 : decode cX10_beside 59 = .ok (.istore_n 3, 1) := by decide +kernel
theorem dX10_beside_60 : decode cX10_beside 60 = .ok (.iload_n 3, 1) := by decide +kernel
theorem dX10_beside_61 : decode cX10_beside 61 = .ok (.invokestatic 116, 3) := by decide +kernel
theorem dX10_beside_64 : decode cX10_beside 64 = .ok (.ifCond .eq 7, 3) := by decide +kernel
theorem dX10_beside_67 : decode cX10_beside 67 = .ok (.iload_n 3, 1) := by decide +kernel
theorem dX10_beside_68 : decode cX10_beside 68 = .ok (.goto 4, 3) := by decide +kernel
theorem dX10_beside_71 : decode cX10_beside 71 = .ok (.iconst (-1), 1) := by decide +kernel
theorem dX10_beside_72 : decode cX10_beside 72 = .ok (.ireturn, 1) := by decide +kernel
theorem dX10_isBeside_0 : decode cX10_isBeside 0 = .ok (.iconst 0, 1) := by decide +kernel
theorem dX10_isBeside_1 : decode cX10_isBeside 1 = .ok (.istore_n 2, 1) := by decide +kernel
theorem dX10_isBeside_2 : decode cX10_isBeside 2 = .ok (.iconst 0, 1) := by decide +kernel
theorem dX10_isBeside_3 : decode cX10_isBeside 3 = .ok (.istore_n 3, 1) := by decide +kernel
theorem dX10_isBeside_4 : decode cX10_isBeside 4 = .ok (.iload_n 3, 1) := by decide +kernel
theorem dX10_isBeside_5 : decode cX10_isBeside 5 = .ok (.iconst 4, 1) := by decide +kernel
theorem dX10_isBeside_6 : decode cX10_isBeside 6 = .ok (.if_icmp .ge 28, 3) := by decide +kernel
theorem dX10_isBeside_9 : decode cX10_isBeside 9 = .ok (.iload_n 2, 1) := by decide +kernel
theorem dX10_isBeside_10 : decode cX10_isBeside 10 = .ok (.ifCond .ne 12, 3) := by decide +kernel
theorem dX10_isBeside_13 : decode cX10_isBeside 13 = .ok (.iload_n 0, 1) := by decide +kernel
theorem dX10_isBeside_14 : decode cX10_isBeside 14 = .ok (.iload_n 3, 1) := by decide +kernel
theorem dX10_isBeside_15 : decode cX10_isBeside 15 = .ok (.invokestatic 179, 3) := by decide +kernel
theorem dX10_isBeside_18 : decode cX10_isBeside 18 = .ok (.iload_n 1, 1) := by decide +kernel
theorem dX10_isBeside_19 : decode cX10_isBeside 19 = .ok (.if_icmp .ne 7, 3) := by decide +kernel
theorem dX10_isBeside_22 : decode cX10_isBeside 22 = .ok (.iconst 1, 1) := by decide +kernel
theorem dX10_isBeside_23 : decode cX10_isBeside 23 = .ok (.goto 4, 3) := by decide +kernel
theorem dX10_isBeside_26 : decode cX10_isBeside 26 = .ok (.iconst 0, 1) := by decide +kernel
theorem dX10_isBeside_27 : decode cX10_isBeside 27 = .ok (.istore_n 2, 1) := by decide +kernel
theorem dX10_isBeside_28 : decode cX10_isBeside 28 = .ok (.iinc 3 1, 3) := by decide +kernel
theorem dX10_isBeside_31 : decode cX10_isBeside 31 = .ok (.goto (-27), 3) := by decide +kernel
theorem dX10_isBeside_34 : decode cX10_isBeside 34 = .ok (.iload_n 2, 1) := by decide +kernel
theorem dX10_isBeside_35 : decode cX10_isBeside 35 = .ok (.ireturn, 1) := by decide +kernel
theorem dX10_trackAt_0 : decode cX10_trackAt 0 = .ok (.aload_n 0, 1) := by decide +kernel
theorem dX10_trackAt_1 : decode cX10_trackAt 1 = .ok (.getfield 7, 3) := by decide +kernel
theorem dX10_trackAt_4 : decode cX10_trackAt 4 = .ok (.bipush 98, 2) := by decide +kernel
theorem dX10_trackAt_6 : decode cX10_trackAt 6 = .ok (.iload_n 1, 1) := by decide +kernel
theorem dX10_trackAt_7 : decode cX10_trackAt 7 = .ok (.iadd, 1) := by decide +kernel
theorem dX10_trackAt_8 : decode cX10_trackAt 8 = .ok (.iaload, 1) := by decide +kernel
theorem dX10_trackAt_9 : decode cX10_trackAt 9 = .ok (.ireturn, 1) := by decide +kernel
theorem dX10_track_0 : decode cX10_track 0 = .ok (.iload_n 1, 1) := by decide +kernel
theorem dX10_track_1 : decode cX10_track 1 = .ok (.invokestatic 116, 3) := by decide +kernel
theorem dX10_track_4 : decode cX10_track 4 = .ok (.ifCond .ne 6, 3) := by decide +kernel
theorem dX10_track_7 : decode cX10_track 7 = .ok (.ldc 126, 2) := by decide +kernel
theorem dX10_track_9 : decode cX10_track 9 = .ok (.ireturn, 1) := by decide +kernel
theorem dX10_track_10 : decode cX10_track 10 = .ok (.aload_n 0, 1) := by decide +kernel
theorem dX10_track_11 : decode cX10_track 11 = .ok (.getfield 7, 3) := by decide +kernel
theorem dX10_track_14 : decode cX10_track 14 = .ok (.iconst 0, 1) := by decide +kernel
theorem dX10_track_15 : decode cX10_track 15 = .ok (.iaload, 1) := by decide +kernel
theorem dX10_track_16 : decode cX10_track 16 = .ok (.istore_n 2, 1) := by decide +kernel
theorem dX10_track_17 : decode cX10_track 17 = .ok (.iload_n 2, 1) := by decide +kernel
theorem dX10_track_18 : decode cX10_track 18 = .ok (.ifCond .le 20, 3) := by decide +kernel
theorem dX10_track_21 : decode cX10_track 21 = .ok (.aload_n 0, 1) := by decide +kernel
theorem dX10_track_22 : decode cX10_track 22 = .ok (.iload_n 2, 1) := by decide +kernel
theorem dX10_track_23 : decode cX10_track 23 = .ok (.iconst 1, 1) := by decide +kernel
theorem dX10_track_24 : decode cX10_track 24 = .ok (.isub, 1) := by decide +kernel
theorem dX10_track_25 : decode cX10_track 25 = .ok (.invokevirtual 182, 3) := by decide +kernel
theorem dX10_track_28 : decode cX10_track 28 = .ok (.iload_n 1, 1) := by decide +kernel
theorem dX10_track_29 : decode cX10_track 29 = .ok (.invokestatic 185, 3) := by decide +kernel
theorem dX10_track_32 : decode cX10_track 32 = .ok (.ifCond .ne 6, 3) := by decide +kernel
theorem dX10_track_35 : decode cX10_track 35 = .ok (.ldc 188, 2) := by decide +kernel
theorem dX10_track_37 : decode cX10_track 37 = .ok (.ireturn, 1) := by decide +kernel
theorem dX10_track_38 : decode cX10_track 38 = .ok (.iload_n 2, 1) := by decide +kernel
theorem dX10_track_39 : decode cX10_track 39 = .ok (.bipush 24, 2) := by decide +kernel
theorem dX10_track_41 : decode cX10_track 41 = .ok (.if_icmp .ne 6, 3) := by decide +kernel
theorem dX10_track_44 : decode cX10_track 44 = .ok (.ldc 189, 2) := by decide +kernel
theorem dX10_track_46 : decode cX10_track 46 = .ok (.ireturn, 1) := by decide +kernel
theorem dX10_track_47 : decode cX10_track 47 = .ok (.aload_n 0, 1) := by decide +kernel
theorem dX10_track_48 : decode cX10_track 48 = .ok (.getfield 7, 3) := by decide +kernel
theorem dX10_track_51 : decode cX10_track 51 = .ok (.bipush 98, 2) := by decide +kernel
theorem dX10_track_53 : decode cX10_track 53 = .ok (.iload_n 2, 1) := by decide +kernel
theorem dX10_track_54 : decode cX10_track 54 = .ok (.iadd, 1) := by decide +kernel
theorem dX10_track_55 : decode cX10_track 55 = .ok (.iload_n 1, 1) := by decide +kernel
theorem dX10_track_56 : decode cX10_track 56 = .ok (.iastore, 1) := by decide +kernel
theorem dX10_track_57 : decode cX10_track 57 = .ok (.aload_n 0, 1) := by decide +kernel
theorem dX10_track_58 : decode cX10_track 58 = .ok (.getfield 7, 3) := by decide +kernel
theorem dX10_track_61 : decode cX10_track 61 = .ok (.iconst 0, 1) := by decide +kernel
theorem dX10_track_62 : decode cX10_track 62 = .ok (.dup2, 1) := by decide +kernel
theorem dX10_track_63 : decode cX10_track 63 = .ok (.iaload, 1) := by decide +kernel
theorem dX10_track_64 : decode cX10_track 64 = .ok (.iconst 1, 1) := by decide +kernel
theorem dX10_track_65 : decode cX10_track 65 = .ok (.iadd, 1) := by decide +kernel
theorem dX10_track_66 : decode cX10_track 66 = .ok (.iastore, 1) := by decide +kernel
theorem dX10_track_67 : decode cX10_track 67 = .ok (.aload_n 0, 1) := by decide +kernel
theorem dX10_track_68 : decode cX10_track 68 = .ok (.getfield 7, 3) := by decide +kernel
theorem dX10_track_71 : decode cX10_track 71 = .ok (.iconst 0, 1) := by decide +kernel
theorem dX10_track_72 : decode cX10_track 72 = .ok (.iaload, 1) := by decide +kernel
theorem dX10_track_73 : decode cX10_track 73 = .ok (.ireturn, 1) := by decide +kernel
theorem dX10_wipe_0 : decode cX10_wipe 0 = .ok (.aload_n 0, 1) := by decide +kernel
theorem dX10_wipe_1 : decode cX10_wipe 1 = .ok (.iconst 0, 1) := by decide +kernel
theorem dX10_wipe_2 : decode cX10_wipe 2 = .ok (.iconst 0, 1) := by decide +kernel
theorem dX10_wipe_3 : decode cX10_wipe 3 = .ok (.invokevirtual 145, 3) := by decide +kernel
theorem dX10_wipe_6 : decode cX10_wipe 6 = .ok (.ireturn, 1) := by decide +kernel
theorem dX10_at_0 : decode cX10_at 0 = .ok (.iload_n 1, 1) := by decide +kernel
theorem dX10_at_1 : decode cX10_at 1 = .ok (.ifCond .ge 8, 3) := by decide +kernel
theorem dX10_at_4 : decode cX10_at 4 = .ok (.ldc 126, 2) := by decide +kernel
theorem dX10_at_6 : decode cX10_at 6 = .ok (.goto 23, 3) := by decide +kernel
theorem dX10_at_9 : decode cX10_at 9 = .ok (.iload_n 1, 1) := by decide +kernel
theorem dX10_at_10 : decode cX10_at 10 = .ok (.aload_n 0, 1) := by decide +kernel
theorem dX10_at_11 : decode cX10_at 11 = .ok (.getfield 7, 3) := by decide +kernel
theorem dX10_at_14 : decode cX10_at 14 = .ok (.iconst 0, 1) := by decide +kernel
theorem dX10_at_15 : decode cX10_at 15 = .ok (.iaload, 1) := by decide +kernel
theorem dX10_at_16 : decode cX10_at 16 = .ok (.if_icmp .ge 11, 3) := by decide +kernel
theorem dX10_at_19 : decode cX10_at 19 = .ok (.aload_n 0, 1) := by decide +kernel
theorem dX10_at_20 : decode cX10_at 20 = .ok (.iload_n 1, 1) := by decide +kernel
theorem dX10_at_21 : decode cX10_at 21 = .ok (.invokevirtual 182, 3) := by decide +kernel
theorem dX10_at_24 : decode cX10_at 24 = .ok (.goto 5, 3) := by decide +kernel
theorem dX10_at_27 : decode cX10_at 27 = .ok (.ldc 86, 2) := by decide +kernel
theorem dX10_at_29 : decode cX10_at 29 = .ok (.ireturn, 1) := by decide +kernel
theorem dX10_stepInto_0 : decode cX10_stepInto 0 = .ok (.aload_n 0, 1) := by decide +kernel
theorem dX10_stepInto_1 : decode cX10_stepInto 1 = .ok (.iload_n 2, 1) := by decide +kernel
theorem dX10_stepInto_2 : decode cX10_stepInto 2 = .ok (.iconst 1, 1) := by decide +kernel
theorem dX10_stepInto_3 : decode cX10_stepInto 3 = .ok (.invokevirtual 92, 3) := by decide +kernel
theorem dX10_stepInto_6 : decode cX10_stepInto 6 = .ok (.istore_n 3, 1) := by decide +kernel
theorem dX10_stepInto_7 : decode cX10_stepInto 7 = .ok (.iload_n 2, 1) := by decide +kernel
theorem dX10_stepInto_8 : decode cX10_stepInto 8 = .ok (.bipush 6, 2) := by decide +kernel
theorem dX10_stepInto_10 : decode cX10_stepInto 10 = .ok (.idiv, 1) := by decide +kernel
theorem dX10_stepInto_11 : decode cX10_stepInto 11 = .ok (.iload_n 1, 1) := by decide +kernel
theorem dX10_stepInto_12 : decode cX10_stepInto 12 = .ok (.bipush 6, 2) := by decide +kernel
theorem dX10_stepInto_14 : decode cX10_stepInto 14 = .ok (.idiv, 1) := by decide +kernel
theorem dX10_stepInto_15 : decode cX10_stepInto 15 = .ok (.if_icmp .le 7, 3) := by decide +kernel
theorem dX10_stepInto_18 : decode cX10_stepInto 18 = .ok (.iconst 1, 1) := by decide +kernel
theorem dX10_stepInto_19 : decode cX10_stepInto 19 = .ok (.goto 4, 3) := by decide +kernel
theorem dX10_stepInto_22 : decode cX10_stepInto 22 = .ok (.iconst 0, 1) := by decide +kernel
theorem dX10_stepInto_23 : decode cX10_stepInto 23 = .ok (.istore 4, 2) := by decide +kernel
theorem dX10_stepInto_25 : decode cX10_stepInto 25 = .ok (.aload_n 0, 1) := by decide +kernel
theorem dX10_stepInto_26 : decode cX10_stepInto 26 = .ok (.iconst 2, 1) := by decide +kernel
theorem dX10_stepInto_27 : decode cX10_stepInto 27 = .ok (.invokevirtual 96, 3) := by decide +kernel
theorem dX10_stepInto_30 : decode cX10_stepInto 30 = .ok (.istore 5, 2) := by decide +kernel
theorem dX10_stepInto_32 : decode cX10_stepInto 32 = .ok (.iload 5, 2) := by decide +kernel
theorem dX10_stepInto_34 : decode cX10_stepInto 34 = .ok (.ifCond .ge 21, 3) := by decide +kernel
theorem dX10_stepInto_37 : decode cX10_stepInto 37 = .ok (.iconst 1, 1) := by decide +kernel
theorem dX10_stepInto_38 : decode cX10_stepInto 38 = .ok (.iload_n 3, 1) := by decide +kernel
theorem dX10_stepInto_39 : decode cX10_stepInto 39 = .ok (.bipush 10, 2) := by decide +kernel
theorem dX10_stepInto_41 : decode cX10_stepInto 41 = .ok (.idiv, 1) := by decide +kernel
theorem dX10_stepInto_42 : decode cX10_stepInto 42 = .ok (.iadd, 1) := by decide +kernel
theorem dX10_stepInto_43 : decode cX10_stepInto 43 = .ok (.iload 4, 2) := by decide +kernel
theorem dX10_stepInto_45 : decode cX10_stepInto 45 = .ok (.ifCond .eq 7, 3) := by decide +kernel
theorem dX10_stepInto_48 : decode cX10_stepInto 48 = .ok (.iconst 2, 1) := by decide +kernel
theorem dX10_stepInto_49 : decode cX10_stepInto 49 = .ok (.goto 4, 3) := by decide +kernel
theorem dX10_stepInto_52 : decode cX10_stepInto 52 = .ok (.iconst 0, 1) := by decide +kernel
theorem dX10_stepInto_53 : decode cX10_stepInto 53 = .ok (.iadd, 1) := by decide +kernel
theorem dX10_stepInto_54 : decode cX10_stepInto 54 = .ok (.ireturn, 1) := by decide +kernel
theorem dX10_stepInto_55 : decode cX10_stepInto 55 = .ok (.aload_n 0, 1) := by decide +kernel
theorem dX10_stepInto_56 : decode cX10_stepInto 56 = .ok (.getfield 71, 3) := by decide +kernel
theorem dX10_stepInto_59 : decode cX10_stepInto 59 = .ok (.bipush 115, 2) := by decide +kernel
theorem dX10_stepInto_61 : decode cX10_stepInto 61 = .ok (.iload_n 3, 1) := by decide +kernel
theorem dX10_stepInto_62 : decode cX10_stepInto 62 = .ok (.iastore, 1) := by decide +kernel
theorem dX10_stepInto_63 : decode cX10_stepInto 63 = .ok (.aload_n 0, 1) := by decide +kernel
theorem dX10_stepInto_64 : decode cX10_stepInto 64 = .ok (.getfield 71, 3) := by decide +kernel
theorem dX10_stepInto_67 : decode cX10_stepInto 67 = .ok (.bipush 117, 2) := by decide +kernel
theorem dX10_stepInto_69 : decode cX10_stepInto 69 = .ok (.iload 4, 2) := by decide +kernel
theorem dX10_stepInto_71 : decode cX10_stepInto 71 = .ok (.ifCond .eq 7, 3) := by decide +kernel
theorem dX10_stepInto_74 : decode cX10_stepInto 74 = .ok (.iconst 1, 1) := by decide +kernel
theorem dX10_stepInto_75 : decode cX10_stepInto 75 = .ok (.goto 4, 3) := by decide +kernel
theorem dX10_stepInto_78 : decode cX10_stepInto 78 = .ok (.iconst 0, 1) := by decide +kernel
theorem dX10_stepInto_79 : decode cX10_stepInto 79 = .ok (.iastore, 1) := by decide +kernel
theorem dX10_stepInto_80 : decode cX10_stepInto 80 = .ok (.aload_n 0, 1) := by decide +kernel
theorem dX10_stepInto_81 : decode cX10_stepInto 81 = .ok (.iload 5, 2) := by decide +kernel
theorem dX10_stepInto_83 : decode cX10_stepInto 83 = .ok (.invokevirtual 100, 3) := by decide +kernel
theorem dX10_stepInto_86 : decode cX10_stepInto 86 = .ok (.bipush 99, 2) := by decide +kernel
theorem dX10_stepInto_88 : decode cX10_stepInto 88 = .ok (.invokestatic 103, 3) := by decide +kernel
theorem dX10_stepInto_91 : decode cX10_stepInto 91 = .ok (.ireturn, 1) := by decide +kernel
theorem dX10_along_0 : decode cX10_along 0 = .ok (.iload_n 1, 1) := by decide +kernel
theorem dX10_along_1 : decode cX10_along 1 = .ok (.i2l, 1) := by decide +kernel
theorem dX10_along_2 : decode cX10_along 2 = .ok (.lconst 0, 1) := by decide +kernel
theorem dX10_along_3 : decode cX10_along 3 = .ok (.ldc2_w 190, 3) := by decide +kernel
theorem dX10_along_6 : decode cX10_along 6 = .ok (.invokestatic 87, 3) := by decide +kernel
theorem dX10_along_9 : decode cX10_along 9 = .ok (.ifCond .ne 6, 3) := by decide +kernel
theorem dX10_along_12 : decode cX10_along 12 = .ok (.ldc 126, 2) := by decide +kernel
theorem dX10_along_14 : decode cX10_along 14 = .ok (.ireturn, 1) := by decide +kernel
theorem dX10_along_15 : decode cX10_along 15 = .ok (.aload_n 0, 1) := by decide +kernel
theorem dX10_along_16 : decode cX10_along 16 = .ok (.getfield 7, 3) := by decide +kernel
theorem dX10_along_19 : decode cX10_along 19 = .ok (.iconst 0, 1) := by decide +kernel
theorem dX10_along_20 : decode cX10_along 20 = .ok (.iaload, 1) := by decide +kernel
theorem dX10_along_21 : decode cX10_along 21 = .ok (.ifCond .ne 6, 3) := by decide +kernel
theorem dX10_along_24 : decode cX10_along 24 = .ok (.ldc 86, 2) := by decide +kernel
theorem dX10_along_26 : decode cX10_along 26 = .ok (.ireturn, 1) := by decide +kernel
theorem dX10_along_27 : decode cX10_along 27 = .ok (.iconst 0, 1) := by decide +kernel
theorem dX10_along_28 : decode cX10_along 28 = .ok (.istore_n 2, 1) := by decide +kernel
theorem dX10_along_29 : decode cX10_along 29 = .ok (.iconst 0, 1) := by decide +kernel
theorem dX10_along_30 : decode cX10_along 30 = .ok (.istore_n 3, 1) := by decide +kernel
theorem dX10_along_31 : decode cX10_along 31 = .ok (.iconst 0, 1) := by decide +kernel
theorem dX10_along_32 : decode cX10_along 32 = .ok (.istore 4, 2) := by decide +kernel
theorem dX10_along_34 : decode cX10_along 34 = .ok (.aload_n 0, 1) := by decide +kernel
theorem dX10_along_35 : decode cX10_along 35 = .ok (.aload_n 0, 1) := by decide +kernel
theorem dX10_along_36 : decode cX10_along 36 = .ok (.iconst 0, 1) := by decide +kernel
theorem dX10_along_37 : decode cX10_along 37 = .ok (.invokevirtual 182, 3) := by decide +kernel
theorem dX10_along_40 : decode cX10_along 40 = .ok (.iconst 1, 1) := by decide +kernel
theorem dX10_along_41 : decode cX10_along 41 = .ok (.invokevirtual 92, 3) := by decide +kernel
theorem dX10_along_44 : decode cX10_along 44 = .ok (.istore 5, 2) := by decide +kernel
theorem dX10_along_46 : decode cX10_along 46 = .ok (.aload_n 0, 1) := by decide +kernel
theorem dX10_along_47 : decode cX10_along 47 = .ok (.aload_n 0, 1) := by decide +kernel
theorem dX10_along_48 : decode cX10_along 48 = .ok (.iconst 0, 1) := by decide +kernel
theorem dX10_along_49 : decode cX10_along 49 = .ok (.invokevirtual 182, 3) := by decide +kernel
theorem dX10_along_52 : decode cX10_along 52 = .ok (.invokevirtual 131, 3) := by decide +kernel
theorem dX10_along_55 : decode cX10_along 55 = .ok (.istore 6, 2) := by decide +kernel
theorem dX10_along_57 : decode cX10_along 57 = .ok (.iconst 1, 1) := by decide +kernel
theorem dX10_along_58 : decode cX10_along 58 = .ok (.istore 7, 2) := by decide +kernel
theorem dX10_along_60 : decode cX10_along 60 = .ok (.iload 7, 2) := by decide +kernel
theorem dX10_along_62 : decode cX10_along 62 = .ok (.aload_n 0, 1) := by decide +kernel
theorem dX10_along_63 : decode cX10_along 63 = .ok (.getfield 7, 3) := by decide +kernel
theorem dX10_along_66 : decode cX10_along 66 = .ok (.iconst 0, 1) := by decide +kernel
theorem dX10_along_67 : decode cX10_along 67 = .ok (.iaload, 1) := by decide +kernel
theorem dX10_along_68 : decode cX10_along 68 = .ok (.if_icmp .ge 136, 3) := by decide +kernel
theorem dX10_along_71 : decode cX10_along 71 = .ok (.aload_n 0, 1) := by decide +kernel
theorem dX10_along_72 : decode cX10_along 72 = .ok (.iload 7, 2) := by decide +kernel
theorem dX10_along_74 : decode cX10_along 74 = .ok (.invokevirtual 182, 3) := by decide +kernel
theorem dX10_along_77 : decode cX10_along 77 = .ok (.istore 8, 2) := by decide +kernel
theorem dX10_along_79 : decode cX10_along 79 = .ok (.aload_n 0, 1) := by decide +kernel
theorem dX10_along_80 : decode cX10_along 80 = .ok (.iload 8, 2) := by decide +kernel
theorem dX10_along_82 : decode cX10_along 82 = .ok (.invokevirtual 131, 3) := by decide +kernel
theorem dX10_along_85 : decode cX10_along 85 = .ok (.istore 9, 2) := by decide +kernel
theorem dX10_along_87 : decode cX10_along 87 = .ok (.iload_n 2, 1) := by decide +kernel
theorem dX10_along_88 : decode cX10_along 88 = .ok (.iload 9, 2) := by decide +kernel
theorem dX10_along_90 : decode cX10_along 90 = .ok (.iadd, 1) := by decide +kernel
theorem dX10_along_91 : decode cX10_along 91 = .ok (.istore_n 2, 1) := by decide +kernel
theorem dX10_along_92 : decode cX10_along 92 = .ok (.iload_n 3, 1) := by decide +kernel
theorem dX10_along_93 : decode cX10_along 93 = .ok (.aload_n 0, 1) := by decide +kernel
theorem dX10_along_94 : decode cX10_along 94 = .ok (.aload_n 0, 1) := by decide +kernel
theorem dX10_along_95 : decode cX10_along 95 = .ok (.iload 7, 2) := by decide +kernel
theorem dX10_along_97 : decode cX10_along 97 = .ok (.iconst 1, 1) := by decide +kernel
theorem dX10_along_98 : decode cX10_along 98 = .ok (.isub, 1) := by decide +kernel
theorem dX10_along_99 : decode cX10_along 99 = .ok (.invokevirtual 182, 3) := by decide +kernel
theorem dX10_along_102 : decode cX10_along 102 = .ok (.iload 8, 2) := by decide +kernel
theorem dX10_along_104 : decode cX10_along 104 = .ok (.invokevirtual 192, 3) := by decide +kernel
theorem dX10_along_107 : decode cX10_along 107 = .ok (.iadd, 1) := by decide +kernel
theorem dX10_along_108 : decode cX10_along 108 = .ok (.istore_n 3, 1) := by decide +kernel
theorem dX10_along_109 : decode cX10_along 109 = .ok (.iload 4, 2) := by decide +kernel
theorem dX10_along_111 : decode cX10_along 111 = .ok (.iload 7, 2) := by decide +kernel
theorem dX10_along_113 : decode cX10_along 113 = .ok (.iconst 1, 1) := by decide +kernel
theorem dX10_along_114 : decode cX10_along 114 = .ok (.if_icmp .le 38, 3) := by decide +kernel
theorem dX10_along_117 : decode cX10_along 117 = .ok (.iload 8, 2) := by decide +kernel
theorem dX10_along_119 : decode cX10_along 119 = .ok (.aload_n 0, 1) := by decide +kernel
theorem dX10_along_120 : decode cX10_along 120 = .ok (.iload 7, 2) := by decide +kernel
theorem dX10_along_122 : decode cX10_along 122 = .ok (.iconst 1, 1) := by decide +kernel
theorem dX10_along_123 : decode cX10_along 123 = .ok (.isub, 1) := by decide +kernel
theorem dX10_along_124 : decode cX10_along 124 = .ok (.invokevirtual 182, 3) := by decide +kernel
theorem dX10_along_127 : decode cX10_along 127 = .ok (.isub, 1) := by decide +kernel
theorem dX10_along_128 : decode cX10_along 128 = .ok (.aload_n 0, 1) := by decide +kernel
theorem dX10_along_129 : decode cX10_along 129 = .ok (.iload 7, 2) := by decide +kernel
theorem dX10_along_131 : decode cX10_along 131 = .ok (.iconst 1, 1) := by decide +kernel
theorem dX10_along_132 : decode cX10_along 132 = .ok (.isub, 1) := by decide +kernel
theorem dX10_along_133 : decode cX10_along 133 = .ok (.invokevirtual 182, 3) := by decide +kernel
theorem dX10_along_136 : decode cX10_along 136 = .ok (.aload_n 0, 1) := by decide +kernel
theorem dX10_along_137 : decode cX10_along 137 = .ok (.iload 7, 2) := by decide +kernel
theorem dX10_along_139 : decode cX10_along 139 = .ok (.iconst 2, 1) := by decide +kernel
theorem dX10_along_140 : decode cX10_along 140 = .ok (.isub, 1) := by decide +kernel
theorem dX10_along_141 : decode cX10_along 141 = .ok (.invokevirtual 182, 3) := by decide +kernel
theorem dX10_along_144 : decode cX10_along 144 = .ok (.isub, 1) := by decide +kernel
theorem dX10_along_145 : decode cX10_along 145 = .ok (.if_icmp .eq 7, 3) := by decide +kernel
theorem dX10_along_148 : decode cX10_along 148 = .ok (.iconst 1, 1) := by decide +kernel
theorem dX10_along_149 : decode cX10_along 149 = .ok (.goto 4, 3) := by decide +kernel
theorem dX10_along_152 : decode cX10_along 152 = .ok (.iconst 0, 1) := by decide +kernel
theorem dX10_along_153 : decode cX10_along 153 = .ok (.iadd, 1) := by decide +kernel
theorem dX10_along_154 : decode cX10_along 154 = .ok (.istore 4, 2) := by decide +kernel
theorem dX10_along_156 : decode cX10_along 156 = .ok (.aload_n 0, 1) := by decide +kernel
theorem dX10_along_157 : decode cX10_along 157 = .ok (.iload 8, 2) := by decide +kernel
theorem dX10_along_159 : decode cX10_along 159 = .ok (.iconst 1, 1) := by decide +kernel
theorem dX10_along_160 : decode cX10_along 160 = .ok (.invokevirtual 92, 3) := by decide +kernel
theorem dX10_along_163 : decode cX10_along 163 = .ok (.iload 5, 2) := by decide +kernel
theorem dX10_along_165 : decode cX10_along 165 = .ok (.if_icmp .le 13, 3) := by decide +kernel
theorem dX10_along_168 : decode cX10_along 168 = .ok (.aload_n 0, 1) := by decide +kernel
theorem dX10_along_169 : decode cX10_along 169 = .ok (.iload 8, 2) := by decide +kernel
theorem dX10_along_171 : decode cX10_along 171 = .ok (.iconst 1, 1) := by decide +kernel
theorem dX10_along_172 : decode cX10_along 172 = .ok (.invokevirtual 92, 3) := by decide +kernel
theorem dX10_along_175 : decode cX10_along 175 = .ok (.goto 5, 3) := by decide +kernel
theorem dX10_along_178 : decode cX10_along 178 = .ok (.iload 5, 2) := by decide +kernel
theorem dX10_along_180 : decode cX10_along 180 = .ok (.istore 5, 2) := by decide +kernel
theorem dX10_along_182 : decode cX10_along 182 = .ok (.iload 9, 2) := by decide +kernel
theorem dX10_along_184 : decode cX10_along 184 = .ok (.iload 6, 2) := by decide +kernel
theorem dX10_along_186 : decode cX10_along 186 = .ok (.if_icmp .le 8, 3) := by decide +kernel
theorem dX10_along_189 : decode cX10_along 189 = .ok (.iload 9, 2) := by decide +kernel
theorem dX10_along_191 : decode cX10_along 191 = .ok (.goto 5, 3) := by decide +kernel
theorem dX10_along_194 : decode cX10_along 194 = .ok (.iload 6, 2) := by decide +kernel
theorem dX10_along_196 : decode cX10_along 196 = .ok (.istore 6, 2) := by decide +kernel
theorem dX10_along_198 : decode cX10_along 198 = .ok (.iinc 7 1, 3) := by decide +kernel
theorem dX10_along_201 : decode cX10_along 201 = .ok (.goto (-141), 3) := by decide +kernel
theorem dX10_along_204 : decode cX10_along 204 = .ok (.iload_n 1, 1) := by decide +kernel
theorem dX10_along_205 : decode cX10_along 205 = .ok (.tableswitch 41 0 3 #[31, 33, 35, 38], 31) := by decide +kernel
theorem dX10_along_236 : decode cX10_along 236 = .ok (.iload_n 2, 1) := by decide +kernel
theorem dX10_along_237 : decode cX10_along 237 = .ok (.ireturn, 1) := by decide +kernel
theorem dX10_along_238 : decode cX10_along 238 = .ok (.iload_n 3, 1) := by decide +kernel
theorem dX10_along_239 : decode cX10_along 239 = .ok (.ireturn, 1) := by decide +kernel
theorem dX10_along_240 : decode cX10_along 240 = .ok (.iload 4, 2) := by decide +kernel
theorem dX10_along_242 : decode cX10_along 242 = .ok (.ireturn, 1) := by decide +kernel
theorem dX10_along_243 : decode cX10_along 243 = .ok (.iload 5, 2) := by decide +kernel
theorem dX10_along_245 : decode cX10_along 245 = .ok (.ireturn, 1) := by decide +kernel
theorem dX10_along_246 : decode cX10_along 246 = .ok (.iload 6, 2) := by decide +kernel
theorem dX10_along_248 : decode cX10_along 248 = .ok (.ireturn, 1) := by decide +kernel
theorem dX10_isBound_0 : decode cX10_isBound 0 = .ok (.iload_n 0, 1) := by decide +kernel
theorem dX10_isBound_1 : decode cX10_isBound 1 = .ok (.i2l, 1) := by decide +kernel
theorem dX10_isBound_2 : decode cX10_isBound 2 = .ok (.lconst 0, 1) := by decide +kernel
theorem dX10_isBound_3 : decode cX10_isBound 3 = .ok (.ldc2_w 195, 3) := by decide +kernel
theorem dX10_isBound_6 : decode cX10_isBound 6 = .ok (.invokestatic 87, 3) := by decide +kernel
theorem dX10_isBound_9 : decode cX10_isBound 9 = .ok (.ireturn, 1) := by decide +kernel
theorem dX10_turnBack_0 : decode cX10_turnBack 0 = .ok (.iload_n 1, 1) := by decide +kernel
theorem dX10_turnBack_1 : decode cX10_turnBack 1 = .ok (.invokestatic 197, 3) := by decide +kernel
theorem dX10_turnBack_4 : decode cX10_turnBack 4 = .ok (.ifCond .ne 6, 3) := by decide +kernel
theorem dX10_turnBack_7 : decode cX10_turnBack 7 = .ok (.ldc 126, 2) := by decide +kernel
theorem dX10_turnBack_9 : decode cX10_turnBack 9 = .ok (.ireturn, 1) := by decide +kernel
theorem dX10_turnBack_10 : decode cX10_turnBack 10 = .ok (.iconst 0, 1) := by decide +kernel
theorem dX10_turnBack_11 : decode cX10_turnBack 11 = .ok (.istore_n 2, 1) := by decide +kernel
theorem dX10_turnBack_12 : decode cX10_turnBack 12 = .ok (.iload_n 2, 1) := by decide +kernel
theorem dX10_turnBack_13 : decode cX10_turnBack 13 = .ok (.aload_n 0, 1) := by decide +kernel
theorem dX10_turnBack_14 : decode cX10_turnBack 14 = .ok (.getfield 7, 3) := by decide +kernel
theorem dX10_turnBack_17 : decode cX10_turnBack 17 = .ok (.iconst 0, 1) := by decide +kernel
theorem dX10_turnBack_18 : decode cX10_turnBack 18 = .ok (.iaload, 1) := by decide +kernel
theorem dX10_turnBack_19 : decode cX10_turnBack 19 = .ok (.if_icmp .ge 24, 3) := by decide +kernel
theorem dX10_turnBack_22 : decode cX10_turnBack 22 = .ok (.aload_n 0, 1) := by decide +kernel
theorem dX10_turnBack_23 : decode cX10_turnBack 23 = .ok (.aload_n 0, 1) := by decide +kernel
theorem dX10_turnBack_24 : decode cX10_turnBack 24 = .ok (.iload_n 2, 1) := by decide +kernel
theorem dX10_turnBack_25 : decode cX10_turnBack 25 = .ok (.invokevirtual 182, 3) := by decide +kernel
theorem dX10_turnBack_28 : decode cX10_turnBack 28 = .ok (.invokevirtual 131, 3) := by decide +kernel
theorem dX10_turnBack_31 : decode cX10_turnBack 31 = .ok (.iload_n 1, 1) := by decide +kernel
theorem dX10_turnBack_32 : decode cX10_turnBack 32 = .ok (.if_icmp .le 5, 3) := by decide +kernel
theorem dX10_turnBack_35 : decode cX10_turnBack 35 = .ok (.iload_n 2, 1) := by decide +kernel
theorem dX10_turnBack_36 : decode cX10_turnBack 36 = .ok (.ireturn, 1) := by decide +kernel
theorem dX10_turnBack_37 : decode cX10_turnBack 37 = .ok (.iinc 2 1, 3) := by decide +kernel
theorem dX10_turnBack_40 : decode cX10_turnBack 40 = .ok (.goto (-28), 3) := by decide +kernel
theorem dX10_turnBack_43 : decode cX10_turnBack 43 = .ok (.ldc 86, 2) := by decide +kernel
theorem dX10_turnBack_45 : decode cX10_turnBack 45 = .ok (.ireturn, 1) := by decide +kernel
theorem dX10_knowsRisks_0 : decode cX10_knowsRisks 0 = .ok (.iconst 0, 1) := by decide +kernel
theorem dX10_knowsRisks_1 : decode cX10_knowsRisks 1 = .ok (.istore_n 1, 1) := by decide +kernel
theorem dX10_knowsRisks_2 : decode cX10_knowsRisks 2 = .ok (.iload_n 1, 1) := by decide +kernel
theorem dX10_knowsRisks_3 : decode cX10_knowsRisks 3 = .ok (.bipush 30, 2) := by decide +kernel
theorem dX10_knowsRisks_5 : decode cX10_knowsRisks 5 = .ok (.if_icmp .ge 20, 3) := by decide +kernel
theorem dX10_knowsRisks_8 : decode cX10_knowsRisks 8 = .ok (.aload_n 0, 1) := by decide +kernel
theorem dX10_knowsRisks_9 : decode cX10_knowsRisks 9 = .ok (.getfield 49, 3) := by decide +kernel
theorem dX10_knowsRisks_12 : decode cX10_knowsRisks 12 = .ok (.iload_n 1, 1) := by decide +kernel
theorem dX10_knowsRisks_13 : decode cX10_knowsRisks 13 = .ok (.aload_n 0, 1) := by decide +kernel
theorem dX10_knowsRisks_14 : decode cX10_knowsRisks 14 = .ok (.iload_n 1, 1) := by decide +kernel
theorem dX10_knowsRisks_15 : decode cX10_knowsRisks 15 = .ok (.invokevirtual 131, 3) := by decide +kernel
theorem dX10_knowsRisks_18 : decode cX10_knowsRisks 18 = .ok (.iastore, 1) := by decide +kernel
theorem dX10_knowsRisks_19 : decode cX10_knowsRisks 19 = .ok (.iinc 1 1, 3) := by decide +kernel
theorem dX10_knowsRisks_22 : decode cX10_knowsRisks 22 = .ok (.goto (-20), 3) := by decide +kernel
theorem dX10_knowsRisks_25 : decode cX10_knowsRisks 25 = .ok (.return_, 1) := by decide +kernel
theorem dX10_isLess_0 : decode cX10_isLess 0 = .ok (.aload_n 0, 1) := by decide +kernel
theorem dX10_isLess_1 : decode cX10_isLess 1 = .ok (.getfield 52, 3) := by decide +kernel
theorem dX10_isLess_4 : decode cX10_isLess 4 = .ok (.iload_n 2, 1) := by decide +kernel
theorem dX10_isLess_5 : decode cX10_isLess 5 = .ok (.iaload, 1) := by decide +kernel
theorem dX10_isLess_6 : decode cX10_isLess 6 = .ok (.aload_n 0, 1) := by decide +kernel
theorem dX10_isLess_7 : decode cX10_isLess 7 = .ok (.getfield 49, 3) := by decide +kernel
theorem dX10_isLess_10 : decode cX10_isLess 10 = .ok (.iload_n 2, 1) := by decide +kernel
theorem dX10_isLess_11 : decode cX10_isLess 11 = .ok (.iaload, 1) := by decide +kernel
theorem dX10_isLess_12 : decode cX10_isLess 12 = .ok (.iadd, 1) := by decide +kernel
theorem dX10_isLess_13 : decode cX10_isLess 13 = .ok (.istore_n 3, 1) := by decide +kernel
theorem dX10_isLess_14 : decode cX10_isLess 14 = .ok (.aload_n 0, 1) := by decide +kernel
theorem dX10_isLess_15 : decode cX10_isLess 15 = .ok (.getfield 52, 3) := by decide +kernel
theorem dX10_isLess_18 : decode cX10_isLess 18 = .ok (.iload_n 2, 1) := by decide +kernel
theorem dX10_isLess_19 : decode cX10_isLess 19 = .ok (.iaload, 1) := by decide +kernel
theorem dX10_isLess_20 : decode cX10_isLess 20 = .ok (.ldc 200, 2) := by decide +kernel
theorem dX10_isLess_22 : decode cX10_isLess 22 = .ok (.if_icmp .ge 44, 3) := by decide +kernel
theorem dX10_isLess_25 : decode cX10_isLess 25 = .ok (.iload_n 3, 1) := by decide +kernel
theorem dX10_isLess_26 : decode cX10_isLess 26 = .ok (.aload_n 0, 1) := by decide +kernel
theorem dX10_isLess_27 : decode cX10_isLess 27 = .ok (.getfield 52, 3) := by decide +kernel
theorem dX10_isLess_30 : decode cX10_isLess 30 = .ok (.iload_n 1, 1) := by decide +kernel
theorem dX10_isLess_31 : decode cX10_isLess 31 = .ok (.iaload, 1) := by decide +kernel
theorem dX10_isLess_32 : decode cX10_isLess 32 = .ok (.if_icmp .lt 30, 3) := by decide +kernel
theorem dX10_isLess_35 : decode cX10_isLess 35 = .ok (.iload_n 3, 1) := by decide +kernel
theorem dX10_isLess_36 : decode cX10_isLess 36 = .ok (.aload_n 0, 1) := by decide +kernel
theorem dX10_isLess_37 : decode cX10_isLess 37 = .ok (.getfield 52, 3) := by decide +kernel
theorem dX10_isLess_40 : decode cX10_isLess 40 = .ok (.iload_n 1, 1) := by decide +kernel
theorem dX10_isLess_41 : decode cX10_isLess 41 = .ok (.iaload, 1) := by decide +kernel
theorem dX10_isLess_42 : decode cX10_isLess 42 = .ok (.if_icmp .ne 24, 3) := by decide +kernel
theorem dX10_isLess_45 : decode cX10_isLess 45 = .ok (.aload_n 0, 1) := by decide +kernel
theorem dX10_isLess_46 : decode cX10_isLess 46 = .ok (.getfield 55, 3) := by decide +kernel
theorem dX10_isLess_49 : decode cX10_isLess 49 = .ok (.iload_n 2, 1) := by decide +kernel
theorem dX10_isLess_50 : decode cX10_isLess 50 = .ok (.iaload, 1) := by decide +kernel
theorem dX10_isLess_51 : decode cX10_isLess 51 = .ok (.iconst 1, 1) := by decide +kernel
theorem dX10_isLess_52 : decode cX10_isLess 52 = .ok (.iadd, 1) := by decide +kernel
theorem dX10_isLess_53 : decode cX10_isLess 53 = .ok (.aload_n 0, 1) := by decide +kernel
theorem dX10_isLess_54 : decode cX10_isLess 54 = .ok (.getfield 55, 3) := by decide +kernel
theorem dX10_isLess_57 : decode cX10_isLess 57 = .ok (.iload_n 1, 1) := by decide +kernel
theorem dX10_isLess_58 : decode cX10_isLess 58 = .ok (.iaload, 1) := by decide +kernel
theorem dX10_isLess_59 : decode cX10_isLess 59 = .ok (.if_icmp .ge 7, 3) := by decide +kernel
theorem dX10_isLess_62 : decode cX10_isLess 62 = .ok (.iconst 1, 1) := by decide +kernel
theorem dX10_isLess_63 : decode cX10_isLess 63 = .ok (.goto 4, 3) := by decide +kernel
theorem dX10_isLess_66 : decode cX10_isLess 66 = .ok (.iconst 0, 1) := by decide +kernel
theorem dX10_isLess_67 : decode cX10_isLess 67 = .ok (.ireturn, 1) := by decide +kernel
theorem dX10_findWays_0 : decode cX10_findWays 0 = .ok (.aload_n 0, 1) := by decide +kernel
theorem dX10_findWays_1 : decode cX10_findWays 1 = .ok (.invokevirtual 201, 3) := by decide +kernel
theorem dX10_findWays_4 : decode cX10_findWays 4 = .ok (.iconst 0, 1) := by decide +kernel
theorem dX10_findWays_5 : decode cX10_findWays 5 = .ok (.istore_n 2, 1) := by decide +kernel
theorem dX10_findWays_6 : decode cX10_findWays 6 = .ok (.iload_n 2, 1) := by decide +kernel
theorem dX10_findWays_7 : decode cX10_findWays 7 = .ok (.bipush 30, 2) := by decide +kernel
theorem dX10_findWays_9 : decode cX10_findWays 9 = .ok (.if_icmp .ge 33, 3) := by decide +kernel
theorem dX10_findWays_12 : decode cX10_findWays 12 = .ok (.aload_n 0, 1) := by decide +kernel
theorem dX10_findWays_13 : decode cX10_findWays 13 = .ok (.getfield 52, 3) := by decide +kernel
theorem dX10_findWays_16 : decode cX10_findWays 16 = .ok (.iload_n 2, 1) := by decide +kernel
theorem dX10_findWays_17 : decode cX10_findWays 17 = .ok (.iload_n 2, 1) := by decide +kernel
theorem dX10_findWays_18 : decode cX10_findWays 18 = .ok (.iload_n 1, 1) := by decide +kernel
theorem dX10_findWays_19 : decode cX10_findWays 19 = .ok (.if_icmp .ne 7, 3) := by decide +kernel
theorem dX10_findWays_22 : decode cX10_findWays 22 = .ok (.iconst 0, 1) := by decide +kernel
theorem dX10_findWays_23 : decode cX10_findWays 23 = .ok (.goto 5, 3) := by decide +kernel
theorem dX10_findWays_26 : decode cX10_findWays 26 = .ok (.ldc 200, 2) := by decide +kernel
theorem dX10_findWays_28 : decode cX10_findWays 28 = .ok (.iastore, 1) := by decide +kernel
theorem dX10_findWays_29 : decode cX10_findWays 29 = .ok (.aload_n 0, 1) := by decide +kernel
theorem dX10_findWays_30 : decode cX10_findWays 30 = .ok (.getfield 55, 3) := by decide +kernel
theorem dX10_findWays_33 : decode cX10_findWays 33 = .ok (.iload_n 2, 1) := by decide +kernel
theorem dX10_findWays_34 : decode cX10_findWays 34 = .ok (.iconst 0, 1) := by decide +kernel
theorem dX10_findWays_35 : decode cX10_findWays 35 = .ok (.iastore, 1) := by decide +kernel
theorem dX10_findWays_36 : decode cX10_findWays 36 = .ok (.iinc 2 1, 3) := by decide +kernel
theorem dX10_findWays_39 : decode cX10_findWays 39 = .ok (.goto (-33), 3) := by decide +kernel
theorem dX10_findWays_42 : decode cX10_findWays 42 = .ok (.iconst 1, 1) := by decide +kernel
theorem dX10_findWays_43 : decode cX10_findWays 43 = .ok (.istore_n 2, 1) := by decide +kernel
theorem dX10_findWays_44 : decode cX10_findWays 44 = .ok (.iload_n 2, 1) := by decide +kernel
theorem dX10_findWays_45 : decode cX10_findWays 45 = .ok (.ifCond .eq 103, 3) := by decide +kernel
theorem dX10_findWays_48 : decode cX10_findWays 48 = .ok (.iconst 0, 1) := by decide +kernel
theorem dX10_findWays_49 : decode cX10_findWays 49 = .ok (.istore_n 2, 1) := by decide +kernel
theorem dX10_findWays_50 : decode cX10_findWays 50 = .ok (.iconst 0, 1) := by decide +kernel
theorem dX10_findWays_51 : decode cX10_findWays 51 = .ok (.istore_n 3, 1) := by decide +kernel
theorem dX10_findWays_52 : decode cX10_findWays 52 = .ok (.iload_n 3, 1) := by decide +kernel
theorem dX10_findWays_53 : decode cX10_findWays 53 = .ok (.bipush 30, 2) := by decide +kernel
theorem dX10_findWays_55 : decode cX10_findWays 55 = .ok (.if_icmp .ge 90, 3) := by decide +kernel
theorem dX10_findWays_58 : decode cX10_findWays 58 = .ok (.iconst 0, 1) := by decide +kernel
theorem dX10_findWays_59 : decode cX10_findWays 59 = .ok (.istore 4, 2) := by decide +kernel
theorem dX10_findWays_61 : decode cX10_findWays 61 = .ok (.iload 4, 2) := by decide +kernel
theorem dX10_findWays_63 : decode cX10_findWays 63 = .ok (.iconst 4, 1) := by decide +kernel
theorem dX10_findWays_64 : decode cX10_findWays 64 = .ok (.if_icmp .ge 75, 3) := by decide +kernel
theorem dX10_findWays_67 : decode cX10_findWays 67 = .ok (.iload_n 3, 1) := by decide +kernel
theorem dX10_findWays_68 : decode cX10_findWays 68 = .ok (.iload 4, 2) := by decide +kernel
theorem dX10_findWays_70 : decode cX10_findWays 70 = .ok (.invokestatic 179, 3) := by decide +kernel
theorem dX10_findWays_73 : decode cX10_findWays 73 = .ok (.istore 5, 2) := by decide +kernel
theorem dX10_findWays_75 : decode cX10_findWays 75 = .ok (.iload_n 3, 1) := by decide +kernel
theorem dX10_findWays_76 : decode cX10_findWays 76 = .ok (.iload_n 1, 1) := by decide +kernel
theorem dX10_findWays_77 : decode cX10_findWays 77 = .ok (.if_icmp .eq 56, 3) := by decide +kernel
theorem dX10_findWays_80 : decode cX10_findWays 80 = .ok (.iload 5, 2) := by decide +kernel
theorem dX10_findWays_82 : decode cX10_findWays 82 = .ok (.ifCond .lt 51, 3) := by decide +kernel
theorem dX10_findWays_85 : decode cX10_findWays 85 = .ok (.aload_n 0, 1) := by decide +kernel
theorem dX10_findWays_86 : decode cX10_findWays 86 = .ok (.iload_n 3, 1) := by decide +kernel
theorem dX10_findWays_87 : decode cX10_findWays 87 = .ok (.iload 5, 2) := by decide +kernel
theorem dX10_findWays_89 : decode cX10_findWays 89 = .ok (.invokevirtual 204, 3) := by decide +kernel
theorem dX10_findWays_92 : decode cX10_findWays 92 = .ok (.ifCond .eq 41, 3) := by decide +kernel
theorem dX10_findWays_95 : decode cX10_findWays 95 = .ok (.aload_n 0, 1) := by decide +kernel
theorem dX10_findWays_96 : decode cX10_findWays 96 = .ok (.getfield 52, 3) := by decide +kernel
theorem dX10_findWays_99 : decode cX10_findWays 99 = .ok (.iload_n 3, 1) := by decide +kernel
theorem dX10_findWays_100 : decode cX10_findWays 100 = .ok (.aload_n 0, 1) := by decide +kernel
theorem dX10_findWays_101 : decode cX10_findWays 101 = .ok (.getfield 52, 3) := by decide +kernel
theorem dX10_findWays_104 : decode cX10_findWays 104 = .ok (.iload 5, 2) := by decide +kernel
theorem dX10_findWays_106 : decode cX10_findWays 106 = .ok (.iaload, 1) := by decide +kernel
theorem dX10_findWays_107 : decode cX10_findWays 107 = .ok (.aload_n 0, 1) := by decide +kernel
theorem dX10_findWays_108 : decode cX10_findWays 108 = .ok (.getfield 49, 3) := by decide +kernel
theorem dX10_findWays_111 : decode cX10_findWays 111 = .ok (.iload 5, 2) := by decide +kernel
theorem dX10_findWays_113 : decode cX10_findWays 113 = .ok (.iaload, 1) := by decide +kernel
theorem dX10_findWays_114 : decode cX10_findWays 114 = .ok (.iadd, 1) := by decide +kernel
theorem dX10_findWays_115 : decode cX10_findWays 115 = .ok (.iastore, 1) := by decide +kernel
theorem dX10_findWays_116 : decode cX10_findWays 116 = .ok (.aload_n 0, 1) := by decide +kernel
theorem dX10_findWays_117 : decode cX10_findWays 117 = .ok (.getfield 55, 3) := by decide +kernel
theorem dX10_findWays_120 : decode cX10_findWays 120 = .ok (.iload_n 3, 1) := by decide +kernel
theorem dX10_findWays_121 : decode cX10_findWays 121 = .ok (.aload_n 0, 1) := by decide +kernel
theorem dX10_findWays_122 : decode cX10_findWays 122 = .ok (.getfield 55, 3) := by decide +kernel
theorem dX10_findWays_125 : decode cX10_findWays 125 = .ok (.iload 5, 2) := by decide +kernel
theorem dX10_findWays_127 : decode cX10_findWays 127 = .ok (.iaload, 1) := by decide +kernel
theorem dX10_findWays_128 : decode cX10_findWays 128 = .ok (.iconst 1, 1) := by decide +kernel
theorem dX10_findWays_129 : decode cX10_findWays 129 = .ok (.iadd, 1) := by decide +kernel
theorem dX10_findWays_130 : decode cX10_findWays 130 = .ok (.iastore, 1) := by decide +kernel
theorem dX10_findWays_131 : decode cX10_findWays 131 = .ok (.iconst 1, 1) := by decide +kernel
theorem dX10_findWays_132 : decode cX10_findWays 132 = .ok (.istore_n 2, 1) := by decide +kernel
theorem dX10_findWays_133 : decode cX10_findWays 133 = .ok (.iinc 4 1, 3) := by decide +kernel
theorem dX10_findWays_136 : decode cX10_findWays 136 = .ok (.goto (-75), 3) := by decide +kernel
theorem dX10_findWays_139 : decode cX10_findWays 139 = .ok (.iinc 3 1, 3) := by decide +kernel
theorem dX10_findWays_142 : decode cX10_findWays 142 = .ok (.goto (-90), 3) := by decide +kernel
theorem dX10_findWays_145 : decode cX10_findWays 145 = .ok (.goto (-101), 3) := by decide +kernel
theorem dX10_findWays_148 : decode cX10_findWays 148 = .ok (.return_, 1) := by decide +kernel
theorem dX10_way_0 : decode cX10_way 0 = .ok (.iload_n 1, 1) := by decide +kernel
theorem dX10_way_1 : decode cX10_way 1 = .ok (.invokestatic 116, 3) := by decide +kernel
theorem dX10_way_4 : decode cX10_way 4 = .ok (.ifCond .eq 28, 3) := by decide +kernel
theorem dX10_way_7 : decode cX10_way 7 = .ok (.iload_n 2, 1) := by decide +kernel
theorem dX10_way_8 : decode cX10_way 8 = .ok (.invokestatic 116, 3) := by decide +kernel
theorem dX10_way_11 : decode cX10_way 11 = .ok (.ifCond .eq 21, 3) := by decide +kernel
theorem dX10_way_14 : decode cX10_way 14 = .ok (.iload_n 3, 1) := by decide +kernel
theorem dX10_way_15 : decode cX10_way 15 = .ok (.i2l, 1) := by decide +kernel
theorem dX10_way_16 : decode cX10_way 16 = .ok (.lconst 0, 1) := by decide +kernel
theorem dX10_way_17 : decode cX10_way 17 = .ok (.ldc2_w 148, 3) := by decide +kernel
theorem dX10_way_20 : decode cX10_way 20 = .ok (.invokestatic 87, 3) := by decide +kernel
theorem dX10_way_23 : decode cX10_way 23 = .ok (.ifCond .ne 12, 3) := by decide +kernel
theorem dX10_way_26 : decode cX10_way 26 = .ok (.iload_n 3, 1) := by decide +kernel
theorem dX10_way_27 : decode cX10_way 27 = .ok (.bipush 10, 2) := by decide +kernel
theorem dX10_way_29 : decode cX10_way 29 = .ok (.if_icmp .ge 6, 3) := by decide +kernel
theorem dX10_way_32 : decode cX10_way 32 = .ok (.ldc 126, 2) := by decide +kernel
theorem dX10_way_34 : decode cX10_way 34 = .ok (.ireturn, 1) := by decide +kernel
theorem dX10_way_35 : decode cX10_way 35 = .ok (.aload_n 0, 1) := by decide +kernel
theorem dX10_way_36 : decode cX10_way 36 = .ok (.iload_n 2, 1) := by decide +kernel
theorem dX10_way_37 : decode cX10_way 37 = .ok (.invokevirtual 207, 3) := by decide +kernel
theorem dX10_way_40 : decode cX10_way 40 = .ok (.iload_n 3, 1) := by decide +kernel
theorem dX10_way_41 : decode cX10_way 41 = .ok (.iconst 2, 1) := by decide +kernel
theorem dX10_way_42 : decode cX10_way 42 = .ok (.if_icmp .ge 23, 3) := by decide +kernel
theorem dX10_way_45 : decode cX10_way 45 = .ok (.iload_n 3, 1) := by decide +kernel
theorem dX10_way_46 : decode cX10_way 46 = .ok (.ifCond .ne 12, 3) := by decide +kernel
theorem dX10_way_49 : decode cX10_way 49 = .ok (.aload_n 0, 1) := by decide +kernel
theorem dX10_way_50 : decode cX10_way 50 = .ok (.getfield 52, 3) := by decide +kernel
theorem dX10_way_53 : decode cX10_way 53 = .ok (.iload_n 1, 1) := by decide +kernel
theorem dX10_way_54 : decode cX10_way 54 = .ok (.iaload, 1) := by decide +kernel
theorem dX10_way_55 : decode cX10_way 55 = .ok (.goto 9, 3) := by decide +kernel
theorem dX10_way_58 : decode cX10_way 58 = .ok (.aload_n 0, 1) := by decide +kernel
theorem dX10_way_59 : decode cX10_way 59 = .ok (.getfield 55, 3) := by decide +kernel
theorem dX10_way_62 : decode cX10_way 62 = .ok (.iload_n 1, 1) := by decide +kernel
theorem dX10_way_63 : decode cX10_way 63 = .ok (.iaload, 1) := by decide +kernel
theorem dX10_way_64 : decode cX10_way 64 = .ok (.ireturn, 1) := by decide +kernel
theorem dX10_way_65 : decode cX10_way 65 = .ok (.iconst 1, 1) := by decide +kernel
theorem dX10_way_66 : decode cX10_way 66 = .ok (.istore 4, 2) := by decide +kernel
theorem dX10_way_68 : decode cX10_way 68 = .ok (.aload_n 0, 1) := by decide +kernel
theorem dX10_way_69 : decode cX10_way 69 = .ok (.getfield 58, 3) := by decide +kernel
theorem dX10_way_72 : decode cX10_way 72 = .ok (.iconst 0, 1) := by decide +kernel
theorem dX10_way_73 : decode cX10_way 73 = .ok (.iload_n 1, 1) := by decide +kernel
theorem dX10_way_74 : decode cX10_way 74 = .ok (.iastore, 1) := by decide +kernel
theorem dX10_way_75 : decode cX10_way 75 = .ok (.iconst 0, 1) := by decide +kernel
theorem dX10_way_76 : decode cX10_way 76 = .ok (.istore 5, 2) := by decide +kernel
theorem dX10_way_78 : decode cX10_way 78 = .ok (.aload_n 0, 1) := by decide +kernel
theorem dX10_way_79 : decode cX10_way 79 = .ok (.getfield 58, 3) := by decide +kernel
theorem dX10_way_82 : decode cX10_way 82 = .ok (.iload 4, 2) := by decide +kernel
theorem dX10_way_84 : decode cX10_way 84 = .ok (.iconst 1, 1) := by decide +kernel
theorem dX10_way_85 : decode cX10_way 85 = .ok (.isub, 1) := by decide +kernel
theorem dX10_way_86 : decode cX10_way 86 = .ok (.iaload, 1) := by decide +kernel
theorem dX10_way_87 : decode cX10_way 87 = .ok (.iload_n 2, 1) := by decide +kernel
theorem dX10_way_88 : decode cX10_way 88 = .ok (.if_icmp .eq 143, 3) := by decide +kernel
theorem dX10_way_91 : decode cX10_way 91 = .ok (.aload_n 0, 1) := by decide +kernel
theorem dX10_way_92 : decode cX10_way 92 = .ok (.getfield 58, 3) := by decide +kernel
theorem dX10_way_95 : decode cX10_way 95 = .ok (.iload 4, 2) := by decide +kernel
theorem dX10_way_97 : decode cX10_way 97 = .ok (.iconst 1, 1) := by decide +kernel
theorem dX10_way_98 : decode cX10_way 98 = .ok (.isub, 1) := by decide +kernel
theorem dX10_way_99 : decode cX10_way 99 = .ok (.iaload, 1) := by decide +kernel
theorem dX10_way_100 : decode cX10_way 100 = .ok (.istore 6, 2) := by decide +kernel
theorem dX10_way_102 : decode cX10_way 102 = .ok (.iconst (-1), 1) := by decide +kernel
theorem dX10_way_103 : decode cX10_way 103 = .ok (.istore 7, 2) := by decide +kernel
theorem dX10_way_105 : decode cX10_way 105 = .ok (.iconst 0, 1) := by decide +kernel
theorem dX10_way_106 : decode cX10_way 106 = .ok (.istore 8, 2) := by decide +kernel
theorem dX10_way_108 : decode cX10_way 108 = .ok (.iload 8, 2) := by decide +kernel
theorem dX10_way_110 : decode cX10_way 110 = .ok (.iconst 4, 1) := by decide +kernel
theorem dX10_way_111 : decode cX10_way 111 = .ok (.if_icmp .ge 92, 3) := by decide +kernel
theorem dX10_way_114 : decode cX10_way 114 = .ok (.iload 7, 2) := by decide +kernel
theorem dX10_way_116 : decode cX10_way 116 = .ok (.ifCond .ge 87, 3) := by decide +kernel
theorem dX10_way_119 : decode cX10_way 119 = .ok (.iload 6, 2) := by decide +kernel
theorem dX10_way_121 : decode cX10_way 121 = .ok (.iload 8, 2) := by decide +kernel
theorem dX10_way_123 : decode cX10_way 123 = .ok (.invokestatic 179, 3) := by decide +kernel
theorem dX10_way_126 : decode cX10_way 126 = .ok (.istore 9, 2) := by decide +kernel
theorem dX10_way_128 : decode cX10_way 128 = .ok (.iload 9, 2) := by decide +kernel
theorem dX10_way_130 : decode cX10_way 130 = .ok (.ifCond .lt 51, 3) := by decide +kernel
theorem dX10_way_133 : decode cX10_way 133 = .ok (.aload_n 0, 1) := by decide +kernel
theorem dX10_way_134 : decode cX10_way 134 = .ok (.getfield 52, 3) := by decide +kernel
theorem dX10_way_137 : decode cX10_way 137 = .ok (.iload 9, 2) := by decide +kernel
theorem dX10_way_139 : decode cX10_way 139 = .ok (.iaload, 1) := by decide +kernel
theorem dX10_way_140 : decode cX10_way 140 = .ok (.aload_n 0, 1) := by decide +kernel
theorem dX10_way_141 : decode cX10_way 141 = .ok (.getfield 49, 3) := by decide +kernel
theorem dX10_way_144 : decode cX10_way 144 = .ok (.iload 9, 2) := by decide +kernel
theorem dX10_way_146 : decode cX10_way 146 = .ok (.iaload, 1) := by decide +kernel
theorem dX10_way_147 : decode cX10_way 147 = .ok (.iadd, 1) := by decide +kernel
theorem dX10_way_148 : decode cX10_way 148 = .ok (.aload_n 0, 1) := by decide +kernel
theorem dX10_way_149 : decode cX10_way 149 = .ok (.getfield 52, 3) := by decide +kernel
theorem dX10_way_152 : decode cX10_way 152 = .ok (.iload 6, 2) := by decide +kernel
theorem dX10_way_154 : decode cX10_way 154 = .ok (.iaload, 1) := by decide +kernel
theorem dX10_way_155 : decode cX10_way 155 = .ok (.if_icmp .ne 26, 3) := by decide +kernel
theorem dX10_way_158 : decode cX10_way 158 = .ok (.aload_n 0, 1) := by decide +kernel
theorem dX10_way_159 : decode cX10_way 159 = .ok (.getfield 55, 3) := by decide +kernel
theorem dX10_way_162 : decode cX10_way 162 = .ok (.iload 9, 2) := by decide +kernel
theorem dX10_way_164 : decode cX10_way 164 = .ok (.iaload, 1) := by decide +kernel
theorem dX10_way_165 : decode cX10_way 165 = .ok (.iconst 1, 1) := by decide +kernel
theorem dX10_way_166 : decode cX10_way 166 = .ok (.iadd, 1) := by decide +kernel
theorem dX10_way_167 : decode cX10_way 167 = .ok (.aload_n 0, 1) := by decide +kernel
theorem dX10_way_168 : decode cX10_way 168 = .ok (.getfield 55, 3) := by decide +kernel
theorem dX10_way_171 : decode cX10_way 171 = .ok (.iload 6, 2) := by decide +kernel
theorem dX10_way_173 : decode cX10_way 173 = .ok (.iaload, 1) := by decide +kernel
theorem dX10_way_174 : decode cX10_way 174 = .ok (.if_icmp .ne 7, 3) := by decide +kernel
theorem dX10_way_177 : decode cX10_way 177 = .ok (.iconst 1, 1) := by decide +kernel
theorem dX10_way_178 : decode cX10_way 178 = .ok (.goto 4, 3) := by decide +kernel
theorem dX10_way_181 : decode cX10_way 181 = .ok (.iconst 0, 1) := by decide +kernel
theorem dX10_way_182 : decode cX10_way 182 = .ok (.istore 10, 2) := by decide +kernel
theorem dX10_way_184 : decode cX10_way 184 = .ok (.iload 10, 2) := by decide +kernel
theorem dX10_way_186 : decode cX10_way 186 = .ok (.ifCond .eq 8, 3) := by decide +kernel
theorem dX10_way_189 : decode cX10_way 189 = .ok (.iload 9, 2) := by decide +kernel
theorem dX10_way_191 : decode cX10_way 191 = .ok (.goto 4, 3) := by decide +kernel
theorem dX10_way_194 : decode cX10_way 194 = .ok (.iconst (-1), 1) := by decide +kernel
theorem dX10_way_195 : decode cX10_way 195 = .ok (.istore 7, 2) := by decide +kernel
theorem dX10_way_197 : decode cX10_way 197 = .ok (.iinc 8 1, 3) := by decide +kernel
theorem dX10_way_200 : decode cX10_way 200 = .ok (.goto (-92), 3) := by decide +kernel
theorem dX10_way_203 : decode cX10_way 203 = .ok (.iload 5, 2) := by decide +kernel
theorem dX10_way_205 : decode cX10_way 205 = .ok (.aload_n 0, 1) := by decide +kernel
theorem dX10_way_206 : decode cX10_way 206 = .ok (.iload 6, 2) := by decide +kernel
theorem dX10_way_208 : decode cX10_way 208 = .ok (.iload 7, 2) := by decide +kernel
theorem dX10_way_210 : decode cX10_way 210 = .ok (.invokevirtual 192, 3) := by decide +kernel
theorem dX10_way_213 : decode cX10_way 213 = .ok (.iadd, 1) := by decide +kernel
theorem dX10_way_214 : decode cX10_way 214 = .ok (.istore 5, 2) := by decide +kernel
theorem dX10_way_216 : decode cX10_way 216 = .ok (.aload_n 0, 1) := by decide +kernel
theorem dX10_way_217 : decode cX10_way 217 = .ok (.getfield 58, 3) := by decide +kernel
theorem dX10_way_220 : decode cX10_way 220 = .ok (.iload 4, 2) := by decide +kernel
theorem dX10_way_222 : decode cX10_way 222 = .ok (.iload 7, 2) := by decide +kernel
theorem dX10_way_224 : decode cX10_way 224 = .ok (.iastore, 1) := by decide +kernel
theorem dX10_way_225 : decode cX10_way 225 = .ok (.iinc 4 1, 3) := by decide +kernel
theorem dX10_way_228 : decode cX10_way 228 = .ok (.goto (-150), 3) := by decide +kernel
theorem dX10_way_231 : decode cX10_way 231 = .ok (.iload_n 3, 1) := by decide +kernel
theorem dX10_way_232 : decode cX10_way 232 = .ok (.iconst 2, 1) := by decide +kernel
theorem dX10_way_233 : decode cX10_way 233 = .ok (.if_icmp .ne 8, 3) := by decide +kernel
theorem dX10_way_236 : decode cX10_way 236 = .ok (.iload 5, 2) := by decide +kernel
theorem dX10_way_238 : decode cX10_way 238 = .ok (.goto 26, 3) := by decide +kernel
theorem dX10_way_241 : decode cX10_way 241 = .ok (.iload_n 3, 1) := by decide +kernel
theorem dX10_way_242 : decode cX10_way 242 = .ok (.bipush 10, 2) := by decide +kernel
theorem dX10_way_244 : decode cX10_way 244 = .ok (.isub, 1) := by decide +kernel
theorem dX10_way_245 : decode cX10_way 245 = .ok (.iload 4, 2) := by decide +kernel
theorem dX10_way_247 : decode cX10_way 247 = .ok (.if_icmp .ge 15, 3) := by decide +kernel
theorem dX10_way_250 : decode cX10_way 250 = .ok (.aload_n 0, 1) := by decide +kernel
theorem dX10_way_251 : decode cX10_way 251 = .ok (.getfield 58, 3) := by decide +kernel
theorem dX10_way_254 : decode cX10_way 254 = .ok (.iload_n 3, 1) := by decide +kernel
theorem dX10_way_255 : decode cX10_way 255 = .ok (.bipush 10, 2) := by decide +kernel
theorem dX10_way_257 : decode cX10_way 257 = .ok (.isub, 1) := by decide +kernel
theorem dX10_way_258 : decode cX10_way 258 = .ok (.iaload, 1) := by decide +kernel
theorem dX10_way_259 : decode cX10_way 259 = .ok (.goto 5, 3) := by decide +kernel
theorem dX10_way_262 : decode cX10_way 262 = .ok (.ldc 86, 2) := by decide +kernel
theorem dX10_way_264 : decode cX10_way 264 = .ok (.ireturn, 1) := by decide +kernel
theorem dX10_bound_0 : decode cX10_bound 0 = .ok (.iload_n 1, 1) := by decide +kernel
theorem dX10_bound_1 : decode cX10_bound 1 = .ok (.invokestatic 116, 3) := by decide +kernel
theorem dX10_bound_4 : decode cX10_bound 4 = .ok (.ifCond .eq 22, 3) := by decide +kernel
theorem dX10_bound_7 : decode cX10_bound 7 = .ok (.iload_n 2, 1) := by decide +kernel
theorem dX10_bound_8 : decode cX10_bound 8 = .ok (.invokestatic 116, 3) := by decide +kernel
theorem dX10_bound_11 : decode cX10_bound 11 = .ok (.ifCond .eq 15, 3) := by decide +kernel
theorem dX10_bound_14 : decode cX10_bound 14 = .ok (.iload_n 3, 1) := by decide +kernel
theorem dX10_bound_15 : decode cX10_bound 15 = .ok (.i2l, 1) := by decide +kernel
theorem dX10_bound_16 : decode cX10_bound 16 = .ok (.lconst 0, 1) := by decide +kernel
theorem dX10_bound_17 : decode cX10_bound 17 = .ok (.ldc2_w 211, 3) := by decide +kernel
theorem dX10_bound_20 : decode cX10_bound 20 = .ok (.invokestatic 87, 3) := by decide +kernel
theorem dX10_bound_23 : decode cX10_bound 23 = .ok (.ifCond .ne 6, 3) := by decide +kernel
theorem dX10_bound_26 : decode cX10_bound 26 = .ok (.ldc 126, 2) := by decide +kernel
theorem dX10_bound_28 : decode cX10_bound 28 = .ok (.ireturn, 1) := by decide +kernel
theorem dX10_bound_29 : decode cX10_bound 29 = .ok (.aload_n 0, 1) := by decide +kernel
theorem dX10_bound_30 : decode cX10_bound 30 = .ok (.invokevirtual 201, 3) := by decide +kernel
theorem dX10_bound_33 : decode cX10_bound 33 = .ok (.iconst 0, 1) := by decide +kernel
theorem dX10_bound_34 : decode cX10_bound 34 = .ok (.istore 4, 2) := by decide +kernel
theorem dX10_bound_36 : decode cX10_bound 36 = .ok (.iload 4, 2) := by decide +kernel
theorem dX10_bound_38 : decode cX10_bound 38 = .ok (.bipush 30, 2) := by decide +kernel
theorem dX10_bound_40 : decode cX10_bound 40 = .ok (.if_icmp .ge 28, 3) := by decide +kernel
theorem dX10_bound_43 : decode cX10_bound 43 = .ok (.aload_n 0, 1) := by decide +kernel
theorem dX10_bound_44 : decode cX10_bound 44 = .ok (.getfield 52, 3) := by decide +kernel
theorem dX10_bound_47 : decode cX10_bound 47 = .ok (.iload 4, 2) := by decide +kernel
theorem dX10_bound_49 : decode cX10_bound 49 = .ok (.iload 4, 2) := by decide +kernel
theorem dX10_bound_51 : decode cX10_bound 51 = .ok (.iload_n 1, 1) := by decide +kernel
theorem dX10_bound_52 : decode cX10_bound 52 = .ok (.if_icmp .ne 7, 3) := by decide +kernel
theorem dX10_bound_55 : decode cX10_bound 55 = .ok (.iconst 0, 1) := by decide +kernel
theorem dX10_bound_56 : decode cX10_bound 56 = .ok (.goto 5, 3) := by decide +kernel
theorem dX10_bound_59 : decode cX10_bound 59 = .ok (.ldc 200, 2) := by decide +kernel
theorem dX10_bound_61 : decode cX10_bound 61 = .ok (.iastore, 1) := by decide +kernel
theorem dX10_bound_62 : decode cX10_bound 62 = .ok (.iinc 4 1, 3) := by decide +kernel
theorem dX10_bound_65 : decode cX10_bound 65 = .ok (.goto (-29), 3) := by decide +kernel
theorem dX10_bound_68 : decode cX10_bound 68 = .ok (.iconst 0, 1) := by decide +kernel
theorem dX10_bound_69 : decode cX10_bound 69 = .ok (.istore 4, 2) := by decide +kernel
theorem dX10_bound_71 : decode cX10_bound 71 = .ok (.iload 4, 2) := by decide +kernel
theorem dX10_bound_73 : decode cX10_bound 73 = .ok (.iload_n 3, 1) := by decide +kernel
theorem dX10_bound_74 : decode cX10_bound 74 = .ok (.if_icmp .ge 163, 3) := by decide +kernel
theorem dX10_bound_77 : decode cX10_bound 77 = .ok (.iconst 0, 1) := by decide +kernel
theorem dX10_bound_78 : decode cX10_bound 78 = .ok (.istore 5, 2) := by decide +kernel
theorem dX10_bound_80 : decode cX10_bound 80 = .ok (.iload 5, 2) := by decide +kernel
theorem dX10_bound_82 : decode cX10_bound 82 = .ok (.bipush 30, 2) := by decide +kernel
theorem dX10_bound_84 : decode cX10_bound 84 = .ok (.if_icmp .ge 117, 3) := by decide +kernel
theorem dX10_bound_87 : decode cX10_bound 87 = .ok (.aload_n 0, 1) := by decide +kernel
theorem dX10_bound_88 : decode cX10_bound 88 = .ok (.getfield 61, 3) := by decide +kernel
theorem dX10_bound_91 : decode cX10_bound 91 = .ok (.iload 5, 2) := by decide +kernel
theorem dX10_bound_93 : decode cX10_bound 93 = .ok (.aload_n 0, 1) := by decide +kernel
theorem dX10_bound_94 : decode cX10_bound 94 = .ok (.getfield 52, 3) := by decide +kernel
theorem dX10_bound_97 : decode cX10_bound 97 = .ok (.iload 5, 2) := by decide +kernel
theorem dX10_bound_99 : decode cX10_bound 99 = .ok (.iaload, 1) := by decide +kernel
theorem dX10_bound_100 : decode cX10_bound 100 = .ok (.iastore, 1) := by decide +kernel
theorem dX10_bound_101 : decode cX10_bound 101 = .ok (.iconst 0, 1) := by decide +kernel
theorem dX10_bound_102 : decode cX10_bound 102 = .ok (.istore 6, 2) := by decide +kernel
theorem dX10_bound_104 : decode cX10_bound 104 = .ok (.iload 6, 2) := by decide +kernel
theorem dX10_bound_106 : decode cX10_bound 106 = .ok (.iconst 4, 1) := by decide +kernel
theorem dX10_bound_107 : decode cX10_bound 107 = .ok (.if_icmp .ge 88, 3) := by decide +kernel
theorem dX10_bound_110 : decode cX10_bound 110 = .ok (.iload 5, 2) := by decide +kernel
theorem dX10_bound_112 : decode cX10_bound 112 = .ok (.iload 6, 2) := by decide +kernel
theorem dX10_bound_114 : decode cX10_bound 114 = .ok (.invokestatic 179, 3) := by decide +kernel
theorem dX10_bound_117 : decode cX10_bound 117 = .ok (.istore 7, 2) := by decide +kernel
theorem dX10_bound_119 : decode cX10_bound 119 = .ok (.iload 7, 2) := by decide +kernel
theorem dX10_bound_121 : decode cX10_bound 121 = .ok (.ifCond .lt 15, 3) := by decide +kernel
theorem dX10_bound_124 : decode cX10_bound 124 = .ok (.aload_n 0, 1) := by decide +kernel
theorem dX10_bound_125 : decode cX10_bound 125 = .ok (.getfield 52, 3) := by decide +kernel
theorem dX10_bound_128 : decode cX10_bound 128 = .ok (.iload 7, 2) := by decide +kernel
theorem dX10_bound_130 : decode cX10_bound 130 = .ok (.iaload, 1) := by decide +kernel
theorem dX10_bound_131 : decode cX10_bound 131 = .ok (.ldc 200, 2) := by decide +kernel
theorem dX10_bound_133 : decode cX10_bound 133 = .ok (.if_icmp .ne 8, 3) := by decide +kernel
theorem dX10_bound_136 : decode cX10_bound 136 = .ok (.ldc 200, 2) := by decide +kernel
theorem dX10_bound_138 : decode cX10_bound 138 = .ok (.goto 18, 3) := by decide +kernel
theorem dX10_bound_141 : decode cX10_bound 141 = .ok (.aload_n 0, 1) := by decide +kernel
theorem dX10_bound_142 : decode cX10_bound 142 = .ok (.getfield 52, 3) := by decide +kernel
theorem dX10_bound_145 : decode cX10_bound 145 = .ok (.iload 7, 2) := by decide +kernel
theorem dX10_bound_147 : decode cX10_bound 147 = .ok (.iaload, 1) := by decide +kernel
theorem dX10_bound_148 : decode cX10_bound 148 = .ok (.aload_n 0, 1) := by decide +kernel
theorem dX10_bound_149 : decode cX10_bound 149 = .ok (.getfield 49, 3) := by decide +kernel
theorem dX10_bound_152 : decode cX10_bound 152 = .ok (.iload 5, 2) := by decide +kernel
theorem dX10_bound_154 : decode cX10_bound 154 = .ok (.iaload, 1) := by decide +kernel
theorem dX10_bound_155 : decode cX10_bound 155 = .ok (.iadd, 1) := by decide +kernel
theorem dX10_bound_156 : decode cX10_bound 156 = .ok (.istore 8, 2) := by decide +kernel
theorem dX10_bound_158 : decode cX10_bound 158 = .ok (.aload_n 0, 1) := by decide +kernel
theorem dX10_bound_159 : decode cX10_bound 159 = .ok (.getfield 61, 3) := by decide +kernel
theorem dX10_bound_162 : decode cX10_bound 162 = .ok (.iload 5, 2) := by decide +kernel
theorem dX10_bound_164 : decode cX10_bound 164 = .ok (.iload 8, 2) := by decide +kernel
theorem dX10_bound_166 : decode cX10_bound 166 = .ok (.aload_n 0, 1) := by decide +kernel
theorem dX10_bound_167 : decode cX10_bound 167 = .ok (.getfield 61, 3) := by decide +kernel
theorem dX10_bound_170 : decode cX10_bound 170 = .ok (.iload 5, 2) := by decide +kernel
theorem dX10_bound_172 : decode cX10_bound 172 = .ok (.iaload, 1) := by decide +kernel
theorem dX10_bound_173 : decode cX10_bound 173 = .ok (.if_icmp .ge 8, 3) := by decide +kernel
theorem dX10_bound_176 : decode cX10_bound 176 = .ok (.iload 8, 2) := by decide +kernel
theorem dX10_bound_178 : decode cX10_bound 178 = .ok (.goto 10, 3) := by decide +kernel
theorem dX10_bound_181 : decode cX10_bound 181 = .ok (.aload_n 0, 1) := by decide +kernel
theorem dX10_bound_182 : decode cX10_bound 182 = .ok (.getfield 61, 3) := by decide +kernel
theorem dX10_bound_185 : decode cX10_bound 185 = .ok (.iload 5, 2) := by decide +kernel
theorem dX10_bound_187 : decode cX10_bound 187 = .ok (.iaload, 1) := by decide +kernel
theorem dX10_bound_188 : decode cX10_bound 188 = .ok (.iastore, 1) := by decide +kernel
theorem dX10_bound_189 : decode cX10_bound 189 = .ok (.iinc 6 1, 3) := by decide +kernel
theorem dX10_bound_192 : decode cX10_bound 192 = .ok (.goto (-88), 3) := by decide +kernel
theorem dX10_bound_195 : decode cX10_bound 195 = .ok (.iinc 5 1, 3) := by decide +kernel
theorem dX10_bound_198 : decode cX10_bound 198 = .ok (.goto (-118), 3) := by decide +kernel
theorem dX10_bound_201 : decode cX10_bound 201 = .ok (.iconst 0, 1) := by decide +kernel
theorem dX10_bound_202 : decode cX10_bound 202 = .ok (.istore 5, 2) := by decide +kernel
theorem dX10_bound_204 : decode cX10_bound 204 = .ok (.iload 5, 2) := by decide +kernel
theorem dX10_bound_206 : decode cX10_bound 206 = .ok (.bipush 30, 2) := by decide +kernel
theorem dX10_bound_208 : decode cX10_bound 208 = .ok (.if_icmp .ge 23, 3) := by decide +kernel
theorem dX10_bound_211 : decode cX10_bound 211 = .ok (.aload_n 0, 1) := by decide +kernel
theorem dX10_bound_212 : decode cX10_bound 212 = .ok (.getfield 52, 3) := by decide +kernel
theorem dX10_bound_215 : decode cX10_bound 215 = .ok (.iload 5, 2) := by decide +kernel
theorem dX10_bound_217 : decode cX10_bound 217 = .ok (.aload_n 0, 1) := by decide +kernel
theorem dX10_bound_218 : decode cX10_bound 218 = .ok (.getfield 61, 3) := by decide +kernel
theorem dX10_bound_221 : decode cX10_bound 221 = .ok (.iload 5, 2) := by decide +kernel
theorem dX10_bound_223 : decode cX10_bound 223 = .ok (.iaload, 1) := by decide +kernel
theorem dX10_bound_224 : decode cX10_bound 224 = .ok (.iastore, 1) := by decide +kernel
theorem dX10_bound_225 : decode cX10_bound 225 = .ok (.iinc 5 1, 3) := by decide +kernel
theorem dX10_bound_228 : decode cX10_bound 228 = .ok (.goto (-24), 3) := by decide +kernel
theorem dX10_bound_231 : decode cX10_bound 231 = .ok (.iinc 4 1, 3) := by decide +kernel
theorem dX10_bound_234 : decode cX10_bound 234 = .ok (.goto (-163), 3) := by decide +kernel
theorem dX10_bound_237 : decode cX10_bound 237 = .ok (.aload_n 0, 1) := by decide +kernel
theorem dX10_bound_238 : decode cX10_bound 238 = .ok (.getfield 52, 3) := by decide +kernel
theorem dX10_bound_241 : decode cX10_bound 241 = .ok (.iload_n 2, 1) := by decide +kernel
theorem dX10_bound_242 : decode cX10_bound 242 = .ok (.iaload, 1) := by decide +kernel
theorem dX10_bound_243 : decode cX10_bound 243 = .ok (.ldc 200, 2) := by decide +kernel
theorem dX10_bound_245 : decode cX10_bound 245 = .ok (.if_icmp .ne 8, 3) := by decide +kernel
theorem dX10_bound_248 : decode cX10_bound 248 = .ok (.ldc 86, 2) := by decide +kernel
theorem dX10_bound_250 : decode cX10_bound 250 = .ok (.goto 9, 3) := by decide +kernel
theorem dX10_bound_253 : decode cX10_bound 253 = .ok (.aload_n 0, 1) := by decide +kernel
theorem dX10_bound_254 : decode cX10_bound 254 = .ok (.getfield 52, 3) := by decide +kernel
theorem dX10_bound_257 : decode cX10_bound 257 = .ok (.iload_n 2, 1) := by decide +kernel
theorem dX10_bound_258 : decode cX10_bound 258 = .ok (.iaload, 1) := by decide +kernel
theorem dX10_bound_259 : decode cX10_bound 259 = .ok (.ireturn, 1) := by decide +kernel
theorem dX10_comesTo_0 : decode cX10_comesTo 0 = .ok (.iconst 0, 1) := by decide +kernel
theorem dX10_comesTo_1 : decode cX10_comesTo 1 = .ok (.istore 4, 2) := by decide +kernel
theorem dX10_comesTo_3 : decode cX10_comesTo 3 = .ok (.iload 4, 2) := by decide +kernel
theorem dX10_comesTo_5 : decode cX10_comesTo 5 = .ok (.bipush 30, 2) := by decide +kernel
theorem dX10_comesTo_7 : decode cX10_comesTo 7 = .ok (.if_icmp .ge 27, 3) := by decide +kernel
theorem dX10_comesTo_10 : decode cX10_comesTo 10 = .ok (.aload_n 0, 1) := by decide +kernel
theorem dX10_comesTo_11 : decode cX10_comesTo 11 = .ok (.getfield 64, 3) := by decide +kernel
theorem dX10_comesTo_14 : decode cX10_comesTo 14 = .ok (.iload 4, 2) := by decide +kernel
theorem dX10_comesTo_16 : decode cX10_comesTo 16 = .ok (.iload 4, 2) := by decide +kernel
theorem dX10_comesTo_18 : decode cX10_comesTo 18 = .ok (.iload_n 1, 1) := by decide +kernel
theorem dX10_comesTo_19 : decode cX10_comesTo 19 = .ok (.if_icmp .ne 7, 3) := by decide +kernel
theorem dX10_comesTo_22 : decode cX10_comesTo 22 = .ok (.iconst 1, 1) := by decide +kernel
theorem dX10_comesTo_23 : decode cX10_comesTo 23 = .ok (.goto 4, 3) := by decide +kernel
theorem dX10_comesTo_26 : decode cX10_comesTo 26 = .ok (.iconst 0, 1) := by decide +kernel
theorem dX10_comesTo_27 : decode cX10_comesTo 27 = .ok (.bastore, 1) := by decide +kernel
theorem dX10_comesTo_28 : decode cX10_comesTo 28 = .ok (.iinc 4 1, 3) := by decide +kernel
theorem dX10_comesTo_31 : decode cX10_comesTo 31 = .ok (.goto (-28), 3) := by decide +kernel
theorem dX10_comesTo_34 : decode cX10_comesTo 34 = .ok (.iconst 1, 1) := by decide +kernel
theorem dX10_comesTo_35 : decode cX10_comesTo 35 = .ok (.istore 4, 2) := by decide +kernel
theorem dX10_comesTo_37 : decode cX10_comesTo 37 = .ok (.iconst 1, 1) := by decide +kernel
theorem dX10_comesTo_38 : decode cX10_comesTo 38 = .ok (.istore 5, 2) := by decide +kernel
theorem dX10_comesTo_40 : decode cX10_comesTo 40 = .ok (.iload 5, 2) := by decide +kernel
theorem dX10_comesTo_42 : decode cX10_comesTo 42 = .ok (.ifCond .eq 125, 3) := by decide +kernel
theorem dX10_comesTo_45 : decode cX10_comesTo 45 = .ok (.iconst 0, 1) := by decide +kernel
theorem dX10_comesTo_46 : decode cX10_comesTo 46 = .ok (.istore 5, 2) := by decide +kernel
theorem dX10_comesTo_48 : decode cX10_comesTo 48 = .ok (.iconst 0, 1) := by decide +kernel
theorem dX10_comesTo_49 : decode cX10_comesTo 49 = .ok (.istore 6, 2) := by decide +kernel
theorem dX10_comesTo_51 : decode cX10_comesTo 51 = .ok (.iload 6, 2) := by decide +kernel
theorem dX10_comesTo_53 : decode cX10_comesTo 53 = .ok (.bipush 30, 2) := by decide +kernel
theorem dX10_comesTo_55 : decode cX10_comesTo 55 = .ok (.if_icmp .ge 109, 3) := by decide +kernel
theorem dX10_comesTo_58 : decode cX10_comesTo 58 = .ok (.iconst 0, 1) := by decide +kernel
theorem dX10_comesTo_59 : decode cX10_comesTo 59 = .ok (.istore 7, 2) := by decide +kernel
theorem dX10_comesTo_61 : decode cX10_comesTo 61 = .ok (.iload 7, 2) := by decide +kernel
theorem dX10_comesTo_63 : decode cX10_comesTo 63 = .ok (.iconst 4, 1) := by decide +kernel
theorem dX10_comesTo_64 : decode cX10_comesTo 64 = .ok (.if_icmp .ge 94, 3) := by decide +kernel
theorem dX10_comesTo_67 : decode cX10_comesTo 67 = .ok (.iload 6, 2) := by decide +kernel
theorem dX10_comesTo_69 : decode cX10_comesTo 69 = .ok (.iload 7, 2) := by decide +kernel
theorem dX10_comesTo_71 : decode cX10_comesTo 71 = .ok (.invokestatic 179, 3) := by decide +kernel
theorem dX10_comesTo_74 : decode cX10_comesTo 74 = .ok (.istore 8, 2) := by decide +kernel
theorem dX10_comesTo_76 : decode cX10_comesTo 76 = .ok (.aload_n 0, 1) := by decide +kernel
theorem dX10_comesTo_77 : decode cX10_comesTo 77 = .ok (.getfield 64, 3) := by decide +kernel
theorem dX10_comesTo_80 : decode cX10_comesTo 80 = .ok (.iload 6, 2) := by decide +kernel
theorem dX10_comesTo_82 : decode cX10_comesTo 82 = .ok (.baload, 1) := by decide +kernel
theorem dX10_comesTo_83 : decode cX10_comesTo 83 = .ok (.ifCond .ne 47, 3) := by decide +kernel
theorem dX10_comesTo_86 : decode cX10_comesTo 86 = .ok (.iload 8, 2) := by decide +kernel
theorem dX10_comesTo_88 : decode cX10_comesTo 88 = .ok (.ifCond .lt 42, 3) := by decide +kernel
theorem dX10_comesTo_91 : decode cX10_comesTo 91 = .ok (.aload_n 0, 1) := by decide +kernel
theorem dX10_comesTo_92 : decode cX10_comesTo 92 = .ok (.getfield 64, 3) := by decide +kernel
theorem dX10_comesTo_95 : decode cX10_comesTo 95 = .ok (.iload 8, 2) := by decide +kernel
theorem dX10_comesTo_97 : decode cX10_comesTo 97 = .ok (.baload, 1) := by decide +kernel
theorem dX10_comesTo_98 : decode cX10_comesTo 98 = .ok (.ifCond .eq 32, 3) := by decide +kernel
theorem dX10_comesTo_101 : decode cX10_comesTo 101 = .ok (.iload_n 2, 1) := by decide +kernel
theorem dX10_comesTo_102 : decode cX10_comesTo 102 = .ok (.ifCond .eq 13, 3) := by decide +kernel
theorem dX10_comesTo_105 : decode cX10_comesTo 105 = .ok (.aload_n 0, 1) := by decide +kernel
theorem dX10_comesTo_106 : decode cX10_comesTo 106 = .ok (.iload 6, 2) := by decide +kernel
theorem dX10_comesTo_108 : decode cX10_comesTo 108 = .ok (.iconst 1, 1) := by decide +kernel
theorem dX10_comesTo_109 : decode cX10_comesTo 109 = .ok (.invokevirtual 92, 3) := by decide +kernel
theorem dX10_comesTo_112 : decode cX10_comesTo 112 = .ok (.goto 10, 3) := by decide +kernel
theorem dX10_comesTo_115 : decode cX10_comesTo 115 = .ok (.aload_n 0, 1) := by decide +kernel
theorem dX10_comesTo_116 : decode cX10_comesTo 116 = .ok (.getfield 49, 3) := by decide +kernel
theorem dX10_comesTo_119 : decode cX10_comesTo 119 = .ok (.iload 6, 2) := by decide +kernel
theorem dX10_comesTo_121 : decode cX10_comesTo 121 = .ok (.iaload, 1) := by decide +kernel
theorem dX10_comesTo_122 : decode cX10_comesTo 122 = .ok (.iload_n 3, 1) := by decide +kernel
theorem dX10_comesTo_123 : decode cX10_comesTo 123 = .ok (.if_icmp .gt 7, 3) := by decide +kernel
theorem dX10_comesTo_126 : decode cX10_comesTo 126 = .ok (.iconst 1, 1) := by decide +kernel
theorem dX10_comesTo_127 : decode cX10_comesTo 127 = .ok (.goto 4, 3) := by decide +kernel
theorem dX10_comesTo_130 : decode cX10_comesTo 130 = .ok (.iconst 0, 1) := by decide +kernel
theorem dX10_comesTo_131 : decode cX10_comesTo 131 = .ok (.istore 9, 2) := by decide +kernel
theorem dX10_comesTo_133 : decode cX10_comesTo 133 = .ok (.iload 9, 2) := by decide +kernel
theorem dX10_comesTo_135 : decode cX10_comesTo 135 = .ok (.ifCond .eq 17, 3) := by decide +kernel
theorem dX10_comesTo_138 : decode cX10_comesTo 138 = .ok (.aload_n 0, 1) := by decide +kernel
theorem dX10_comesTo_139 : decode cX10_comesTo 139 = .ok (.getfield 64, 3) := by decide +kernel
theorem dX10_comesTo_142 : decode cX10_comesTo 142 = .ok (.iload 6, 2) := by decide +kernel
theorem dX10_comesTo_144 : decode cX10_comesTo 144 = .ok (.iconst 1, 1) := by decide +kernel
theorem dX10_comesTo_145 : decode cX10_comesTo 145 = .ok (.bastore, 1) := by decide +kernel
theorem dX10_comesTo_146 : decode cX10_comesTo 146 = .ok (.iinc 4 1, 3) := by decide +kernel
theorem dX10_comesTo_149 : decode cX10_comesTo 149 = .ok (.iconst 1, 1) := by decide +kernel
theorem dX10_comesTo_150 : decode cX10_comesTo 150 = .ok (.istore 5, 2) := by decide +kernel
theorem dX10_comesTo_152 : decode cX10_comesTo 152 = .ok (.iinc 7 1, 3) := by decide +kernel
theorem dX10_comesTo_155 : decode cX10_comesTo 155 = .ok (.goto (-94), 3) := by decide +kernel
theorem dX10_comesTo_158 : decode cX10_comesTo 158 = .ok (.iinc 6 1, 3) := by decide +kernel
theorem dX10_comesTo_161 : decode cX10_comesTo 161 = .ok (.goto (-110), 3) := by decide +kernel
theorem dX10_comesTo_164 : decode cX10_comesTo 164 = .ok (.goto (-124), 3) := by decide +kernel
theorem dX10_comesTo_167 : decode cX10_comesTo 167 = .ok (.iload 4, 2) := by decide +kernel
theorem dX10_comesTo_169 : decode cX10_comesTo 169 = .ok (.ireturn, 1) := by decide +kernel
theorem dX10_wall_0 : decode cX10_wall 0 = .ok (.iload_n 1, 1) := by decide +kernel
theorem dX10_wall_1 : decode cX10_wall 1 = .ok (.invokestatic 116, 3) := by decide +kernel
theorem dX10_wall_4 : decode cX10_wall 4 = .ok (.ifCond .eq 10, 3) := by decide +kernel
theorem dX10_wall_7 : decode cX10_wall 7 = .ok (.iload_n 2, 1) := by decide +kernel
theorem dX10_wall_8 : decode cX10_wall 8 = .ok (.invokestatic 116, 3) := by decide +kernel
theorem dX10_wall_11 : decode cX10_wall 11 = .ok (.ifCond .ne 6, 3) := by decide +kernel
theorem dX10_wall_14 : decode cX10_wall 14 = .ok (.ldc 126, 2) := by decide +kernel
theorem dX10_wall_16 : decode cX10_wall 16 = .ok (.ireturn, 1) := by decide +kernel
theorem dX10_wall_17 : decode cX10_wall 17 = .ok (.aload_n 0, 1) := by decide +kernel
theorem dX10_wall_18 : decode cX10_wall 18 = .ok (.iload_n 1, 1) := by decide +kernel
theorem dX10_wall_19 : decode cX10_wall 19 = .ok (.iconst 1, 1) := by decide +kernel
theorem dX10_wall_20 : decode cX10_wall 20 = .ok (.invokevirtual 92, 3) := by decide +kernel
theorem dX10_wall_23 : decode cX10_wall 23 = .ok (.aload_n 0, 1) := by decide +kernel
theorem dX10_wall_24 : decode cX10_wall 24 = .ok (.iload_n 2, 1) := by decide +kernel
theorem dX10_wall_25 : decode cX10_wall 25 = .ok (.iconst 1, 1) := by decide +kernel
theorem dX10_wall_26 : decode cX10_wall 26 = .ok (.invokevirtual 92, 3) := by decide +kernel
theorem dX10_wall_29 : decode cX10_wall 29 = .ok (.if_icmp .le 12, 3) := by decide +kernel
theorem dX10_wall_32 : decode cX10_wall 32 = .ok (.aload_n 0, 1) := by decide +kernel
theorem dX10_wall_33 : decode cX10_wall 33 = .ok (.iload_n 1, 1) := by decide +kernel
theorem dX10_wall_34 : decode cX10_wall 34 = .ok (.iconst 1, 1) := by decide +kernel
theorem dX10_wall_35 : decode cX10_wall 35 = .ok (.invokevirtual 92, 3) := by decide +kernel
theorem dX10_wall_38 : decode cX10_wall 38 = .ok (.goto 9, 3) := by decide +kernel
theorem dX10_wall_41 : decode cX10_wall 41 = .ok (.aload_n 0, 1) := by decide +kernel
theorem dX10_wall_42 : decode cX10_wall 42 = .ok (.iload_n 2, 1) := by decide +kernel
theorem dX10_wall_43 : decode cX10_wall 43 = .ok (.iconst 1, 1) := by decide +kernel
theorem dX10_wall_44 : decode cX10_wall 44 = .ok (.invokevirtual 92, 3) := by decide +kernel
theorem dX10_wall_47 : decode cX10_wall 47 = .ok (.istore_n 3, 1) := by decide +kernel
theorem dX10_wall_48 : decode cX10_wall 48 = .ok (.aload_n 0, 1) := by decide +kernel
theorem dX10_wall_49 : decode cX10_wall 49 = .ok (.iload_n 1, 1) := by decide +kernel
theorem dX10_wall_50 : decode cX10_wall 50 = .ok (.iconst 1, 1) := by decide +kernel
theorem dX10_wall_51 : decode cX10_wall 51 = .ok (.iload_n 3, 1) := by decide +kernel
theorem dX10_wall_52 : decode cX10_wall 52 = .ok (.invokevirtual 213, 3) := by decide +kernel
theorem dX10_wall_55 : decode cX10_wall 55 = .ok (.istore 4, 2) := by decide +kernel
theorem dX10_wall_57 : decode cX10_wall 57 = .ok (.aload_n 0, 1) := by decide +kernel
theorem dX10_wall_58 : decode cX10_wall 58 = .ok (.getfield 64, 3) := by decide +kernel
theorem dX10_wall_61 : decode cX10_wall 61 = .ok (.iload_n 2, 1) := by decide +kernel
theorem dX10_wall_62 : decode cX10_wall 62 = .ok (.baload, 1) := by decide +kernel
theorem dX10_wall_63 : decode cX10_wall 63 = .ok (.ifCond .ne 18, 3) := by decide +kernel
theorem dX10_wall_66 : decode cX10_wall 66 = .ok (.iinc 3 1, 3) := by decide +kernel
theorem dX10_wall_69 : decode cX10_wall 69 = .ok (.aload_n 0, 1) := by decide +kernel
theorem dX10_wall_70 : decode cX10_wall 70 = .ok (.iload_n 1, 1) := by decide +kernel
theorem dX10_wall_71 : decode cX10_wall 71 = .ok (.iconst 1, 1) := by decide +kernel
theorem dX10_wall_72 : decode cX10_wall 72 = .ok (.iload_n 3, 1) := by decide +kernel
theorem dX10_wall_73 : decode cX10_wall 73 = .ok (.invokevirtual 213, 3) := by decide +kernel
theorem dX10_wall_76 : decode cX10_wall 76 = .ok (.istore 4, 2) := by decide +kernel
theorem dX10_wall_78 : decode cX10_wall 78 = .ok (.goto (-21), 3) := by decide +kernel
theorem dX10_wall_81 : decode cX10_wall 81 = .ok (.iload_n 3, 1) := by decide +kernel
theorem dX10_wall_82 : decode cX10_wall 82 = .ok (.ireturn, 1) := by decide +kernel
theorem dX10_reach_0 : decode cX10_reach 0 = .ok (.iload_n 1, 1) := by decide +kernel
theorem dX10_reach_1 : decode cX10_reach 1 = .ok (.invokestatic 116, 3) := by decide +kernel
theorem dX10_reach_4 : decode cX10_reach 4 = .ok (.ifCond .eq 10, 3) := by decide +kernel
theorem dX10_reach_7 : decode cX10_reach 7 = .ok (.iload_n 2, 1) := by decide +kernel
theorem dX10_reach_8 : decode cX10_reach 8 = .ok (.invokestatic 197, 3) := by decide +kernel
theorem dX10_reach_11 : decode cX10_reach 11 = .ok (.ifCond .ne 6, 3) := by decide +kernel
theorem dX10_reach_14 : decode cX10_reach 14 = .ok (.ldc 126, 2) := by decide +kernel
theorem dX10_reach_16 : decode cX10_reach 16 = .ok (.ireturn, 1) := by decide +kernel
theorem dX10_reach_17 : decode cX10_reach 17 = .ok (.aload_n 0, 1) := by decide +kernel
theorem dX10_reach_18 : decode cX10_reach 18 = .ok (.invokevirtual 201, 3) := by decide +kernel
theorem dX10_reach_21 : decode cX10_reach 21 = .ok (.aload_n 0, 1) := by decide +kernel
theorem dX10_reach_22 : decode cX10_reach 22 = .ok (.iload_n 1, 1) := by decide +kernel
theorem dX10_reach_23 : decode cX10_reach 23 = .ok (.iconst 0, 1) := by decide +kernel
theorem dX10_reach_24 : decode cX10_reach 24 = .ok (.iload_n 2, 1) := by decide +kernel
theorem dX10_reach_25 : decode cX10_reach 25 = .ok (.invokevirtual 213, 3) := by decide +kernel
theorem dX10_reach_28 : decode cX10_reach 28 = .ok (.ireturn, 1) := by decide +kernel
theorem dX10_odds_0 : decode cX10_odds 0 = .ok (.iload_n 1, 1) := by decide +kernel
theorem dX10_odds_1 : decode cX10_odds 1 = .ok (.i2l, 1) := by decide +kernel
theorem dX10_odds_2 : decode cX10_odds 2 = .ok (.lconst 0, 1) := by decide +kernel
theorem dX10_odds_3 : decode cX10_odds 3 = .ok (.ldc2_w 217, 3) := by decide +kernel
theorem dX10_odds_6 : decode cX10_odds 6 = .ok (.invokestatic 87, 3) := by decide +kernel
theorem dX10_odds_9 : decode cX10_odds 9 = .ok (.ifCond .eq 25, 3) := by decide +kernel
theorem dX10_odds_12 : decode cX10_odds 12 = .ok (.iload_n 2, 1) := by decide +kernel
theorem dX10_odds_13 : decode cX10_odds 13 = .ok (.i2l, 1) := by decide +kernel
theorem dX10_odds_14 : decode cX10_odds 14 = .ok (.lconst 0, 1) := by decide +kernel
theorem dX10_odds_15 : decode cX10_odds 15 = .ok (.ldc2_w 219, 3) := by decide +kernel
theorem dX10_odds_18 : decode cX10_odds 18 = .ok (.invokestatic 87, 3) := by decide +kernel
theorem dX10_odds_21 : decode cX10_odds 21 = .ok (.ifCond .eq 13, 3) := by decide +kernel
theorem dX10_odds_24 : decode cX10_odds 24 = .ok (.iload_n 3, 1) := by decide +kernel
theorem dX10_odds_25 : decode cX10_odds 25 = .ok (.i2l, 1) := by decide +kernel
theorem dX10_odds_26 : decode cX10_odds 26 = .ok (.lconst 0, 1) := by decide +kernel
theorem dX10_odds_27 : decode cX10_odds 27 = .ok (.lconst 1, 1) := by decide +kernel
theorem dX10_odds_28 : decode cX10_odds 28 = .ok (.invokestatic 87, 3) := by decide +kernel
theorem dX10_odds_31 : decode cX10_odds 31 = .ok (.ifCond .ne 7, 3) := by decide +kernel
theorem dX10_odds_34 : decode cX10_odds 34 = .ok (.ldc2_w 221, 3) := by decide +kernel
theorem dX10_odds_37 : decode cX10_odds 37 = .ok (.lreturn, 1) := by decide +kernel
theorem dX10_odds_38 : decode cX10_odds 38 = .ok (.iload_n 1, 1) := by decide +kernel
theorem dX10_odds_39 : decode cX10_odds 39 = .ok (.ifCond .ne 6, 3) := by decide +kernel
theorem dX10_odds_42 : decode cX10_odds 42 = .ok (.iload_n 3, 1) := by decide +kernel
theorem dX10_odds_43 : decode cX10_odds 43 = .ok (.i2l, 1) := by decide +kernel
theorem dX10_odds_44 : decode cX10_odds 44 = .ok (.lreturn, 1) := by decide +kernel
theorem dX10_odds_45 : decode cX10_odds 45 = .ok (.iload_n 1, 1) := by decide +kernel
theorem dX10_odds_46 : decode cX10_odds 46 = .ok (.i2l, 1) := by decide +kernel
theorem dX10_odds_47 : decode cX10_odds 47 = .ok (.lstore 4, 2) := by decide +kernel
theorem dX10_odds_49 : decode cX10_odds 49 = .ok (.iconst 0, 1) := by decide +kernel
theorem dX10_odds_50 : decode cX10_odds 50 = .ok (.istore 6, 2) := by decide +kernel
theorem dX10_odds_52 : decode cX10_odds 52 = .ok (.iload 6, 2) := by decide +kernel
theorem dX10_odds_54 : decode cX10_odds 54 = .ok (.iload_n 2, 1) := by decide +kernel
theorem dX10_odds_55 : decode cX10_odds 55 = .ok (.if_icmp .ge 17, 3) := by decide +kernel
theorem dX10_odds_58 : decode cX10_odds 58 = .ok (.lload 4, 2) := by decide +kernel
theorem dX10_odds_60 : decode cX10_odds 60 = .ok (.ldc2_w 171, 3) := by decide +kernel
theorem dX10_odds_63 : decode cX10_odds 63 = .ok (.lmul, 1) := by decide +kernel
theorem dX10_odds_64 : decode cX10_odds 64 = .ok (.lstore 4, 2) := by decide +kernel
theorem dX10_odds_66 : decode cX10_odds 66 = .ok (.iinc 6 1, 3) := by decide +kernel
theorem dX10_odds_69 : decode cX10_odds 69 = .ok (.goto (-17), 3) := by decide +kernel
theorem dX10_odds_72 : decode cX10_odds 72 = .ok (.lload 4, 2) := by decide +kernel
theorem dX10_odds_74 : decode cX10_odds 74 = .ok (.ldc2_w 217, 3) := by decide +kernel
theorem dX10_odds_77 : decode cX10_odds 77 = .ok (.ladd, 1) := by decide +kernel
theorem dX10_odds_78 : decode cX10_odds 78 = .ok (.iload_n 1, 1) := by decide +kernel
theorem dX10_odds_79 : decode cX10_odds 79 = .ok (.i2l, 1) := by decide +kernel
theorem dX10_odds_80 : decode cX10_odds 80 = .ok (.lsub, 1) := by decide +kernel
theorem dX10_odds_81 : decode cX10_odds 81 = .ok (.lstore 6, 2) := by decide +kernel
theorem dX10_odds_83 : decode cX10_odds 83 = .ok (.lload 4, 2) := by decide +kernel
theorem dX10_odds_85 : decode cX10_odds 85 = .ok (.lstore 8, 2) := by decide +kernel
theorem dX10_odds_87 : decode cX10_odds 87 = .ok (.lload 6, 2) := by decide +kernel
theorem dX10_odds_89 : decode cX10_odds 89 = .ok (.lstore 10, 2) := by decide +kernel
theorem dX10_odds_91 : decode cX10_odds 91 = .ok (.lload 10, 2) := by decide +kernel
theorem dX10_odds_93 : decode cX10_odds 93 = .ok (.lconst 0, 1) := by decide +kernel
theorem dX10_odds_94 : decode cX10_odds 94 = .ok (.lcmp, 1) := by decide +kernel
theorem dX10_odds_95 : decode cX10_odds 95 = .ok (.ifCond .le 21, 3) := by decide +kernel
theorem dX10_odds_98 : decode cX10_odds 98 = .ok (.lload 8, 2) := by decide +kernel
theorem dX10_odds_100 : decode cX10_odds 100 = .ok (.lload 10, 2) := by decide +kernel
theorem dX10_odds_102 : decode cX10_odds 102 = .ok (.lrem, 1) := by decide +kernel
theorem dX10_odds_103 : decode cX10_odds 103 = .ok (.lstore 12, 2) := by decide +kernel
theorem dX10_odds_105 : decode cX10_odds 105 = .ok (.lload 10, 2) := by decide +kernel
theorem dX10_odds_107 : decode cX10_odds 107 = .ok (.lstore 8, 2) := by decide +kernel
theorem dX10_odds_109 : decode cX10_odds 109 = .ok (.lload 12, 2) := by decide +kernel
theorem dX10_odds_111 : decode cX10_odds 111 = .ok (.lstore 10, 2) := by decide +kernel
theorem dX10_odds_113 : decode cX10_odds 113 = .ok (.goto (-22), 3) := by decide +kernel
theorem dX10_odds_116 : decode cX10_odds 116 = .ok (.iload_n 3, 1) := by decide +kernel
theorem dX10_odds_117 : decode cX10_odds 117 = .ok (.ifCond .ne 11, 3) := by decide +kernel
theorem dX10_odds_120 : decode cX10_odds 120 = .ok (.lload 4, 2) := by decide +kernel
theorem dX10_odds_122 : decode cX10_odds 122 = .ok (.lload 8, 2) := by decide +kernel
theorem dX10_odds_124 : decode cX10_odds 124 = .ok (.ldiv, 1) := by decide +kernel
theorem dX10_odds_125 : decode cX10_odds 125 = .ok (.goto 8, 3) := by decide +kernel
theorem dX10_odds_128 : decode cX10_odds 128 = .ok (.lload 6, 2) := by decide +kernel
theorem dX10_odds_130 : decode cX10_odds 130 = .ok (.lload 8, 2) := by decide +kernel
theorem dX10_odds_132 : decode cX10_odds 132 = .ok (.ldiv, 1) := by decide +kernel
theorem dX10_odds_133 : decode cX10_odds 133 = .ok (.lreturn, 1) := by decide +kernel
theorem dX10_feed_0 : decode cX10_feed 0 = .ok (.aload_n 0, 1) := by decide +kernel
theorem dX10_feed_1 : decode cX10_feed 1 = .ok (.getfield 223, 3) := by decide +kernel
theorem dX10_feed_4 : decode cX10_feed 4 = .ok (.bipush 12, 2) := by decide +kernel
theorem dX10_feed_6 : decode cX10_feed 6 = .ok (.iadd, 1) := by decide +kernel
theorem dX10_feed_7 : decode cX10_feed 7 = .ok (.bipush 96, 2) := by decide +kernel
theorem dX10_feed_9 : decode cX10_feed 9 = .ok (.if_icmp .le 6, 3) := by decide +kernel
theorem dX10_feed_12 : decode cX10_feed 12 = .ok (.ldc 189, 2) := by decide +kernel
theorem dX10_feed_14 : decode cX10_feed 14 = .ok (.ireturn, 1) := by decide +kernel
theorem dX10_feed_15 : decode cX10_feed 15 = .ok (.iconst 0, 1) := by decide +kernel
theorem dX10_feed_16 : decode cX10_feed 16 = .ok (.istore 4, 2) := by decide +kernel
theorem dX10_feed_18 : decode cX10_feed 18 = .ok (.iload 4, 2) := by decide +kernel
theorem dX10_feed_20 : decode cX10_feed 20 = .ok (.bipush 12, 2) := by decide +kernel
theorem dX10_feed_22 : decode cX10_feed 22 = .ok (.if_icmp .ge 69, 3) := by decide +kernel
theorem dX10_feed_25 : decode cX10_feed 25 = .ok (.iload 4, 2) := by decide +kernel
theorem dX10_feed_27 : decode cX10_feed 27 = .ok (.iconst 4, 1) := by decide +kernel
theorem dX10_feed_28 : decode cX10_feed 28 = .ok (.if_icmp .ge 7, 3) := by decide +kernel
theorem dX10_feed_31 : decode cX10_feed 31 = .ok (.iload_n 1, 1) := by decide +kernel
theorem dX10_feed_32 : decode cX10_feed 32 = .ok (.goto 15, 3) := by decide +kernel
theorem dX10_feed_35 : decode cX10_feed 35 = .ok (.iload 4, 2) := by decide +kernel
theorem dX10_feed_37 : decode cX10_feed 37 = .ok (.bipush 8, 2) := by decide +kernel
theorem dX10_feed_39 : decode cX10_feed 39 = .ok (.if_icmp .ge 7, 3) := by decide +kernel
theorem dX10_feed_42 : decode cX10_feed 42 = .ok (.iload_n 2, 1) := by decide +kernel
theorem dX10_feed_43 : decode cX10_feed 43 = .ok (.goto 4, 3) := by decide +kernel
theorem dX10_feed_46 : decode cX10_feed 46 = .ok (.iload_n 3, 1) := by decide +kernel
theorem dX10_feed_47 : decode cX10_feed 47 = .ok (.istore 5, 2) := by decide +kernel
theorem dX10_feed_49 : decode cX10_feed 49 = .ok (.aload_n 0, 1) := by decide +kernel
theorem dX10_feed_50 : decode cX10_feed 50 = .ok (.getfield 68, 3) := by decide +kernel
theorem dX10_feed_53 : decode cX10_feed 53 = .ok (.aload_n 0, 1) := by decide +kernel
theorem dX10_feed_54 : decode cX10_feed 54 = .ok (.getfield 223, 3) := by decide +kernel
theorem dX10_feed_57 : decode cX10_feed 57 = .ok (.iload 5, 2) := by decide +kernel
theorem dX10_feed_59 : decode cX10_feed 59 = .ok (.bipush 24, 2) := by decide +kernel
theorem dX10_feed_61 : decode cX10_feed 61 = .ok (.bipush 8, 2) := by decide +kernel
theorem dX10_feed_63 : decode cX10_feed 63 = .ok (.iload 4, 2) := by decide +kernel
theorem dX10_feed_65 : decode cX10_feed 65 = .ok (.iconst 4, 1) := by decide +kernel
theorem dX10_feed_66 : decode cX10_feed 66 = .ok (.irem, 1) := by decide +kernel
theorem dX10_feed_67 : decode cX10_feed 67 = .ok (.imul, 1) := by decide +kernel
theorem dX10_feed_68 : decode cX10_feed 68 = .ok (.isub, 1) := by decide +kernel
theorem dX10_feed_69 : decode cX10_feed 69 = .ok (.ishr, 1) := by decide +kernel
theorem dX10_feed_70 : decode cX10_feed 70 = .ok (.sipush 255, 3) := by decide +kernel
theorem dX10_feed_73 : decode cX10_feed 73 = .ok (.iand, 1) := by decide +kernel
theorem dX10_feed_74 : decode cX10_feed 74 = .ok (.iastore, 1) := by decide +kernel
theorem dX10_feed_75 : decode cX10_feed 75 = .ok (.aload_n 0, 1) := by decide +kernel
theorem dX10_feed_76 : decode cX10_feed 76 = .ok (.dup, 1) := by decide +kernel
theorem dX10_feed_77 : decode cX10_feed 77 = .ok (.getfield 223, 3) := by decide +kernel
theorem dX10_feed_80 : decode cX10_feed 80 = .ok (.iconst 1, 1) := by decide +kernel
theorem dX10_feed_81 : decode cX10_feed 81 = .ok (.iadd, 1) := by decide +kernel
theorem dX10_feed_82 : decode cX10_feed 82 = .ok (.putfield 223, 3) := by decide +kernel
theorem dX10_feed_85 : decode cX10_feed 85 = .ok (.iinc 4 1, 3) := by decide +kernel
theorem dX10_feed_88 : decode cX10_feed 88 = .ok (.goto (-70), 3) := by decide +kernel
theorem dX10_feed_91 : decode cX10_feed 91 = .ok (.aload_n 0, 1) := by decide +kernel
theorem dX10_feed_92 : decode cX10_feed 92 = .ok (.getfield 223, 3) := by decide +kernel
theorem dX10_feed_95 : decode cX10_feed 95 = .ok (.ireturn, 1) := by decide +kernel
theorem dX10_trim_0 : decode cX10_trim 0 = .ok (.iload_n 1, 1) := by decide +kernel
theorem dX10_trim_1 : decode cX10_trim 1 = .ok (.i2l, 1) := by decide +kernel
theorem dX10_trim_2 : decode cX10_trim 2 = .ok (.lconst 0, 1) := by decide +kernel
theorem dX10_trim_3 : decode cX10_trim 3 = .ok (.aload_n 0, 1) := by decide +kernel
theorem dX10_trim_4 : decode cX10_trim 4 = .ok (.getfield 223, 3) := by decide +kernel
theorem dX10_trim_7 : decode cX10_trim 7 = .ok (.i2l, 1) := by decide +kernel
theorem dX10_trim_8 : decode cX10_trim 8 = .ok (.invokestatic 87, 3) := by decide +kernel
theorem dX10_trim_11 : decode cX10_trim 11 = .ok (.ifCond .ne 6, 3) := by decide +kernel
theorem dX10_trim_14 : decode cX10_trim 14 = .ok (.ldc 126, 2) := by decide +kernel
theorem dX10_trim_16 : decode cX10_trim 16 = .ok (.ireturn, 1) := by decide +kernel
theorem dX10_trim_17 : decode cX10_trim 17 = .ok (.aload_n 0, 1) := by decide +kernel
theorem dX10_trim_18 : decode cX10_trim 18 = .ok (.iload_n 1, 1) := by decide +kernel
theorem dX10_trim_19 : decode cX10_trim 19 = .ok (.putfield 223, 3) := by decide +kernel
theorem dX10_trim_22 : decode cX10_trim 22 = .ok (.iload_n 1, 1) := by decide +kernel
theorem dX10_trim_23 : decode cX10_trim 23 = .ok (.ireturn, 1) := by decide +kernel
theorem dX10_isLetter_0 : decode cX10_isLetter 0 = .ok (.iload_n 1, 1) := by decide +kernel
theorem dX10_isLetter_1 : decode cX10_isLetter 1 = .ok (.aload_n 0, 1) := by decide +kernel
theorem dX10_isLetter_2 : decode cX10_isLetter 2 = .ok (.getfield 223, 3) := by decide +kernel
theorem dX10_isLetter_5 : decode cX10_isLetter 5 = .ok (.if_icmp .ge 26, 3) := by decide +kernel
theorem dX10_isLetter_8 : decode cX10_isLetter 8 = .ok (.aload_n 0, 1) := by decide +kernel
theorem dX10_isLetter_9 : decode cX10_isLetter 9 = .ok (.getfield 68, 3) := by decide +kernel
theorem dX10_isLetter_12 : decode cX10_isLetter 12 = .ok (.iload_n 1, 1) := by decide +kernel
theorem dX10_isLetter_13 : decode cX10_isLetter 13 = .ok (.iaload, 1) := by decide +kernel
theorem dX10_isLetter_14 : decode cX10_isLetter 14 = .ok (.i2l, 1) := by decide +kernel
theorem dX10_isLetter_15 : decode cX10_isLetter 15 = .ok (.ldc2_w 227, 3) := by decide +kernel
theorem dX10_isLetter_18 : decode cX10_isLetter 18 = .ok (.ldc2_w 229, 3) := by decide +kernel
theorem dX10_isLetter_21 : decode cX10_isLetter 21 = .ok (.invokestatic 87, 3) := by decide +kernel
theorem dX10_isLetter_24 : decode cX10_isLetter 24 = .ok (.ifCond .eq 7, 3) := by decide +kernel
theorem dX10_isLetter_27 : decode cX10_isLetter 27 = .ok (.iconst 1, 1) := by decide +kernel
theorem dX10_isLetter_28 : decode cX10_isLetter 28 = .ok (.goto 4, 3) := by decide +kernel
theorem dX10_isLetter_31 : decode cX10_isLetter 31 = .ok (.iconst 0, 1) := by decide +kernel
theorem dX10_isLetter_32 : decode cX10_isLetter 32 = .ok (.ireturn, 1) := by decide +kernel
theorem dX10_isDigit_0 : decode cX10_isDigit 0 = .ok (.iload_n 1, 1) := by decide +kernel
theorem dX10_isDigit_1 : decode cX10_isDigit 1 = .ok (.aload_n 0, 1) := by decide +kernel
theorem dX10_isDigit_2 : decode cX10_isDigit 2 = .ok (.getfield 223, 3) := by decide +kernel
theorem dX10_isDigit_5 : decode cX10_isDigit 5 = .ok (.if_icmp .ge 26, 3) := by decide +kernel
theorem dX10_isDigit_8 : decode cX10_isDigit 8 = .ok (.aload_n 0, 1) := by decide +kernel
theorem dX10_isDigit_9 : decode cX10_isDigit 9 = .ok (.getfield 68, 3) := by decide +kernel
theorem dX10_isDigit_12 : decode cX10_isDigit 12 = .ok (.iload_n 1, 1) := by decide +kernel
theorem dX10_isDigit_13 : decode cX10_isDigit 13 = .ok (.iaload, 1) := by decide +kernel
theorem dX10_isDigit_14 : decode cX10_isDigit 14 = .ok (.i2l, 1) := by decide +kernel
theorem dX10_isDigit_15 : decode cX10_isDigit 15 = .ok (.ldc2_w 166, 3) := by decide +kernel
theorem dX10_isDigit_18 : decode cX10_isDigit 18 = .ok (.ldc2_w 231, 3) := by decide +kernel
theorem dX10_isDigit_21 : decode cX10_isDigit 21 = .ok (.invokestatic 87, 3) := by decide +kernel
theorem dX10_isDigit_24 : decode cX10_isDigit 24 = .ok (.ifCond .eq 7, 3) := by decide +kernel
theorem dX10_isDigit_27 : decode cX10_isDigit 27 = .ok (.iconst 1, 1) := by decide +kernel
theorem dX10_isDigit_28 : decode cX10_isDigit 28 = .ok (.goto 4, 3) := by decide +kernel
theorem dX10_isDigit_31 : decode cX10_isDigit 31 = .ok (.iconst 0, 1) := by decide +kernel
theorem dX10_isDigit_32 : decode cX10_isDigit 32 = .ok (.ireturn, 1) := by decide +kernel
theorem dX10_nextToken_0 : decode cX10_nextToken 0 = .ok (.aload_n 0, 1) := by decide +kernel
theorem dX10_nextToken_1 : decode cX10_nextToken 1 = .ok (.getfield 233, 3) := by decide +kernel
theorem dX10_nextToken_4 : decode cX10_nextToken 4 = .ok (.ifCond .le 23, 3) := by decide +kernel
theorem dX10_nextToken_7 : decode cX10_nextToken 7 = .ok (.aload_n 0, 1) := by decide +kernel
theorem dX10_nextToken_8 : decode cX10_nextToken 8 = .ok (.getfield 236, 3) := by decide +kernel
theorem dX10_nextToken_11 : decode cX10_nextToken 11 = .ok (.iconst 1, 1) := by decide +kernel
theorem dX10_nextToken_12 : decode cX10_nextToken 12 = .ok (.if_icmp .eq 11, 3) := by decide +kernel
theorem dX10_nextToken_15 : decode cX10_nextToken 15 = .ok (.aload_n 0, 1) := by decide +kernel
theorem dX10_nextToken_16 : decode cX10_nextToken 16 = .ok (.getfield 236, 3) := by decide +kernel
theorem dX10_nextToken_19 : decode cX10_nextToken 19 = .ok (.iconst 2, 1) := by decide +kernel
theorem dX10_nextToken_20 : decode cX10_nextToken 20 = .ok (.if_icmp .ne 7, 3) := by decide +kernel
theorem dX10_nextToken_23 : decode cX10_nextToken 23 = .ok (.iconst 1, 1) := by decide +kernel
theorem dX10_nextToken_24 : decode cX10_nextToken 24 = .ok (.goto 4, 3) := by decide +kernel
theorem dX10_nextToken_27 : decode cX10_nextToken 27 = .ok (.iconst 0, 1) := by decide +kernel
theorem dX10_nextToken_28 : decode cX10_nextToken 28 = .ok (.istore_n 1, 1) := by decide +kernel
theorem dX10_nextToken_29 : decode cX10_nextToken 29 = .ok (.aload_n 0, 1) := by decide +kernel
theorem dX10_nextToken_30 : decode cX10_nextToken 30 = .ok (.getfield 233, 3) := by decide +kernel
theorem dX10_nextToken_33 : decode cX10_nextToken 33 = .ok (.istore_n 2, 1) := by decide +kernel
theorem dX10_nextToken_34 : decode cX10_nextToken 34 = .ok (.aload_n 0, 1) := by decide +kernel
theorem dX10_nextToken_35 : decode cX10_nextToken 35 = .ok (.getfield 233, 3) := by decide +kernel
theorem dX10_nextToken_38 : decode cX10_nextToken 38 = .ok (.aload_n 0, 1) := by decide +kernel
theorem dX10_nextToken_39 : decode cX10_nextToken 39 = .ok (.getfield 223, 3) := by decide +kernel
theorem dX10_nextToken_42 : decode cX10_nextToken 42 = .ok (.if_icmp .ge 30, 3) := by decide +kernel
theorem dX10_nextToken_45 : decode cX10_nextToken 45 = .ok (.aload_n 0, 1) := by decide +kernel
theorem dX10_nextToken_46 : decode cX10_nextToken 46 = .ok (.getfield 68, 3) := by decide +kernel
theorem dX10_nextToken_49 : decode cX10_nextToken 49 = .ok (.aload_n 0, 1) := by decide +kernel
theorem dX10_nextToken_50 : decode cX10_nextToken 50 = .ok (.getfield 233, 3) := by decide +kernel
theorem dX10_nextToken_53 : decode cX10_nextToken 53 = .ok (.iaload, 1) := by decide +kernel
theorem dX10_nextToken_54 : decode cX10_nextToken 54 = .ok (.bipush 32, 2) := by decide +kernel
theorem dX10_nextToken_56 : decode cX10_nextToken 56 = .ok (.if_icmp .ne 16, 3) := by decide +kernel
theorem dX10_nextToken_59 : decode cX10_nextToken 59 = .ok (.aload_n 0, 1) := by decide +kernel
theorem dX10_nextToken_60 : decode cX10_nextToken 60 = .ok (.dup, 1) := by decide +kernel
theorem dX10_nextToken_61 : decode cX10_nextToken 61 = .ok (.getfield 233, 3) := by decide +kernel
theorem dX10_nextToken_64 : decode cX10_nextToken 64 = .ok (.iconst 1, 1) := by decide +kernel
theorem dX10_nextToken_65 : decode cX10_nextToken 65 = .ok (.iadd, 1) := by decide +kernel
theorem dX10_nextToken_66 : decode cX10_nextToken 66 = .ok (.putfield 233, 3) := by decide +kernel
theorem dX10_nextToken_69 : decode cX10_nextToken 69 = .ok (.goto (-35), 3) := by decide +kernel
theorem dX10_nextToken_72 : decode cX10_nextToken 72 = .ok (.iload_n 1, 1) := by decide +kernel
theorem dX10_nextToken_73 : decode cX10_nextToken 73 = .ok (.ifCond .eq 15, 3) := by decide +kernel
theorem dX10_nextToken_76 : decode cX10_nextToken 76 = .ok (.iload_n 2, 1) := by decide +kernel
theorem dX10_nextToken_77 : decode cX10_nextToken 77 = .ok (.aload_n 0, 1) := by decide +kernel
theorem dX10_nextToken_78 : decode cX10_nextToken 78 = .ok (.getfield 233, 3) := by decide +kernel
theorem dX10_nextToken_81 : decode cX10_nextToken 81 = .ok (.if_icmp .ne 7, 3) := by decide +kernel
theorem dX10_nextToken_84 : decode cX10_nextToken 84 = .ok (.iconst 1, 1) := by decide +kernel
theorem dX10_nextToken_85 : decode cX10_nextToken 85 = .ok (.goto 4, 3) := by decide +kernel
theorem dX10_nextToken_88 : decode cX10_nextToken 88 = .ok (.iconst 0, 1) := by decide +kernel
theorem dX10_nextToken_89 : decode cX10_nextToken 89 = .ok (.istore_n 1, 1) := by decide +kernel
theorem dX10_nextToken_90 : decode cX10_nextToken 90 = .ok (.aload_n 0, 1) := by decide +kernel
theorem dX10_nextToken_91 : decode cX10_nextToken 91 = .ok (.aload_n 0, 1) := by decide +kernel
theorem dX10_nextToken_92 : decode cX10_nextToken 92 = .ok (.getfield 233, 3) := by decide +kernel
theorem dX10_nextToken_95 : decode cX10_nextToken 95 = .ok (.putfield 239, 3) := by decide +kernel
theorem dX10_nextToken_98 : decode cX10_nextToken 98 = .ok (.aload_n 0, 1) := by decide +kernel
theorem dX10_nextToken_99 : decode cX10_nextToken 99 = .ok (.getfield 239, 3) := by decide +kernel
theorem dX10_nextToken_102 : decode cX10_nextToken 102 = .ok (.aload_n 0, 1) := by decide +kernel
theorem dX10_nextToken_103 : decode cX10_nextToken 103 = .ok (.getfield 223, 3) := by decide +kernel
theorem dX10_nextToken_106 : decode cX10_nextToken 106 = .ok (.if_icmp .ne 11, 3) := by decide +kernel
theorem dX10_nextToken_109 : decode cX10_nextToken 109 = .ok (.aload_n 0, 1) := by decide +kernel
theorem dX10_nextToken_110 : decode cX10_nextToken 110 = .ok (.iconst 0, 1) := by decide +kernel
theorem dX10_nextToken_111 : decode cX10_nextToken 111 = .ok (.putfield 236, 3) := by decide +kernel
theorem dX10_nextToken_114 : decode cX10_nextToken 114 = .ok (.goto 225, 3) := by decide +kernel
theorem dX10_nextToken_117 : decode cX10_nextToken 117 = .ok (.aload_n 0, 1) := by decide +kernel
theorem dX10_nextToken_118 : decode cX10_nextToken 118 = .ok (.aload_n 0, 1) := by decide +kernel
theorem dX10_nextToken_119 : decode cX10_nextToken 119 = .ok (.getfield 239, 3) := by decide +kernel
theorem dX10_nextToken_122 : decode cX10_nextToken 122 = .ok (.invokevirtual 242, 3) := by decide +kernel
theorem dX10_nextToken_125 : decode cX10_nextToken 125 = .ok (.ifCond .eq 73, 3) := by decide +kernel
theorem dX10_nextToken_128 : decode cX10_nextToken 128 = .ok (.aload_n 0, 1) := by decide +kernel
theorem dX10_nextToken_129 : decode cX10_nextToken 129 = .ok (.aload_n 0, 1) := by decide +kernel
theorem dX10_nextToken_130 : decode cX10_nextToken 130 = .ok (.getfield 233, 3) := by decide +kernel
theorem dX10_nextToken_133 : decode cX10_nextToken 133 = .ok (.invokevirtual 242, 3) := by decide +kernel
theorem dX10_nextToken_136 : decode cX10_nextToken 136 = .ok (.ifCond .eq 16, 3) := by decide +kernel
theorem dX10_nextToken_139 : decode cX10_nextToken 139 = .ok (.aload_n 0, 1) := by decide +kernel
theorem dX10_nextToken_140 : decode cX10_nextToken 140 = .ok (.dup, 1) := by decide +kernel
theorem dX10_nextToken_141 : decode cX10_nextToken 141 = .ok (.getfield 233, 3) := by decide +kernel
theorem dX10_nextToken_144 : decode cX10_nextToken 144 = .ok (.iconst 1, 1) := by decide +kernel
theorem dX10_nextToken_145 : decode cX10_nextToken 145 = .ok (.iadd, 1) := by decide +kernel
theorem dX10_nextToken_146 : decode cX10_nextToken 146 = .ok (.putfield 233, 3) := by decide +kernel
theorem dX10_nextToken_149 : decode cX10_nextToken 149 = .ok (.goto (-21), 3) := by decide +kernel
theorem dX10_nextToken_152 : decode cX10_nextToken 152 = .ok (.aload_n 0, 1) := by decide +kernel
theorem dX10_nextToken_153 : decode cX10_nextToken 153 = .ok (.iload_n 1, 1) := by decide +kernel
theorem dX10_nextToken_154 : decode cX10_nextToken 154 = .ok (.ifCond .eq 7, 3) := by decide +kernel
theorem dX10_nextToken_157 : decode cX10_nextToken 157 = .ok (.iconst 4, 1) := by decide +kernel
theorem dX10_nextToken_158 : decode cX10_nextToken 158 = .ok (.goto 4, 3) := by decide +kernel
theorem dX10_nextToken_161 : decode cX10_nextToken 161 = .ok (.iconst 1, 1) := by decide +kernel
theorem dX10_nextToken_162 : decode cX10_nextToken 162 = .ok (.putfield 236, 3) := by decide +kernel
theorem dX10_nextToken_165 : decode cX10_nextToken 165 = .ok (.aload_n 0, 1) := by decide +kernel
theorem dX10_nextToken_166 : decode cX10_nextToken 166 = .ok (.aload_n 0, 1) := by decide +kernel
theorem dX10_nextToken_167 : decode cX10_nextToken 167 = .ok (.getfield 233, 3) := by decide +kernel
theorem dX10_nextToken_170 : decode cX10_nextToken 170 = .ok (.aload_n 0, 1) := by decide +kernel
theorem dX10_nextToken_171 : decode cX10_nextToken 171 = .ok (.getfield 239, 3) := by decide +kernel
theorem dX10_nextToken_174 : decode cX10_nextToken 174 = .ok (.isub, 1) := by decide +kernel
theorem dX10_nextToken_175 : decode cX10_nextToken 175 = .ok (.iconst 1, 1) := by decide +kernel
theorem dX10_nextToken_176 : decode cX10_nextToken 176 = .ok (.if_icmp .ne 15, 3) := by decide +kernel
theorem dX10_nextToken_179 : decode cX10_nextToken 179 = .ok (.aload_n 0, 1) := by decide +kernel
theorem dX10_nextToken_180 : decode cX10_nextToken 180 = .ok (.getfield 68, 3) := by decide +kernel
theorem dX10_nextToken_183 : decode cX10_nextToken 183 = .ok (.aload_n 0, 1) := by decide +kernel
theorem dX10_nextToken_184 : decode cX10_nextToken 184 = .ok (.getfield 239, 3) := by decide +kernel
theorem dX10_nextToken_187 : decode cX10_nextToken 187 = .ok (.iaload, 1) := by decide +kernel
theorem dX10_nextToken_188 : decode cX10_nextToken 188 = .ok (.goto 4, 3) := by decide +kernel
theorem dX10_nextToken_191 : decode cX10_nextToken 191 = .ok (.iconst 0, 1) := by decide +kernel
theorem dX10_nextToken_192 : decode cX10_nextToken 192 = .ok (.putfield 245, 3) := by decide +kernel
theorem dX10_nextToken_195 : decode cX10_nextToken 195 = .ok (.goto 144, 3) := by decide +kernel
theorem dX10_nextToken_198 : decode cX10_nextToken 198 = .ok (.aload_n 0, 1) := by decide +kernel
theorem dX10_nextToken_199 : decode cX10_nextToken 199 = .ok (.aload_n 0, 1) := by decide +kernel
theorem dX10_nextToken_200 : decode cX10_nextToken 200 = .ok (.getfield 239, 3) := by decide +kernel
theorem dX10_nextToken_203 : decode cX10_nextToken 203 = .ok (.invokevirtual 248, 3) := by decide +kernel
theorem dX10_nextToken_206 : decode cX10_nextToken 206 = .ok (.ifCond .eq 105, 3) := by decide +kernel
theorem dX10_nextToken_209 : decode cX10_nextToken 209 = .ok (.aload_n 0, 1) := by decide +kernel
theorem dX10_nextToken_210 : decode cX10_nextToken 210 = .ok (.iconst 0, 1) := by decide +kernel
theorem dX10_nextToken_211 : decode cX10_nextToken 211 = .ok (.putfield 251, 3) := by decide +kernel
theorem dX10_nextToken_214 : decode cX10_nextToken 214 = .ok (.aload_n 0, 1) := by decide +kernel
theorem dX10_nextToken_215 : decode cX10_nextToken 215 = .ok (.aload_n 0, 1) := by decide +kernel
theorem dX10_nextToken_216 : decode cX10_nextToken 216 = .ok (.getfield 233, 3) := by decide +kernel
theorem dX10_nextToken_219 : decode cX10_nextToken 219 = .ok (.invokevirtual 248, 3) := by decide +kernel
theorem dX10_nextToken_222 : decode cX10_nextToken 222 = .ok (.ifCond .eq 60, 3) := by decide +kernel
theorem dX10_nextToken_225 : decode cX10_nextToken 225 = .ok (.aload_n 0, 1) := by decide +kernel
theorem dX10_nextToken_226 : decode cX10_nextToken 226 = .ok (.aload_n 0, 1) := by decide +kernel
theorem dX10_nextToken_227 : decode cX10_nextToken 227 = .ok (.getfield 233, 3) := by decide +kernel
theorem dX10_nextToken_230 : decode cX10_nextToken 230 = .ok (.aload_n 0, 1) := by decide +kernel
theorem dX10_nextToken_231 : decode cX10_nextToken 231 = .ok (.getfield 239, 3) := by decide +kernel
theorem dX10_nextToken_234 : decode cX10_nextToken 234 = .ok (.isub, 1) := by decide +kernel
theorem dX10_nextToken_235 : decode cX10_nextToken 235 = .ok (.iconst 4, 1) := by decide +kernel
theorem dX10_nextToken_236 : decode cX10_nextToken 236 = .ok (.if_icmp .ge 26, 3) := by decide +kernel
theorem dX10_nextToken_239 : decode cX10_nextToken 239 = .ok (.bipush 10, 2) := by decide +kernel
theorem dX10_nextToken_241 : decode cX10_nextToken 241 = .ok (.aload_n 0, 1) := by decide +kernel
theorem dX10_nextToken_242 : decode cX10_nextToken 242 = .ok (.getfield 251, 3) := by decide +kernel
theorem dX10_nextToken_245 : decode cX10_nextToken 245 = .ok (.imul, 1) := by decide +kernel
theorem dX10_nextToken_246 : decode cX10_nextToken 246 = .ok (.aload_n 0, 1) := by decide +kernel
theorem dX10_nextToken_247 : decode cX10_nextToken 247 = .ok (.getfield 68, 3) := by decide +kernel
theorem dX10_nextToken_250 : decode cX10_nextToken 250 = .ok (.aload_n 0, 1) := by decide +kernel
theorem dX10_nextToken_251 : decode cX10_nextToken 251 = .ok (.getfield 233, 3) := by decide +kernel
theorem dX10_nextToken_254 : decode cX10_nextToken 254 = .ok (.iaload, 1) := by decide +kernel
theorem dX10_nextToken_255 : decode cX10_nextToken 255 = .ok (.iadd, 1) := by decide +kernel
theorem dX10_nextToken_256 : decode cX10_nextToken 256 = .ok (.bipush 48, 2) := by decide +kernel
theorem dX10_nextToken_258 : decode cX10_nextToken 258 = .ok (.isub, 1) := by decide +kernel
theorem dX10_nextToken_259 : decode cX10_nextToken 259 = .ok (.goto 7, 3) := by decide +kernel
theorem dX10_nextToken_262 : decode cX10_nextToken 262 = .ok (.aload_n 0, 1) := by decide +kernel
theorem dX10_nextToken_263 : decode cX10_nextToken 263 = .ok (.getfield 251, 3) := by decide +kernel
theorem dX10_nextToken_266 : decode cX10_nextToken 266 = .ok (.putfield 251, 3) := by decide +kernel
theorem dX10_nextToken_269 : decode cX10_nextToken 269 = .ok (.aload_n 0, 1) := by decide +kernel
theorem dX10_nextToken_270 : decode cX10_nextToken 270 = .ok (.dup, 1) := by decide +kernel
theorem dX10_nextToken_271 : decode cX10_nextToken 271 = .ok (.getfield 233, 3) := by decide +kernel
theorem dX10_nextToken_274 : decode cX10_nextToken 274 = .ok (.iconst 1, 1) := by decide +kernel
theorem dX10_nextToken_275 : decode cX10_nextToken 275 = .ok (.iadd, 1) := by decide +kernel
theorem dX10_nextToken_276 : decode cX10_nextToken 276 = .ok (.putfield 233, 3) := by decide +kernel
theorem dX10_nextToken_279 : decode cX10_nextToken 279 = .ok (.goto (-65), 3) := by decide +kernel
theorem dX10_nextToken_282 : decode cX10_nextToken 282 = .ok (.aload_n 0, 1) := by decide +kernel
theorem dX10_nextToken_283 : decode cX10_nextToken 283 = .ok (.iload_n 1, 1) := by decide +kernel
theorem dX10_nextToken_284 : decode cX10_nextToken 284 = .ok (.ifCond .ne 16, 3) := by decide +kernel
theorem dX10_nextToken_287 : decode cX10_nextToken 287 = .ok (.aload_n 0, 1) := by decide +kernel
theorem dX10_nextToken_288 : decode cX10_nextToken 288 = .ok (.getfield 233, 3) := by decide +kernel
theorem dX10_nextToken_291 : decode cX10_nextToken 291 = .ok (.aload_n 0, 1) := by decide +kernel
theorem dX10_nextToken_292 : decode cX10_nextToken 292 = .ok (.getfield 239, 3) := by decide +kernel
theorem dX10_nextToken_295 : decode cX10_nextToken 295 = .ok (.isub, 1) := by decide +kernel
theorem dX10_nextToken_296 : decode cX10_nextToken 296 = .ok (.iconst 4, 1) := by decide +kernel
theorem dX10_nextToken_297 : decode cX10_nextToken 297 = .ok (.if_icmp .le 7, 3) := by decide +kernel
theorem dX10_nextToken_300 : decode cX10_nextToken 300 = .ok (.iconst 4, 1) := by decide +kernel
theorem dX10_nextToken_301 : decode cX10_nextToken 301 = .ok (.goto 4, 3) := by decide +kernel
theorem dX10_nextToken_304 : decode cX10_nextToken 304 = .ok (.iconst 2, 1) := by decide +kernel
theorem dX10_nextToken_305 : decode cX10_nextToken 305 = .ok (.putfield 236, 3) := by decide +kernel
theorem dX10_nextToken_308 : decode cX10_nextToken 308 = .ok (.goto 31, 3) := by decide +kernel
theorem dX10_nextToken_311 : decode cX10_nextToken 311 = .ok (.aload_n 0, 1) := by decide +kernel
theorem dX10_nextToken_312 : decode cX10_nextToken 312 = .ok (.iconst 3, 1) := by decide +kernel
theorem dX10_nextToken_313 : decode cX10_nextToken 313 = .ok (.putfield 236, 3) := by decide +kernel
theorem dX10_nextToken_316 : decode cX10_nextToken 316 = .ok (.aload_n 0, 1) := by decide +kernel
theorem dX10_nextToken_317 : decode cX10_nextToken 317 = .ok (.aload_n 0, 1) := by decide +kernel
theorem dX10_nextToken_318 : decode cX10_nextToken 318 = .ok (.getfield 68, 3) := by decide +kernel
theorem dX10_nextToken_321 : decode cX10_nextToken 321 = .ok (.aload_n 0, 1) := by decide +kernel
theorem dX10_nextToken_322 : decode cX10_nextToken 322 = .ok (.getfield 239, 3) := by decide +kernel
theorem dX10_nextToken_325 : decode cX10_nextToken 325 = .ok (.iaload, 1) := by decide +kernel
theorem dX10_nextToken_326 : decode cX10_nextToken 326 = .ok (.putfield 245, 3) := by decide +kernel
theorem dX10_nextToken_329 : decode cX10_nextToken 329 = .ok (.aload_n 0, 1) := by decide +kernel
theorem dX10_nextToken_330 : decode cX10_nextToken 330 = .ok (.dup, 1) := by decide +kernel
theorem dX10_nextToken_331 : decode cX10_nextToken 331 = .ok (.getfield 233, 3) := by decide +kernel
theorem dX10_nextToken_334 : decode cX10_nextToken 334 = .ok (.iconst 1, 1) := by decide +kernel
theorem dX10_nextToken_335 : decode cX10_nextToken 335 = .ok (.iadd, 1) := by decide +kernel
theorem dX10_nextToken_336 : decode cX10_nextToken 336 = .ok (.putfield 233, 3) := by decide +kernel
theorem dX10_nextToken_339 : decode cX10_nextToken 339 = .ok (.return_, 1) := by decide +kernel
theorem dX10_isSign_0 : decode cX10_isSign 0 = .ok (.aload_n 0, 1) := by decide +kernel
theorem dX10_isSign_1 : decode cX10_isSign 1 = .ok (.getfield 236, 3) := by decide +kernel
theorem dX10_isSign_4 : decode cX10_isSign 4 = .ok (.iconst 3, 1) := by decide +kernel
theorem dX10_isSign_5 : decode cX10_isSign 5 = .ok (.if_icmp .ne 15, 3) := by decide +kernel
theorem dX10_isSign_8 : decode cX10_isSign 8 = .ok (.aload_n 0, 1) := by decide +kernel
theorem dX10_isSign_9 : decode cX10_isSign 9 = .ok (.getfield 245, 3) := by decide +kernel
theorem dX10_isSign_12 : decode cX10_isSign 12 = .ok (.iload_n 1, 1) := by decide +kernel
theorem dX10_isSign_13 : decode cX10_isSign 13 = .ok (.if_icmp .ne 7, 3) := by decide +kernel
theorem dX10_isSign_16 : decode cX10_isSign 16 = .ok (.iconst 1, 1) := by decide +kernel
theorem dX10_isSign_17 : decode cX10_isSign 17 = .ok (.goto 4, 3) := by decide +kernel
theorem dX10_isSign_20 : decode cX10_isSign 20 = .ok (.iconst 0, 1) := by decide +kernel
theorem dX10_isSign_21 : decode cX10_isSign 21 = .ok (.ireturn, 1) := by decide +kernel
theorem dX10_isWordAt_0 : decode cX10_isWordAt 0 = .ok (.iload 4, 2) := by decide +kernel
theorem dX10_isWordAt_2 : decode cX10_isWordAt 2 = .ok (.ifCond .ne 7, 3) := by decide +kernel
theorem dX10_isWordAt_5 : decode cX10_isWordAt 5 = .ok (.iconst 3, 1) := by decide +kernel
theorem dX10_isWordAt_6 : decode cX10_isWordAt 6 = .ok (.goto 4, 3) := by decide +kernel
theorem dX10_isWordAt_9 : decode cX10_isWordAt 9 = .ok (.iconst 4, 1) := by decide +kernel
theorem dX10_isWordAt_10 : decode cX10_isWordAt 10 = .ok (.istore 5, 2) := by decide +kernel
theorem dX10_isWordAt_12 : decode cX10_isWordAt 12 = .ok (.aload_n 0, 1) := by decide +kernel
theorem dX10_isWordAt_13 : decode cX10_isWordAt 13 = .ok (.getfield 236, 3) := by decide +kernel
theorem dX10_isWordAt_16 : decode cX10_isWordAt 16 = .ok (.iconst 1, 1) := by decide +kernel
theorem dX10_isWordAt_17 : decode cX10_isWordAt 17 = .ok (.if_icmp .ne 85, 3) := by decide +kernel
theorem dX10_isWordAt_20 : decode cX10_isWordAt 20 = .ok (.aload_n 0, 1) := by decide +kernel
theorem dX10_isWordAt_21 : decode cX10_isWordAt 21 = .ok (.getfield 233, 3) := by decide +kernel
theorem dX10_isWordAt_24 : decode cX10_isWordAt 24 = .ok (.aload_n 0, 1) := by decide +kernel
theorem dX10_isWordAt_25 : decode cX10_isWordAt 25 = .ok (.getfield 239, 3) := by decide +kernel
theorem dX10_isWordAt_28 : decode cX10_isWordAt 28 = .ok (.isub, 1) := by decide +kernel
theorem dX10_isWordAt_29 : decode cX10_isWordAt 29 = .ok (.iload 5, 2) := by decide +kernel
theorem dX10_isWordAt_31 : decode cX10_isWordAt 31 = .ok (.if_icmp .ne 71, 3) := by decide +kernel
theorem dX10_isWordAt_34 : decode cX10_isWordAt 34 = .ok (.aload_n 0, 1) := by decide +kernel
theorem dX10_isWordAt_35 : decode cX10_isWordAt 35 = .ok (.getfield 68, 3) := by decide +kernel
theorem dX10_isWordAt_38 : decode cX10_isWordAt 38 = .ok (.aload_n 0, 1) := by decide +kernel
theorem dX10_isWordAt_39 : decode cX10_isWordAt 39 = .ok (.getfield 239, 3) := by decide +kernel
theorem dX10_isWordAt_42 : decode cX10_isWordAt 42 = .ok (.iaload, 1) := by decide +kernel
theorem dX10_isWordAt_43 : decode cX10_isWordAt 43 = .ok (.iload_n 1, 1) := by decide +kernel
theorem dX10_isWordAt_44 : decode cX10_isWordAt 44 = .ok (.if_icmp .ne 58, 3) := by decide +kernel
theorem dX10_isWordAt_47 : decode cX10_isWordAt 47 = .ok (.aload_n 0, 1) := by decide +kernel
theorem dX10_isWordAt_48 : decode cX10_isWordAt 48 = .ok (.getfield 68, 3) := by decide +kernel
theorem dX10_isWordAt_51 : decode cX10_isWordAt 51 = .ok (.aload_n 0, 1) := by decide +kernel
theorem dX10_isWordAt_52 : decode cX10_isWordAt 52 = .ok (.getfield 239, 3) := by decide +kernel
theorem dX10_isWordAt_55 : decode cX10_isWordAt 55 = .ok (.iconst 1, 1) := by decide +kernel
theorem dX10_isWordAt_56 : decode cX10_isWordAt 56 = .ok (.iadd, 1) := by decide +kernel
theorem dX10_isWordAt_57 : decode cX10_isWordAt 57 = .ok (.iaload, 1) := by decide +kernel
theorem dX10_isWordAt_58 : decode cX10_isWordAt 58 = .ok (.iload_n 2, 1) := by decide +kernel
theorem dX10_isWordAt_59 : decode cX10_isWordAt 59 = .ok (.if_icmp .ne 43, 3) := by decide +kernel
theorem dX10_isWordAt_62 : decode cX10_isWordAt 62 = .ok (.aload_n 0, 1) := by decide +kernel
theorem dX10_isWordAt_63 : decode cX10_isWordAt 63 = .ok (.getfield 68, 3) := by decide +kernel
theorem dX10_isWordAt_66 : decode cX10_isWordAt 66 = .ok (.aload_n 0, 1) := by decide +kernel
theorem dX10_isWordAt_67 : decode cX10_isWordAt 67 = .ok (.getfield 239, 3) := by decide +kernel
theorem dX10_isWordAt_70 : decode cX10_isWordAt 70 = .ok (.iconst 2, 1) := by decide +kernel
theorem dX10_isWordAt_71 : decode cX10_isWordAt 71 = .ok (.iadd, 1) := by decide +kernel
theorem dX10_isWordAt_72 : decode cX10_isWordAt 72 = .ok (.iaload, 1) := by decide +kernel
theorem dX10_isWordAt_73 : decode cX10_isWordAt 73 = .ok (.iload_n 3, 1) := by decide +kernel
theorem dX10_isWordAt_74 : decode cX10_isWordAt 74 = .ok (.if_icmp .ne 28, 3) := by decide +kernel
theorem dX10_isWordAt_77 : decode cX10_isWordAt 77 = .ok (.iload 4, 2) := by decide +kernel
theorem dX10_isWordAt_79 : decode cX10_isWordAt 79 = .ok (.ifCond .eq 19, 3) := by decide +kernel
theorem dX10_isWordAt_82 : decode cX10_isWordAt 82 = .ok (.aload_n 0, 1) := by decide +kernel
theorem dX10_isWordAt_83 : decode cX10_isWordAt 83 = .ok (.getfield 68, 3) := by decide +kernel
theorem dX10_isWordAt_86 : decode cX10_isWordAt 86 = .ok (.aload_n 0, 1) := by decide +kernel
theorem dX10_isWordAt_87 : decode cX10_isWordAt 87 = .ok (.getfield 239, 3) := by decide +kernel
theorem dX10_isWordAt_90 : decode cX10_isWordAt 90 = .ok (.iconst 3, 1) := by decide +kernel
theorem dX10_isWordAt_91 : decode cX10_isWordAt 91 = .ok (.iadd, 1) := by decide +kernel
theorem dX10_isWordAt_92 : decode cX10_isWordAt 92 = .ok (.iaload, 1) := by decide +kernel
theorem dX10_isWordAt_93 : decode cX10_isWordAt 93 = .ok (.iload 4, 2) := by decide +kernel
theorem dX10_isWordAt_95 : decode cX10_isWordAt 95 = .ok (.if_icmp .ne 7, 3) := by decide +kernel
theorem dX10_isWordAt_98 : decode cX10_isWordAt 98 = .ok (.iconst 1, 1) := by decide +kernel
theorem dX10_isWordAt_99 : decode cX10_isWordAt 99 = .ok (.goto 4, 3) := by decide +kernel
theorem dX10_isWordAt_102 : decode cX10_isWordAt 102 = .ok (.iconst 0, 1) := by decide +kernel
theorem dX10_isWordAt_103 : decode cX10_isWordAt 103 = .ok (.ireturn, 1) := by decide +kernel
theorem dX10_key_0 : decode cX10_key 0 = .ok (.aload_n 0, 1) := by decide +kernel
theorem dX10_key_1 : decode cX10_key 1 = .ok (.bipush 114, 2) := by decide +kernel
theorem dX10_key_3 : decode cX10_key 3 = .ok (.bipush 105, 2) := by decide +kernel
theorem dX10_key_5 : decode cX10_key 5 = .ok (.bipush 115, 2) := by decide +kernel
theorem dX10_key_7 : decode cX10_key 7 = .ok (.bipush 107, 2) := by decide +kernel
theorem dX10_key_9 : decode cX10_key 9 = .ok (.invokevirtual 254, 3) := by decide +kernel
theorem dX10_key_12 : decode cX10_key 12 = .ok (.ifCond .eq 5, 3) := by decide +kernel
theorem dX10_key_15 : decode cX10_key 15 = .ok (.iconst 0, 1) := by decide +kernel
theorem dX10_key_16 : decode cX10_key 16 = .ok (.ireturn, 1) := by decide +kernel
theorem dX10_key_17 : decode cX10_key 17 = .ok (.aload_n 0, 1) := by decide +kernel
theorem dX10_key_18 : decode cX10_key 18 = .ok (.bipush 104, 2) := by decide +kernel
theorem dX10_key_20 : decode cX10_key 20 = .ok (.bipush 111, 2) := by decide +kernel
theorem dX10_key_22 : decode cX10_key 22 = .ok (.bipush 108, 2) := by decide +kernel
theorem dX10_key_24 : decode cX10_key 24 = .ok (.bipush 100, 2) := by decide +kernel
theorem dX10_key_26 : decode cX10_key 26 = .ok (.invokevirtual 254, 3) := by decide +kernel
theorem dX10_key_29 : decode cX10_key 29 = .ok (.ifCond .eq 5, 3) := by decide +kernel
theorem dX10_key_32 : decode cX10_key 32 = .ok (.iconst 1, 1) := by decide +kernel
theorem dX10_key_33 : decode cX10_key 33 = .ok (.ireturn, 1) := by decide +kernel
theorem dX10_key_34 : decode cX10_key 34 = .ok (.aload_n 0, 1) := by decide +kernel
theorem dX10_key_35 : decode cX10_key 35 = .ok (.bipush 115, 2) := by decide +kernel
theorem dX10_key_37 : decode cX10_key 37 = .ok (.bipush 116, 2) := by decide +kernel
theorem dX10_key_39 : decode cX10_key 39 = .ok (.bipush 101, 2) := by decide +kernel
theorem dX10_key_41 : decode cX10_key 41 = .ok (.bipush 112, 2) := by decide +kernel
theorem dX10_key_43 : decode cX10_key 43 = .ok (.invokevirtual 254, 3) := by decide +kernel
theorem dX10_key_46 : decode cX10_key 46 = .ok (.ifCond .eq 7, 3) := by decide +kernel
theorem dX10_key_49 : decode cX10_key 49 = .ok (.iconst 2, 1) := by decide +kernel
theorem dX10_key_50 : decode cX10_key 50 = .ok (.goto 4, 3) := by decide +kernel
theorem dX10_key_53 : decode cX10_key 53 = .ok (.iconst (-1), 1) := by decide +kernel
theorem dX10_key_54 : decode cX10_key 54 = .ok (.ireturn, 1) := by decide +kernel
theorem dX10_isName_0 : decode cX10_isName 0 = .ok (.iload_n 0, 1) := by decide +kernel
theorem dX10_isName_1 : decode cX10_isName 1 = .ok (.lookupswitch 69 #[(0, 27), (1, 51)], 27) := by decide +kernel
theorem dX10_isName_28 : decode cX10_isName 28 = .ok (.iload_n 1, 1) := by decide +kernel
theorem dX10_isName_29 : decode cX10_isName 29 = .ok (.bipush 115, 2) := by decide +kernel
theorem dX10_isName_31 : decode cX10_isName 31 = .ok (.if_icmp .eq 15, 3) := by decide +kernel
theorem dX10_isName_34 : decode cX10_isName 34 = .ok (.iload_n 1, 1) := by decide +kernel
theorem dX10_isName_35 : decode cX10_isName 35 = .ok (.bipush 108, 2) := by decide +kernel
theorem dX10_isName_37 : decode cX10_isName 37 = .ok (.if_icmp .eq 9, 3) := by decide +kernel
theorem dX10_isName_40 : decode cX10_isName 40 = .ok (.iload_n 1, 1) := by decide +kernel
theorem dX10_isName_41 : decode cX10_isName 41 = .ok (.bipush 100, 2) := by decide +kernel
theorem dX10_isName_43 : decode cX10_isName 43 = .ok (.if_icmp .ne 7, 3) := by decide +kernel
theorem dX10_isName_46 : decode cX10_isName 46 = .ok (.iconst 1, 1) := by decide +kernel
theorem dX10_isName_47 : decode cX10_isName 47 = .ok (.goto 4, 3) := by decide +kernel
theorem dX10_isName_50 : decode cX10_isName 50 = .ok (.iconst 0, 1) := by decide +kernel
theorem dX10_isName_51 : decode cX10_isName 51 = .ok (.ireturn, 1) := by decide +kernel
theorem dX10_isName_52 : decode cX10_isName 52 = .ok (.iload_n 1, 1) := by decide +kernel
theorem dX10_isName_53 : decode cX10_isName 53 = .ok (.bipush 115, 2) := by decide +kernel
theorem dX10_isName_55 : decode cX10_isName 55 = .ok (.if_icmp .eq 9, 3) := by decide +kernel
theorem dX10_isName_58 : decode cX10_isName 58 = .ok (.iload_n 1, 1) := by decide +kernel
theorem dX10_isName_59 : decode cX10_isName 59 = .ok (.bipush 114, 2) := by decide +kernel
theorem dX10_isName_61 : decode cX10_isName 61 = .ok (.if_icmp .ne 7, 3) := by decide +kernel
theorem dX10_isName_64 : decode cX10_isName 64 = .ok (.iconst 1, 1) := by decide +kernel
theorem dX10_isName_65 : decode cX10_isName 65 = .ok (.goto 4, 3) := by decide +kernel
theorem dX10_isName_68 : decode cX10_isName 68 = .ok (.iconst 0, 1) := by decide +kernel
theorem dX10_isName_69 : decode cX10_isName 69 = .ok (.ireturn, 1) := by decide +kernel
theorem dX10_isName_70 : decode cX10_isName 70 = .ok (.iload_n 1, 1) := by decide +kernel
theorem dX10_isName_71 : decode cX10_isName 71 = .ok (.bipush 115, 2) := by decide +kernel
theorem dX10_isName_73 : decode cX10_isName 73 = .ok (.if_icmp .eq 9, 3) := by decide +kernel
theorem dX10_isName_76 : decode cX10_isName 76 = .ok (.iload_n 1, 1) := by decide +kernel
theorem dX10_isName_77 : decode cX10_isName 77 = .ok (.bipush 117, 2) := by decide +kernel
theorem dX10_isName_79 : decode cX10_isName 79 = .ok (.if_icmp .ne 7, 3) := by decide +kernel
theorem dX10_isName_82 : decode cX10_isName 82 = .ok (.iconst 1, 1) := by decide +kernel
theorem dX10_isName_83 : decode cX10_isName 83 = .ok (.goto 4, 3) := by decide +kernel
theorem dX10_isName_86 : decode cX10_isName 86 = .ok (.iconst 0, 1) := by decide +kernel
theorem dX10_isName_87 : decode cX10_isName 87 = .ok (.ireturn, 1) := by decide +kernel
theorem dX10_step_0 : decode cX10_step 0 = .ok (.aload_n 0, 1) := by decide +kernel
theorem dX10_step_1 : decode cX10_step 1 = .ok (.getfield 7, 3) := by decide +kernel
theorem dX10_step_4 : decode cX10_step 4 = .ok (.aload_n 0, 1) := by decide +kernel
theorem dX10_step_5 : decode cX10_step 5 = .ok (.getfield 258, 3) := by decide +kernel
theorem dX10_step_8 : decode cX10_step 8 = .ok (.iconst 2, 1) := by decide +kernel
theorem dX10_step_9 : decode cX10_step 9 = .ok (.aload_n 0, 1) := by decide +kernel
theorem dX10_step_10 : decode cX10_step 10 = .ok (.getfield 261, 3) := by decide +kernel
theorem dX10_step_13 : decode cX10_step 13 = .ok (.imul, 1) := by decide +kernel
theorem dX10_step_14 : decode cX10_step 14 = .ok (.iadd, 1) := by decide +kernel
theorem dX10_step_15 : decode cX10_step 15 = .ok (.iload_n 1, 1) := by decide +kernel
theorem dX10_step_16 : decode cX10_step 16 = .ok (.iastore, 1) := by decide +kernel
theorem dX10_step_17 : decode cX10_step 17 = .ok (.aload_n 0, 1) := by decide +kernel
theorem dX10_step_18 : decode cX10_step 18 = .ok (.getfield 7, 3) := by decide +kernel
theorem dX10_step_21 : decode cX10_step 21 = .ok (.aload_n 0, 1) := by decide +kernel
theorem dX10_step_22 : decode cX10_step 22 = .ok (.getfield 258, 3) := by decide +kernel
theorem dX10_step_25 : decode cX10_step 25 = .ok (.iconst 2, 1) := by decide +kernel
theorem dX10_step_26 : decode cX10_step 26 = .ok (.aload_n 0, 1) := by decide +kernel
theorem dX10_step_27 : decode cX10_step 27 = .ok (.getfield 261, 3) := by decide +kernel
theorem dX10_step_30 : decode cX10_step 30 = .ok (.imul, 1) := by decide +kernel
theorem dX10_step_31 : decode cX10_step 31 = .ok (.iadd, 1) := by decide +kernel
theorem dX10_step_32 : decode cX10_step 32 = .ok (.iconst 1, 1) := by decide +kernel
theorem dX10_step_33 : decode cX10_step 33 = .ok (.iadd, 1) := by decide +kernel
theorem dX10_step_34 : decode cX10_step 34 = .ok (.iload_n 2, 1) := by decide +kernel
theorem dX10_step_35 : decode cX10_step 35 = .ok (.iastore, 1) := by decide +kernel
theorem dX10_step_36 : decode cX10_step 36 = .ok (.aload_n 0, 1) := by decide +kernel
theorem dX10_step_37 : decode cX10_step 37 = .ok (.dup, 1) := by decide +kernel
theorem dX10_step_38 : decode cX10_step 38 = .ok (.getfield 261, 3) := by decide +kernel
theorem dX10_step_41 : decode cX10_step 41 = .ok (.iconst 1, 1) := by decide +kernel
theorem dX10_step_42 : decode cX10_step 42 = .ok (.iadd, 1) := by decide +kernel
theorem dX10_step_43 : decode cX10_step 43 = .ok (.putfield 261, 3) := by decide +kernel
theorem dX10_step_46 : decode cX10_step 46 = .ok (.return_, 1) := by decide +kernel
theorem dX10_either_0 : decode cX10_either 0 = .ok (.aload_n 0, 1) := by decide +kernel
theorem dX10_either_1 : decode cX10_either 1 = .ok (.iload_n 1, 1) := by decide +kernel
theorem dX10_either_2 : decode cX10_either 2 = .ok (.invokevirtual 264, 3) := by decide +kernel
theorem dX10_either_5 : decode cX10_either 5 = .ok (.ifCond .ne 5, 3) := by decide +kernel
theorem dX10_either_8 : decode cX10_either 8 = .ok (.iconst 0, 1) := by decide +kernel
theorem dX10_either_9 : decode cX10_either 9 = .ok (.ireturn, 1) := by decide +kernel
theorem dX10_either_10 : decode cX10_either 10 = .ok (.aload_n 0, 1) := by decide +kernel
theorem dX10_either_11 : decode cX10_either 11 = .ok (.bipush 124, 2) := by decide +kernel
theorem dX10_either_13 : decode cX10_either 13 = .ok (.invokevirtual 267, 3) := by decide +kernel
theorem dX10_either_16 : decode cX10_either 16 = .ok (.ifCond .eq 27, 3) := by decide +kernel
theorem dX10_either_19 : decode cX10_either 19 = .ok (.aload_n 0, 1) := by decide +kernel
theorem dX10_either_20 : decode cX10_either 20 = .ok (.invokevirtual 270, 3) := by decide +kernel
theorem dX10_either_23 : decode cX10_either 23 = .ok (.aload_n 0, 1) := by decide +kernel
theorem dX10_either_24 : decode cX10_either 24 = .ok (.iload_n 1, 1) := by decide +kernel
theorem dX10_either_25 : decode cX10_either 25 = .ok (.invokevirtual 264, 3) := by decide +kernel
theorem dX10_either_28 : decode cX10_either 28 = .ok (.ifCond .ne 5, 3) := by decide +kernel
theorem dX10_either_31 : decode cX10_either 31 = .ok (.iconst 0, 1) := by decide +kernel
theorem dX10_either_32 : decode cX10_either 32 = .ok (.ireturn, 1) := by decide +kernel
theorem dX10_either_33 : decode cX10_either 33 = .ok (.aload_n 0, 1) := by decide +kernel
theorem dX10_either_34 : decode cX10_either 34 = .ok (.iconst 2, 1) := by decide +kernel
theorem dX10_either_35 : decode cX10_either 35 = .ok (.bipush 124, 2) := by decide +kernel
theorem dX10_either_37 : decode cX10_either 37 = .ok (.invokevirtual 273, 3) := by decide +kernel
theorem dX10_either_40 : decode cX10_either 40 = .ok (.goto (-30), 3) := by decide +kernel
theorem dX10_either_43 : decode cX10_either 43 = .ok (.iconst 1, 1) := by decide +kernel
theorem dX10_either_44 : decode cX10_either 44 = .ok (.ireturn, 1) := by decide +kernel
theorem dX10_both_0 : decode cX10_both 0 = .ok (.aload_n 0, 1) := by decide +kernel
theorem dX10_both_1 : decode cX10_both 1 = .ok (.iload_n 1, 1) := by decide +kernel
theorem dX10_both_2 : decode cX10_both 2 = .ok (.invokevirtual 277, 3) := by decide +kernel
theorem dX10_both_5 : decode cX10_both 5 = .ok (.ifCond .ne 5, 3) := by decide +kernel
theorem dX10_both_8 : decode cX10_both 8 = .ok (.iconst 0, 1) := by decide +kernel
theorem dX10_both_9 : decode cX10_both 9 = .ok (.ireturn, 1) := by decide +kernel
theorem dX10_both_10 : decode cX10_both 10 = .ok (.aload_n 0, 1) := by decide +kernel
theorem dX10_both_11 : decode cX10_both 11 = .ok (.bipush 38, 2) := by decide +kernel
theorem dX10_both_13 : decode cX10_both 13 = .ok (.invokevirtual 267, 3) := by decide +kernel
theorem dX10_both_16 : decode cX10_both 16 = .ok (.ifCond .eq 27, 3) := by decide +kernel
theorem dX10_both_19 : decode cX10_both 19 = .ok (.aload_n 0, 1) := by decide +kernel
theorem dX10_both_20 : decode cX10_both 20 = .ok (.invokevirtual 270, 3) := by decide +kernel
theorem dX10_both_23 : decode cX10_both 23 = .ok (.aload_n 0, 1) := by decide +kernel
theorem dX10_both_24 : decode cX10_both 24 = .ok (.iload_n 1, 1) := by decide +kernel
theorem dX10_both_25 : decode cX10_both 25 = .ok (.invokevirtual 277, 3) := by decide +kernel
theorem dX10_both_28 : decode cX10_both 28 = .ok (.ifCond .ne 5, 3) := by decide +kernel
theorem dX10_both_31 : decode cX10_both 31 = .ok (.iconst 0, 1) := by decide +kernel
theorem dX10_both_32 : decode cX10_both 32 = .ok (.ireturn, 1) := by decide +kernel
theorem dX10_both_33 : decode cX10_both 33 = .ok (.aload_n 0, 1) := by decide +kernel
theorem dX10_both_34 : decode cX10_both 34 = .ok (.iconst 2, 1) := by decide +kernel
theorem dX10_both_35 : decode cX10_both 35 = .ok (.bipush 38, 2) := by decide +kernel
theorem dX10_both_37 : decode cX10_both 37 = .ok (.invokevirtual 273, 3) := by decide +kernel
theorem dX10_both_40 : decode cX10_both 40 = .ok (.goto (-30), 3) := by decide +kernel
theorem dX10_both_43 : decode cX10_both 43 = .ok (.iconst 1, 1) := by decide +kernel
theorem dX10_both_44 : decode cX10_both 44 = .ok (.ireturn, 1) := by decide +kernel
theorem dX10_test_0 : decode cX10_test 0 = .ok (.aload_n 0, 1) := by decide +kernel
theorem dX10_test_1 : decode cX10_test 1 = .ok (.iload_n 1, 1) := by decide +kernel
theorem dX10_test_2 : decode cX10_test 2 = .ok (.invokevirtual 280, 3) := by decide +kernel
theorem dX10_test_5 : decode cX10_test 5 = .ok (.ifCond .ne 5, 3) := by decide +kernel
theorem dX10_test_8 : decode cX10_test 8 = .ok (.iconst 0, 1) := by decide +kernel
theorem dX10_test_9 : decode cX10_test 9 = .ok (.ireturn, 1) := by decide +kernel
theorem dX10_test_10 : decode cX10_test 10 = .ok (.aload_n 0, 1) := by decide +kernel
theorem dX10_test_11 : decode cX10_test 11 = .ok (.bipush 60, 2) := by decide +kernel
theorem dX10_test_13 : decode cX10_test 13 = .ok (.invokevirtual 267, 3) := by decide +kernel
theorem dX10_test_16 : decode cX10_test 16 = .ok (.ifCond .ne 21, 3) := by decide +kernel
theorem dX10_test_19 : decode cX10_test 19 = .ok (.aload_n 0, 1) := by decide +kernel
theorem dX10_test_20 : decode cX10_test 20 = .ok (.bipush 61, 2) := by decide +kernel
theorem dX10_test_22 : decode cX10_test 22 = .ok (.invokevirtual 267, 3) := by decide +kernel
theorem dX10_test_25 : decode cX10_test 25 = .ok (.ifCond .ne 12, 3) := by decide +kernel
theorem dX10_test_28 : decode cX10_test 28 = .ok (.aload_n 0, 1) := by decide +kernel
theorem dX10_test_29 : decode cX10_test 29 = .ok (.bipush 62, 2) := by decide +kernel
theorem dX10_test_31 : decode cX10_test 31 = .ok (.invokevirtual 267, 3) := by decide +kernel
theorem dX10_test_34 : decode cX10_test 34 = .ok (.ifCond .eq 28, 3) := by decide +kernel
theorem dX10_test_37 : decode cX10_test 37 = .ok (.aload_n 0, 1) := by decide +kernel
theorem dX10_test_38 : decode cX10_test 38 = .ok (.getfield 245, 3) := by decide +kernel
theorem dX10_test_41 : decode cX10_test 41 = .ok (.istore_n 2, 1) := by decide +kernel
theorem dX10_test_42 : decode cX10_test 42 = .ok (.aload_n 0, 1) := by decide +kernel
theorem dX10_test_43 : decode cX10_test 43 = .ok (.invokevirtual 270, 3) := by decide +kernel
theorem dX10_test_46 : decode cX10_test 46 = .ok (.aload_n 0, 1) := by decide +kernel
theorem dX10_test_47 : decode cX10_test 47 = .ok (.iload_n 1, 1) := by decide +kernel
theorem dX10_test_48 : decode cX10_test 48 = .ok (.invokevirtual 280, 3) := by decide +kernel
theorem dX10_test_51 : decode cX10_test 51 = .ok (.ifCond .ne 5, 3) := by decide +kernel
theorem dX10_test_54 : decode cX10_test 54 = .ok (.iconst 0, 1) := by decide +kernel
theorem dX10_test_55 : decode cX10_test 55 = .ok (.ireturn, 1) := by decide +kernel
theorem dX10_test_56 : decode cX10_test 56 = .ok (.aload_n 0, 1) := by decide +kernel
theorem dX10_test_57 : decode cX10_test 57 = .ok (.iconst 2, 1) := by decide +kernel
theorem dX10_test_58 : decode cX10_test 58 = .ok (.iload_n 2, 1) := by decide +kernel
theorem dX10_test_59 : decode cX10_test 59 = .ok (.invokevirtual 273, 3) := by decide +kernel
theorem dX10_test_62 : decode cX10_test 62 = .ok (.iconst 1, 1) := by decide +kernel
theorem dX10_test_63 : decode cX10_test 63 = .ok (.ireturn, 1) := by decide +kernel
theorem dX10_sum_0 : decode cX10_sum 0 = .ok (.aload_n 0, 1) := by decide +kernel
theorem dX10_sum_1 : decode cX10_sum 1 = .ok (.iload_n 1, 1) := by decide +kernel
theorem dX10_sum_2 : decode cX10_sum 2 = .ok (.invokevirtual 283, 3) := by decide +kernel
theorem dX10_sum_5 : decode cX10_sum 5 = .ok (.ifCond .ne 5, 3) := by decide +kernel
theorem dX10_sum_8 : decode cX10_sum 8 = .ok (.iconst 0, 1) := by decide +kernel
theorem dX10_sum_9 : decode cX10_sum 9 = .ok (.ireturn, 1) := by decide +kernel
theorem dX10_sum_10 : decode cX10_sum 10 = .ok (.aload_n 0, 1) := by decide +kernel
theorem dX10_sum_11 : decode cX10_sum 11 = .ok (.bipush 43, 2) := by decide +kernel
theorem dX10_sum_13 : decode cX10_sum 13 = .ok (.invokevirtual 267, 3) := by decide +kernel
theorem dX10_sum_16 : decode cX10_sum 16 = .ok (.ifCond .ne 12, 3) := by decide +kernel
theorem dX10_sum_19 : decode cX10_sum 19 = .ok (.aload_n 0, 1) := by decide +kernel
theorem dX10_sum_20 : decode cX10_sum 20 = .ok (.bipush 45, 2) := by decide +kernel
theorem dX10_sum_22 : decode cX10_sum 22 = .ok (.invokevirtual 267, 3) := by decide +kernel
theorem dX10_sum_25 : decode cX10_sum 25 = .ok (.ifCond .eq 31, 3) := by decide +kernel
theorem dX10_sum_28 : decode cX10_sum 28 = .ok (.aload_n 0, 1) := by decide +kernel
theorem dX10_sum_29 : decode cX10_sum 29 = .ok (.getfield 245, 3) := by decide +kernel
theorem dX10_sum_32 : decode cX10_sum 32 = .ok (.istore_n 2, 1) := by decide +kernel
theorem dX10_sum_33 : decode cX10_sum 33 = .ok (.aload_n 0, 1) := by decide +kernel
theorem dX10_sum_34 : decode cX10_sum 34 = .ok (.invokevirtual 270, 3) := by decide +kernel
theorem dX10_sum_37 : decode cX10_sum 37 = .ok (.aload_n 0, 1) := by decide +kernel
theorem dX10_sum_38 : decode cX10_sum 38 = .ok (.iload_n 1, 1) := by decide +kernel
theorem dX10_sum_39 : decode cX10_sum 39 = .ok (.invokevirtual 283, 3) := by decide +kernel
theorem dX10_sum_42 : decode cX10_sum 42 = .ok (.ifCond .ne 5, 3) := by decide +kernel
theorem dX10_sum_45 : decode cX10_sum 45 = .ok (.iconst 0, 1) := by decide +kernel
theorem dX10_sum_46 : decode cX10_sum 46 = .ok (.ireturn, 1) := by decide +kernel
theorem dX10_sum_47 : decode cX10_sum 47 = .ok (.aload_n 0, 1) := by decide +kernel
theorem dX10_sum_48 : decode cX10_sum 48 = .ok (.iconst 2, 1) := by decide +kernel
theorem dX10_sum_49 : decode cX10_sum 49 = .ok (.iload_n 2, 1) := by decide +kernel
theorem dX10_sum_50 : decode cX10_sum 50 = .ok (.invokevirtual 273, 3) := by decide +kernel
theorem dX10_sum_53 : decode cX10_sum 53 = .ok (.goto (-43), 3) := by decide +kernel
theorem dX10_sum_56 : decode cX10_sum 56 = .ok (.iconst 1, 1) := by decide +kernel
theorem dX10_sum_57 : decode cX10_sum 57 = .ok (.ireturn, 1) := by decide +kernel
theorem dX10_term_0 : decode cX10_term 0 = .ok (.aload_n 0, 1) := by decide +kernel
theorem dX10_term_1 : decode cX10_term 1 = .ok (.iload_n 1, 1) := by decide +kernel
theorem dX10_term_2 : decode cX10_term 2 = .ok (.invokevirtual 286, 3) := by decide +kernel
theorem dX10_term_5 : decode cX10_term 5 = .ok (.ifCond .ne 5, 3) := by decide +kernel
theorem dX10_term_8 : decode cX10_term 8 = .ok (.iconst 0, 1) := by decide +kernel
theorem dX10_term_9 : decode cX10_term 9 = .ok (.ireturn, 1) := by decide +kernel
theorem dX10_term_10 : decode cX10_term 10 = .ok (.aload_n 0, 1) := by decide +kernel
theorem dX10_term_11 : decode cX10_term 11 = .ok (.bipush 42, 2) := by decide +kernel
theorem dX10_term_13 : decode cX10_term 13 = .ok (.invokevirtual 267, 3) := by decide +kernel
theorem dX10_term_16 : decode cX10_term 16 = .ok (.ifCond .ne 12, 3) := by decide +kernel
theorem dX10_term_19 : decode cX10_term 19 = .ok (.aload_n 0, 1) := by decide +kernel
theorem dX10_term_20 : decode cX10_term 20 = .ok (.bipush 47, 2) := by decide +kernel
theorem dX10_term_22 : decode cX10_term 22 = .ok (.invokevirtual 267, 3) := by decide +kernel
theorem dX10_term_25 : decode cX10_term 25 = .ok (.ifCond .eq 31, 3) := by decide +kernel
theorem dX10_term_28 : decode cX10_term 28 = .ok (.aload_n 0, 1) := by decide +kernel
theorem dX10_term_29 : decode cX10_term 29 = .ok (.getfield 245, 3) := by decide +kernel
theorem dX10_term_32 : decode cX10_term 32 = .ok (.istore_n 2, 1) := by decide +kernel
theorem dX10_term_33 : decode cX10_term 33 = .ok (.aload_n 0, 1) := by decide +kernel
theorem dX10_term_34 : decode cX10_term 34 = .ok (.invokevirtual 270, 3) := by decide +kernel
theorem dX10_term_37 : decode cX10_term 37 = .ok (.aload_n 0, 1) := by decide +kernel
theorem dX10_term_38 : decode cX10_term 38 = .ok (.iload_n 1, 1) := by decide +kernel
theorem dX10_term_39 : decode cX10_term 39 = .ok (.invokevirtual 286, 3) := by decide +kernel
theorem dX10_term_42 : decode cX10_term 42 = .ok (.ifCond .ne 5, 3) := by decide +kernel
theorem dX10_term_45 : decode cX10_term 45 = .ok (.iconst 0, 1) := by decide +kernel
theorem dX10_term_46 : decode cX10_term 46 = .ok (.ireturn, 1) := by decide +kernel
theorem dX10_term_47 : decode cX10_term 47 = .ok (.aload_n 0, 1) := by decide +kernel
theorem dX10_term_48 : decode cX10_term 48 = .ok (.iconst 2, 1) := by decide +kernel
theorem dX10_term_49 : decode cX10_term 49 = .ok (.iload_n 2, 1) := by decide +kernel
theorem dX10_term_50 : decode cX10_term 50 = .ok (.invokevirtual 273, 3) := by decide +kernel
theorem dX10_term_53 : decode cX10_term 53 = .ok (.goto (-43), 3) := by decide +kernel
theorem dX10_term_56 : decode cX10_term 56 = .ok (.iconst 1, 1) := by decide +kernel
theorem dX10_term_57 : decode cX10_term 57 = .ok (.ireturn, 1) := by decide +kernel
theorem dX10_part0_0 : decode cX10_part0 0 = .ok (.aload_n 0, 1) := by decide +kernel
theorem dX10_part0_1 : decode cX10_part0 1 = .ok (.getfield 236, 3) := by decide +kernel
theorem dX10_part0_4 : decode cX10_part0 4 = .ok (.iconst 2, 1) := by decide +kernel
theorem dX10_part0_5 : decode cX10_part0 5 = .ok (.if_icmp .ne 28, 3) := by decide +kernel
theorem dX10_part0_8 : decode cX10_part0 8 = .ok (.aload_n 0, 1) := by decide +kernel
theorem dX10_part0_9 : decode cX10_part0 9 = .ok (.iconst 0, 1) := by decide +kernel
theorem dX10_part0_10 : decode cX10_part0 10 = .ok (.aload_n 0, 1) := by decide +kernel
theorem dX10_part0_11 : decode cX10_part0 11 = .ok (.getfield 251, 3) := by decide +kernel
theorem dX10_part0_14 : decode cX10_part0 14 = .ok (.invokevirtual 273, 3) := by decide +kernel
theorem dX10_part0_17 : decode cX10_part0 17 = .ok (.aload_n 0, 1) := by decide +kernel
theorem dX10_part0_18 : decode cX10_part0 18 = .ok (.dup, 1) := by decide +kernel
theorem dX10_part0_19 : decode cX10_part0 19 = .ok (.getfield 289, 3) := by decide +kernel
theorem dX10_part0_22 : decode cX10_part0 22 = .ok (.iconst 1, 1) := by decide +kernel
theorem dX10_part0_23 : decode cX10_part0 23 = .ok (.iadd, 1) := by decide +kernel
theorem dX10_part0_24 : decode cX10_part0 24 = .ok (.putfield 289, 3) := by decide +kernel
theorem dX10_part0_27 : decode cX10_part0 27 = .ok (.aload_n 0, 1) := by decide +kernel
theorem dX10_part0_28 : decode cX10_part0 28 = .ok (.invokevirtual 270, 3) := by decide +kernel
theorem dX10_part0_31 : decode cX10_part0 31 = .ok (.iconst 1, 1) := by decide +kernel
theorem dX10_part0_32 : decode cX10_part0 32 = .ok (.ireturn, 1) := by decide +kernel
theorem dX10_part0_33 : decode cX10_part0 33 = .ok (.aload_n 0, 1) := by decide +kernel
theorem dX10_part0_34 : decode cX10_part0 34 = .ok (.getfield 236, 3) := by decide +kernel
theorem dX10_part0_37 : decode cX10_part0 37 = .ok (.iconst 1, 1) := by decide +kernel
theorem dX10_part0_38 : decode cX10_part0 38 = .ok (.if_icmp .ne 46, 3) := by decide +kernel
theorem dX10_part0_41 : decode cX10_part0 41 = .ok (.aload_n 0, 1) := by decide +kernel
theorem dX10_part0_42 : decode cX10_part0 42 = .ok (.getfield 245, 3) := by decide +kernel
theorem dX10_part0_45 : decode cX10_part0 45 = .ok (.ifCond .eq 39, 3) := by decide +kernel
theorem dX10_part0_48 : decode cX10_part0 48 = .ok (.iload_n 1, 1) := by decide +kernel
theorem dX10_part0_49 : decode cX10_part0 49 = .ok (.aload_n 0, 1) := by decide +kernel
theorem dX10_part0_50 : decode cX10_part0 50 = .ok (.getfield 245, 3) := by decide +kernel
theorem dX10_part0_53 : decode cX10_part0 53 = .ok (.invokestatic 292, 3) := by decide +kernel
theorem dX10_part0_56 : decode cX10_part0 56 = .ok (.ifCond .eq 28, 3) := by decide +kernel
theorem dX10_part0_59 : decode cX10_part0 59 = .ok (.aload_n 0, 1) := by decide +kernel
theorem dX10_part0_60 : decode cX10_part0 60 = .ok (.iconst 1, 1) := by decide +kernel
theorem dX10_part0_61 : decode cX10_part0 61 = .ok (.aload_n 0, 1) := by decide +kernel
theorem dX10_part0_62 : decode cX10_part0 62 = .ok (.getfield 245, 3) := by decide +kernel
theorem dX10_part0_65 : decode cX10_part0 65 = .ok (.invokevirtual 273, 3) := by decide +kernel
theorem dX10_part0_68 : decode cX10_part0 68 = .ok (.aload_n 0, 1) := by decide +kernel
theorem dX10_part0_69 : decode cX10_part0 69 = .ok (.dup, 1) := by decide +kernel
theorem dX10_part0_70 : decode cX10_part0 70 = .ok (.getfield 289, 3) := by decide +kernel
theorem dX10_part0_73 : decode cX10_part0 73 = .ok (.iconst 1, 1) := by decide +kernel
theorem dX10_part0_74 : decode cX10_part0 74 = .ok (.iadd, 1) := by decide +kernel
theorem dX10_part0_75 : decode cX10_part0 75 = .ok (.putfield 289, 3) := by decide +kernel
theorem dX10_part0_78 : decode cX10_part0 78 = .ok (.aload_n 0, 1) := by decide +kernel
theorem dX10_part0_79 : decode cX10_part0 79 = .ok (.invokevirtual 270, 3) := by decide +kernel
theorem dX10_part0_82 : decode cX10_part0 82 = .ok (.iconst 1, 1) := by decide +kernel
theorem dX10_part0_83 : decode cX10_part0 83 = .ok (.ireturn, 1) := by decide +kernel
theorem dX10_part0_84 : decode cX10_part0 84 = .ok (.aload_n 0, 1) := by decide +kernel
theorem dX10_part0_85 : decode cX10_part0 85 = .ok (.bipush 33, 2) := by decide +kernel
theorem dX10_part0_87 : decode cX10_part0 87 = .ok (.invokevirtual 267, 3) := by decide +kernel
theorem dX10_part0_90 : decode cX10_part0 90 = .ok (.ifCond .eq 55, 3) := by decide +kernel
theorem dX10_part0_93 : decode cX10_part0 93 = .ok (.aload_n 0, 1) := by decide +kernel
theorem dX10_part0_94 : decode cX10_part0 94 = .ok (.getfield 295, 3) := by decide +kernel
theorem dX10_part0_97 : decode cX10_part0 97 = .ok (.bipush 8, 2) := by decide +kernel
theorem dX10_part0_99 : decode cX10_part0 99 = .ok (.if_icmp .ge 46, 3) := by decide +kernel
theorem dX10_part0_102 : decode cX10_part0 102 = .ok (.aload_n 0, 1) := by decide +kernel
theorem dX10_part0_103 : decode cX10_part0 103 = .ok (.dup, 1) := by decide +kernel
theorem dX10_part0_104 : decode cX10_part0 104 = .ok (.getfield 295, 3) := by decide +kernel
theorem dX10_part0_107 : decode cX10_part0 107 = .ok (.iconst 1, 1) := by decide +kernel
theorem dX10_part0_108 : decode cX10_part0 108 = .ok (.iadd, 1) := by decide +kernel
theorem dX10_part0_109 : decode cX10_part0 109 = .ok (.putfield 295, 3) := by decide +kernel
theorem dX10_part0_112 : decode cX10_part0 112 = .ok (.aload_n 0, 1) := by decide +kernel
theorem dX10_part0_113 : decode cX10_part0 113 = .ok (.invokevirtual 270, 3) := by decide +kernel
theorem dX10_part0_116 : decode cX10_part0 116 = .ok (.aload_n 0, 1) := by decide +kernel
theorem dX10_part0_117 : decode cX10_part0 117 = .ok (.iload_n 1, 1) := by decide +kernel
theorem dX10_part0_118 : decode cX10_part0 118 = .ok (.invokevirtual 286, 3) := by decide +kernel
theorem dX10_part0_121 : decode cX10_part0 121 = .ok (.ifCond .ne 5, 3) := by decide +kernel
theorem dX10_part0_124 : decode cX10_part0 124 = .ok (.iconst 0, 1) := by decide +kernel
theorem dX10_part0_125 : decode cX10_part0 125 = .ok (.ireturn, 1) := by decide +kernel
theorem dX10_part0_126 : decode cX10_part0 126 = .ok (.aload_n 0, 1) := by decide +kernel
theorem dX10_part0_127 : decode cX10_part0 127 = .ok (.dup, 1) := by decide +kernel
theorem dX10_part0_128 : decode cX10_part0 128 = .ok (.getfield 295, 3) := by decide +kernel
theorem dX10_part0_131 : decode cX10_part0 131 = .ok (.iconst 1, 1) := by decide +kernel
theorem dX10_part0_132 : decode cX10_part0 132 = .ok (.isub, 1) := by decide +kernel
theorem dX10_part0_133 : decode cX10_part0 133 = .ok (.putfield 295, 3) := by decide +kernel
theorem dX10_part0_136 : decode cX10_part0 136 = .ok (.aload_n 0, 1) := by decide +kernel
theorem dX10_part0_137 : decode cX10_part0 137 = .ok (.iconst 2, 1) := by decide +kernel
theorem dX10_part0_138 : decode cX10_part0 138 = .ok (.bipush 33, 2) := by decide +kernel
theorem dX10_part0_140 : decode cX10_part0 140 = .ok (.invokevirtual 273, 3) := by decide +kernel
theorem dX10_part0_143 : decode cX10_part0 143 = .ok (.iconst 1, 1) := by decide +kernel
theorem dX10_part0_144 : decode cX10_part0 144 = .ok (.ireturn, 1) := by decide +kernel
theorem dX10_part0_145 : decode cX10_part0 145 = .ok (.aload_n 0, 1) := by decide +kernel
theorem dX10_part0_146 : decode cX10_part0 146 = .ok (.bipush 40, 2) := by decide +kernel
theorem dX10_part0_148 : decode cX10_part0 148 = .ok (.invokevirtual 267, 3) := by decide +kernel
theorem dX10_part0_151 : decode cX10_part0 151 = .ok (.ifCond .eq 12, 3) := by decide +kernel
theorem dX10_part0_154 : decode cX10_part0 154 = .ok (.aload_n 0, 1) := by decide +kernel
theorem dX10_part0_155 : decode cX10_part0 155 = .ok (.getfield 298, 3) := by decide +kernel
theorem dX10_part0_158 : decode cX10_part0 158 = .ok (.bipush 8, 2) := by decide +kernel
theorem dX10_part0_160 : decode cX10_part0 160 = .ok (.if_icmp .ne 5, 3) := by decide +kernel
theorem dX10_part0_163 : decode cX10_part0 163 = .ok (.iconst 0, 1) := by decide +kernel
theorem dX10_part0_164 : decode cX10_part0 164 = .ok (.ireturn, 1) := by decide +kernel
theorem dX10_part0_165 : decode cX10_part0 165 = .ok (.aload_n 0, 1) := by decide +kernel
theorem dX10_part0_166 : decode cX10_part0 166 = .ok (.dup, 1) := by decide +kernel
theorem dX10_part0_167 : decode cX10_part0 167 = .ok (.getfield 298, 3) := by decide +kernel
theorem dX10_part0_170 : decode cX10_part0 170 = .ok (.iconst 1, 1) := by decide +kernel
theorem dX10_part0_171 : decode cX10_part0 171 = .ok (.iadd, 1) := by decide +kernel
theorem dX10_part0_172 : decode cX10_part0 172 = .ok (.putfield 298, 3) := by decide +kernel
theorem dX10_part0_175 : decode cX10_part0 175 = .ok (.aload_n 0, 1) := by decide +kernel
theorem dX10_part0_176 : decode cX10_part0 176 = .ok (.invokevirtual 270, 3) := by decide +kernel
theorem dX10_part0_179 : decode cX10_part0 179 = .ok (.aload_n 0, 1) := by decide +kernel
theorem dX10_part0_180 : decode cX10_part0 180 = .ok (.iload_n 1, 1) := by decide +kernel
theorem dX10_part0_181 : decode cX10_part0 181 = .ok (.invokevirtual 301, 3) := by decide +kernel
theorem dX10_part0_184 : decode cX10_part0 184 = .ok (.ifCond .eq 12, 3) := by decide +kernel
theorem dX10_part0_187 : decode cX10_part0 187 = .ok (.aload_n 0, 1) := by decide +kernel
theorem dX10_part0_188 : decode cX10_part0 188 = .ok (.bipush 41, 2) := by decide +kernel
theorem dX10_part0_190 : decode cX10_part0 190 = .ok (.invokevirtual 267, 3) := by decide +kernel
theorem dX10_part0_193 : decode cX10_part0 193 = .ok (.ifCond .ne 5, 3) := by decide +kernel
theorem dX10_part0_196 : decode cX10_part0 196 = .ok (.iconst 0, 1) := by decide +kernel
theorem dX10_part0_197 : decode cX10_part0 197 = .ok (.ireturn, 1) := by decide +kernel
theorem dX10_part0_198 : decode cX10_part0 198 = .ok (.aload_n 0, 1) := by decide +kernel
theorem dX10_part0_199 : decode cX10_part0 199 = .ok (.dup, 1) := by decide +kernel
theorem dX10_part0_200 : decode cX10_part0 200 = .ok (.getfield 298, 3) := by decide +kernel
theorem dX10_part0_203 : decode cX10_part0 203 = .ok (.iconst 1, 1) := by decide +kernel
theorem dX10_part0_204 : decode cX10_part0 204 = .ok (.isub, 1) := by decide +kernel
theorem dX10_part0_205 : decode cX10_part0 205 = .ok (.putfield 298, 3) := by decide +kernel
theorem dX10_part0_208 : decode cX10_part0 208 = .ok (.aload_n 0, 1) := by decide +kernel
theorem dX10_part0_209 : decode cX10_part0 209 = .ok (.invokevirtual 270, 3) := by decide +kernel
theorem dX10_part0_212 : decode cX10_part0 212 = .ok (.iconst 1, 1) := by decide +kernel
theorem dX10_part0_213 : decode cX10_part0 213 = .ok (.ireturn, 1) := by decide +kernel
theorem dX10_parse_0 : decode cX10_parse 0 = .ok (.aload_n 0, 1) := by decide +kernel
theorem dX10_parse_1 : decode cX10_parse 1 = .ok (.iconst 0, 1) := by decide +kernel
theorem dX10_parse_2 : decode cX10_parse 2 = .ok (.putfield 233, 3) := by decide +kernel
theorem dX10_parse_5 : decode cX10_parse 5 = .ok (.aload_n 0, 1) := by decide +kernel
theorem dX10_parse_6 : decode cX10_parse 6 = .ok (.iconst 3, 1) := by decide +kernel
theorem dX10_parse_7 : decode cX10_parse 7 = .ok (.putfield 236, 3) := by decide +kernel
theorem dX10_parse_10 : decode cX10_parse 10 = .ok (.aload_n 0, 1) := by decide +kernel
theorem dX10_parse_11 : decode cX10_parse 11 = .ok (.iconst 0, 1) := by decide +kernel
theorem dX10_parse_12 : decode cX10_parse 12 = .ok (.putfield 298, 3) := by decide +kernel
theorem dX10_parse_15 : decode cX10_parse 15 = .ok (.aload_n 0, 1) := by decide +kernel
theorem dX10_parse_16 : decode cX10_parse 16 = .ok (.iconst 0, 1) := by decide +kernel
theorem dX10_parse_17 : decode cX10_parse 17 = .ok (.putfield 295, 3) := by decide +kernel
theorem dX10_parse_20 : decode cX10_parse 20 = .ok (.aload_n 0, 1) := by decide +kernel
theorem dX10_parse_21 : decode cX10_parse 21 = .ok (.iconst 0, 1) := by decide +kernel
theorem dX10_parse_22 : decode cX10_parse 22 = .ok (.putfield 261, 3) := by decide +kernel
theorem dX10_parse_25 : decode cX10_parse 25 = .ok (.aload_n 0, 1) := by decide +kernel
theorem dX10_parse_26 : decode cX10_parse 26 = .ok (.iconst 0, 1) := by decide +kernel
theorem dX10_parse_27 : decode cX10_parse 27 = .ok (.putfield 289, 3) := by decide +kernel
theorem dX10_parse_30 : decode cX10_parse 30 = .ok (.aload_n 0, 1) := by decide +kernel
theorem dX10_parse_31 : decode cX10_parse 31 = .ok (.aload_n 0, 1) := by decide +kernel
theorem dX10_parse_32 : decode cX10_parse 32 = .ok (.getfield 7, 3) := by decide +kernel
theorem dX10_parse_35 : decode cX10_parse 35 = .ok (.iconst 1, 1) := by decide +kernel
theorem dX10_parse_36 : decode cX10_parse 36 = .ok (.iaload, 1) := by decide +kernel
theorem dX10_parse_37 : decode cX10_parse 37 = .ok (.bipush 14, 2) := by decide +kernel
theorem dX10_parse_39 : decode cX10_parse 39 = .ok (.if_icmp .ge 18, 3) := by decide +kernel
theorem dX10_parse_42 : decode cX10_parse 42 = .ok (.aload_n 0, 1) := by decide +kernel
theorem dX10_parse_43 : decode cX10_parse 43 = .ok (.aload_n 0, 1) := by decide +kernel
theorem dX10_parse_44 : decode cX10_parse 44 = .ok (.getfield 7, 3) := by decide +kernel
theorem dX10_parse_47 : decode cX10_parse 47 = .ok (.iconst 1, 1) := by decide +kernel
theorem dX10_parse_48 : decode cX10_parse 48 = .ok (.iaload, 1) := by decide +kernel
theorem dX10_parse_49 : decode cX10_parse 49 = .ok (.invokevirtual 304, 3) := by decide +kernel
theorem dX10_parse_52 : decode cX10_parse 52 = .ok (.iconst 4, 1) := by decide +kernel
theorem dX10_parse_53 : decode cX10_parse 53 = .ok (.iadd, 1) := by decide +kernel
theorem dX10_parse_54 : decode cX10_parse 54 = .ok (.goto 6, 3) := by decide +kernel
theorem dX10_parse_57 : decode cX10_parse 57 = .ok (.sipush 2922, 3) := by decide +kernel
theorem dX10_parse_60 : decode cX10_parse 60 = .ok (.putfield 258, 3) := by decide +kernel
theorem dX10_parse_63 : decode cX10_parse 63 = .ok (.aload_n 0, 1) := by decide +kernel
theorem dX10_parse_64 : decode cX10_parse 64 = .ok (.invokevirtual 270, 3) := by decide +kernel
theorem dX10_parse_67 : decode cX10_parse 67 = .ok (.aload_n 0, 1) := by decide +kernel
theorem dX10_parse_68 : decode cX10_parse 68 = .ok (.invokevirtual 307, 3) := by decide +kernel
theorem dX10_parse_71 : decode cX10_parse 71 = .ok (.istore_n 1, 1) := by decide +kernel
theorem dX10_parse_72 : decode cX10_parse 72 = .ok (.iload_n 1, 1) := by decide +kernel
theorem dX10_parse_73 : decode cX10_parse 73 = .ok (.ifCond .lt 7, 3) := by decide +kernel
theorem dX10_parse_76 : decode cX10_parse 76 = .ok (.iconst 1, 1) := by decide +kernel
theorem dX10_parse_77 : decode cX10_parse 77 = .ok (.goto 4, 3) := by decide +kernel
theorem dX10_parse_80 : decode cX10_parse 80 = .ok (.iconst 0, 1) := by decide +kernel
theorem dX10_parse_81 : decode cX10_parse 81 = .ok (.istore_n 2, 1) := by decide +kernel
theorem dX10_parse_82 : decode cX10_parse 82 = .ok (.iload_n 2, 1) := by decide +kernel
theorem dX10_parse_83 : decode cX10_parse 83 = .ok (.ifCond .eq 28, 3) := by decide +kernel
theorem dX10_parse_86 : decode cX10_parse 86 = .ok (.aload_n 0, 1) := by decide +kernel
theorem dX10_parse_87 : decode cX10_parse 87 = .ok (.invokevirtual 270, 3) := by decide +kernel
theorem dX10_parse_90 : decode cX10_parse 90 = .ok (.aload_n 0, 1) := by decide +kernel
theorem dX10_parse_91 : decode cX10_parse 91 = .ok (.iload_n 1, 1) := by decide +kernel
theorem dX10_parse_92 : decode cX10_parse 92 = .ok (.invokevirtual 301, 3) := by decide +kernel
theorem dX10_parse_95 : decode cX10_parse 95 = .ok (.ifCond .eq 14, 3) := by decide +kernel
theorem dX10_parse_98 : decode cX10_parse 98 = .ok (.aload_n 0, 1) := by decide +kernel
theorem dX10_parse_99 : decode cX10_parse 99 = .ok (.getfield 236, 3) := by decide +kernel
theorem dX10_parse_102 : decode cX10_parse 102 = .ok (.ifCond .ne 7, 3) := by decide +kernel
theorem dX10_parse_105 : decode cX10_parse 105 = .ok (.iconst 1, 1) := by decide +kernel
theorem dX10_parse_106 : decode cX10_parse 106 = .ok (.goto 4, 3) := by decide +kernel
theorem dX10_parse_109 : decode cX10_parse 109 = .ok (.iconst 0, 1) := by decide +kernel
theorem dX10_parse_110 : decode cX10_parse 110 = .ok (.istore_n 2, 1) := by decide +kernel
theorem dX10_parse_111 : decode cX10_parse 111 = .ok (.aload_n 0, 1) := by decide +kernel
theorem dX10_parse_112 : decode cX10_parse 112 = .ok (.iconst 0, 1) := by decide +kernel
theorem dX10_parse_113 : decode cX10_parse 113 = .ok (.putfield 223, 3) := by decide +kernel
theorem dX10_parse_116 : decode cX10_parse 116 = .ok (.iload_n 2, 1) := by decide +kernel
theorem dX10_parse_117 : decode cX10_parse 117 = .ok (.ifCond .eq 7, 3) := by decide +kernel
theorem dX10_parse_120 : decode cX10_parse 120 = .ok (.iload_n 1, 1) := by decide +kernel
theorem dX10_parse_121 : decode cX10_parse 121 = .ok (.goto 4, 3) := by decide +kernel
theorem dX10_parse_124 : decode cX10_parse 124 = .ok (.iconst (-1), 1) := by decide +kernel
theorem dX10_parse_125 : decode cX10_parse 125 = .ok (.ireturn, 1) := by decide +kernel
theorem dX10_text_0 : decode cX10_text 0 = .ok (.aload_n 0, 1) := by decide +kernel
theorem dX10_text_1 : decode cX10_text 1 = .ok (.invokevirtual 310, 3) := by decide +kernel
theorem dX10_text_4 : decode cX10_text 4 = .ok (.istore_n 1, 1) := by decide +kernel
theorem dX10_text_5 : decode cX10_text 5 = .ok (.iload_n 1, 1) := by decide +kernel
theorem dX10_text_6 : decode cX10_text 6 = .ok (.ifCond .ge 11, 3) := by decide +kernel
theorem dX10_text_9 : decode cX10_text 9 = .ok (.bipush (-100), 2) := by decide +kernel
theorem dX10_text_11 : decode cX10_text 11 = .ok (.aload_n 0, 1) := by decide +kernel
theorem dX10_text_12 : decode cX10_text 12 = .ok (.getfield 239, 3) := by decide +kernel
theorem dX10_text_15 : decode cX10_text 15 = .ok (.isub, 1) := by decide +kernel
theorem dX10_text_16 : decode cX10_text 16 = .ok (.ireturn, 1) := by decide +kernel
theorem dX10_text_17 : decode cX10_text 17 = .ok (.aload_n 0, 1) := by decide +kernel
theorem dX10_text_18 : decode cX10_text 18 = .ok (.getfield 7, 3) := by decide +kernel
theorem dX10_text_21 : decode cX10_text 21 = .ok (.iconst 1, 1) := by decide +kernel
theorem dX10_text_22 : decode cX10_text 22 = .ok (.iaload, 1) := by decide +kernel
theorem dX10_text_23 : decode cX10_text 23 = .ok (.bipush 14, 2) := by decide +kernel
theorem dX10_text_25 : decode cX10_text 25 = .ok (.if_icmp .ne 6, 3) := by decide +kernel
theorem dX10_text_28 : decode cX10_text 28 = .ok (.ldc 189, 2) := by decide +kernel
theorem dX10_text_30 : decode cX10_text 30 = .ok (.ireturn, 1) := by decide +kernel
theorem dX10_text_31 : decode cX10_text 31 = .ok (.aload_n 0, 1) := by decide +kernel
theorem dX10_text_32 : decode cX10_text 32 = .ok (.aload_n 0, 1) := by decide +kernel
theorem dX10_text_33 : decode cX10_text 33 = .ok (.getfield 7, 3) := by decide +kernel
theorem dX10_text_36 : decode cX10_text 36 = .ok (.iconst 1, 1) := by decide +kernel
theorem dX10_text_37 : decode cX10_text 37 = .ok (.iaload, 1) := by decide +kernel
theorem dX10_text_38 : decode cX10_text 38 = .ok (.invokevirtual 304, 3) := by decide +kernel
theorem dX10_text_41 : decode cX10_text 41 = .ok (.istore_n 2, 1) := by decide +kernel
theorem dX10_text_42 : decode cX10_text 42 = .ok (.aload_n 0, 1) := by decide +kernel
theorem dX10_text_43 : decode cX10_text 43 = .ok (.getfield 7, 3) := by decide +kernel
theorem dX10_text_46 : decode cX10_text 46 = .ok (.iload_n 2, 1) := by decide +kernel
theorem dX10_text_47 : decode cX10_text 47 = .ok (.iconst 0, 1) := by decide +kernel
theorem dX10_text_48 : decode cX10_text 48 = .ok (.iadd, 1) := by decide +kernel
theorem dX10_text_49 : decode cX10_text 49 = .ok (.iload_n 1, 1) := by decide +kernel
theorem dX10_text_50 : decode cX10_text 50 = .ok (.iastore, 1) := by decide +kernel
theorem dX10_text_51 : decode cX10_text 51 = .ok (.aload_n 0, 1) := by decide +kernel
theorem dX10_text_52 : decode cX10_text 52 = .ok (.getfield 7, 3) := by decide +kernel
theorem dX10_text_55 : decode cX10_text 55 = .ok (.iload_n 2, 1) := by decide +kernel
theorem dX10_text_56 : decode cX10_text 56 = .ok (.iconst 1, 1) := by decide +kernel
theorem dX10_text_57 : decode cX10_text 57 = .ok (.iadd, 1) := by decide +kernel
theorem dX10_text_58 : decode cX10_text 58 = .ok (.aload_n 0, 1) := by decide +kernel
theorem dX10_text_59 : decode cX10_text 59 = .ok (.getfield 289, 3) := by decide +kernel
theorem dX10_text_62 : decode cX10_text 62 = .ok (.iastore, 1) := by decide +kernel
theorem dX10_text_63 : decode cX10_text 63 = .ok (.aload_n 0, 1) := by decide +kernel
theorem dX10_text_64 : decode cX10_text 64 = .ok (.getfield 7, 3) := by decide +kernel
theorem dX10_text_67 : decode cX10_text 67 = .ok (.iload_n 2, 1) := by decide +kernel
theorem dX10_text_68 : decode cX10_text 68 = .ok (.iconst 2, 1) := by decide +kernel
theorem dX10_text_69 : decode cX10_text 69 = .ok (.iadd, 1) := by decide +kernel
theorem dX10_text_70 : decode cX10_text 70 = .ok (.aload_n 0, 1) := by decide +kernel
theorem dX10_text_71 : decode cX10_text 71 = .ok (.getfield 261, 3) := by decide +kernel
theorem dX10_text_74 : decode cX10_text 74 = .ok (.iastore, 1) := by decide +kernel
theorem dX10_text_75 : decode cX10_text 75 = .ok (.aload_n 0, 1) := by decide +kernel
theorem dX10_text_76 : decode cX10_text 76 = .ok (.getfield 7, 3) := by decide +kernel
theorem dX10_text_79 : decode cX10_text 79 = .ok (.iconst 1, 1) := by decide +kernel
theorem dX10_text_80 : decode cX10_text 80 = .ok (.dup2, 1) := by decide +kernel
theorem dX10_text_81 : decode cX10_text 81 = .ok (.iaload, 1) := by decide +kernel
theorem dX10_text_82 : decode cX10_text 82 = .ok (.iconst 1, 1) := by decide +kernel
theorem dX10_text_83 : decode cX10_text 83 = .ok (.iadd, 1) := by decide +kernel
theorem dX10_text_84 : decode cX10_text 84 = .ok (.iastore, 1) := by decide +kernel
theorem dX10_text_85 : decode cX10_text 85 = .ok (.aload_n 0, 1) := by decide +kernel
theorem dX10_text_86 : decode cX10_text 86 = .ok (.getfield 7, 3) := by decide +kernel
theorem dX10_text_89 : decode cX10_text 89 = .ok (.iconst 1, 1) := by decide +kernel
theorem dX10_text_90 : decode cX10_text 90 = .ok (.iaload, 1) := by decide +kernel
theorem dX10_text_91 : decode cX10_text 91 = .ok (.iconst 1, 1) := by decide +kernel
theorem dX10_text_92 : decode cX10_text 92 = .ok (.isub, 1) := by decide +kernel
theorem dX10_text_93 : decode cX10_text 93 = .ok (.ireturn, 1) := by decide +kernel
theorem dX10_textTold_0 : decode cX10_textTold 0 = .ok (.aload_n 0, 1) := by decide +kernel
theorem dX10_textTold_1 : decode cX10_textTold 1 = .ok (.iload_n 1, 1) := by decide +kernel
theorem dX10_textTold_2 : decode cX10_textTold 2 = .ok (.invokevirtual 313, 3) := by decide +kernel
theorem dX10_textTold_5 : decode cX10_textTold 5 = .ok (.ifCond .eq 13, 3) := by decide +kernel
theorem dX10_textTold_8 : decode cX10_textTold 8 = .ok (.iload_n 2, 1) := by decide +kernel
theorem dX10_textTold_9 : decode cX10_textTold 9 = .ok (.i2l, 1) := by decide +kernel
theorem dX10_textTold_10 : decode cX10_textTold 10 = .ok (.lconst 0, 1) := by decide +kernel
theorem dX10_textTold_11 : decode cX10_textTold 11 = .ok (.lconst 1, 1) := by decide +kernel
theorem dX10_textTold_12 : decode cX10_textTold 12 = .ok (.invokestatic 87, 3) := by decide +kernel
theorem dX10_textTold_15 : decode cX10_textTold 15 = .ok (.ifCond .ne 6, 3) := by decide +kernel
theorem dX10_textTold_18 : decode cX10_textTold 18 = .ok (.ldc 126, 2) := by decide +kernel
theorem dX10_textTold_20 : decode cX10_textTold 20 = .ok (.ireturn, 1) := by decide +kernel
theorem dX10_textTold_21 : decode cX10_textTold 21 = .ok (.aload_n 0, 1) := by decide +kernel
theorem dX10_textTold_22 : decode cX10_textTold 22 = .ok (.getfield 7, 3) := by decide +kernel
theorem dX10_textTold_25 : decode cX10_textTold 25 = .ok (.aload_n 0, 1) := by decide +kernel
theorem dX10_textTold_26 : decode cX10_textTold 26 = .ok (.iload_n 1, 1) := by decide +kernel
theorem dX10_textTold_27 : decode cX10_textTold 27 = .ok (.invokevirtual 304, 3) := by decide +kernel
theorem dX10_textTold_30 : decode cX10_textTold 30 = .ok (.iload_n 2, 1) := by decide +kernel
theorem dX10_textTold_31 : decode cX10_textTold 31 = .ok (.iadd, 1) := by decide +kernel
theorem dX10_textTold_32 : decode cX10_textTold 32 = .ok (.iaload, 1) := by decide +kernel
theorem dX10_textTold_33 : decode cX10_textTold 33 = .ok (.ireturn, 1) := by decide +kernel
theorem dX10_counts_0 : decode cX10_counts 0 = .ok (.iconst (-1), 1) := by decide +kernel
theorem dX10_counts_1 : decode cX10_counts 1 = .ok (.istore_n 2, 1) := by decide +kernel
theorem dX10_counts_2 : decode cX10_counts 2 = .ok (.iconst 0, 1) := by decide +kernel
theorem dX10_counts_3 : decode cX10_counts 3 = .ok (.istore_n 3, 1) := by decide +kernel
theorem dX10_counts_4 : decode cX10_counts 4 = .ok (.iload_n 3, 1) := by decide +kernel
theorem dX10_counts_5 : decode cX10_counts 5 = .ok (.aload_n 0, 1) := by decide +kernel
theorem dX10_counts_6 : decode cX10_counts 6 = .ok (.getfield 7, 3) := by decide +kernel
theorem dX10_counts_9 : decode cX10_counts 9 = .ok (.iconst 1, 1) := by decide +kernel
theorem dX10_counts_10 : decode cX10_counts 10 = .ok (.iaload, 1) := by decide +kernel
theorem dX10_counts_11 : decode cX10_counts 11 = .ok (.if_icmp .ge 29, 3) := by decide +kernel
theorem dX10_counts_14 : decode cX10_counts 14 = .ok (.aload_n 0, 1) := by decide +kernel
theorem dX10_counts_15 : decode cX10_counts 15 = .ok (.getfield 7, 3) := by decide +kernel
theorem dX10_counts_18 : decode cX10_counts 18 = .ok (.aload_n 0, 1) := by decide +kernel
theorem dX10_counts_19 : decode cX10_counts 19 = .ok (.iload_n 3, 1) := by decide +kernel
theorem dX10_counts_20 : decode cX10_counts 20 = .ok (.invokevirtual 304, 3) := by decide +kernel
theorem dX10_counts_23 : decode cX10_counts 23 = .ok (.iaload, 1) := by decide +kernel
theorem dX10_counts_24 : decode cX10_counts 24 = .ok (.iload_n 1, 1) := by decide +kernel
theorem dX10_counts_25 : decode cX10_counts 25 = .ok (.if_icmp .ne 7, 3) := by decide +kernel
theorem dX10_counts_28 : decode cX10_counts 28 = .ok (.iload_n 3, 1) := by decide +kernel
theorem dX10_counts_29 : decode cX10_counts 29 = .ok (.goto 4, 3) := by decide +kernel
theorem dX10_counts_32 : decode cX10_counts 32 = .ok (.iload_n 2, 1) := by decide +kernel
theorem dX10_counts_33 : decode cX10_counts 33 = .ok (.istore_n 2, 1) := by decide +kernel
theorem dX10_counts_34 : decode cX10_counts 34 = .ok (.iinc 3 1, 3) := by decide +kernel
theorem dX10_counts_37 : decode cX10_counts 37 = .ok (.goto (-33), 3) := by decide +kernel
theorem dX10_counts_40 : decode cX10_counts 40 = .ok (.iload_n 2, 1) := by decide +kernel
theorem dX10_counts_41 : decode cX10_counts 41 = .ok (.ireturn, 1) := by decide +kernel
theorem dX10_why_0 : decode cX10_why 0 = .ok (.iload_n 1, 1) := by decide +kernel
theorem dX10_why_1 : decode cX10_why 1 = .ok (.i2l, 1) := by decide +kernel
theorem dX10_why_2 : decode cX10_why 2 = .ok (.lconst 0, 1) := by decide +kernel
theorem dX10_why_3 : decode cX10_why 3 = .ok (.ldc2_w 148, 3) := by decide +kernel
theorem dX10_why_6 : decode cX10_why 6 = .ok (.invokestatic 87, 3) := by decide +kernel
theorem dX10_why_9 : decode cX10_why 9 = .ok (.ifCond .eq 14, 3) := by decide +kernel
theorem dX10_why_12 : decode cX10_why 12 = .ok (.aload_n 0, 1) := by decide +kernel
theorem dX10_why_13 : decode cX10_why 13 = .ok (.iload_n 1, 1) := by decide +kernel
theorem dX10_why_14 : decode cX10_why 14 = .ok (.invokevirtual 96, 3) := by decide +kernel
theorem dX10_why_17 : decode cX10_why 17 = .ok (.invokestatic 316, 3) := by decide +kernel
theorem dX10_why_20 : decode cX10_why 20 = .ok (.goto 5, 3) := by decide +kernel
theorem dX10_why_23 : decode cX10_why 23 = .ok (.ldc 126, 2) := by decide +kernel
theorem dX10_why_25 : decode cX10_why 25 = .ok (.ireturn, 1) := by decide +kernel
theorem dX10_joined_0 : decode cX10_joined 0 = .ok (.iload_n 0, 1) := by decide +kernel
theorem dX10_joined_1 : decode cX10_joined 1 = .ok (.tableswitch 196 38 62 #[182, 196, 196, 196, 123, 115, 196, 119, 196, 127, 196, 196, 196, 196, 196, 196, 196, 196, 196, 196, 196, 196, 149, 171, 160], 115) := by decide +kernel
theorem dX10_joined_116 : decode cX10_joined 116 = .ok (.iload_n 1, 1) := by decide +kernel
theorem dX10_joined_117 : decode cX10_joined 117 = .ok (.iload_n 2, 1) := by decide +kernel
theorem dX10_joined_118 : decode cX10_joined 118 = .ok (.iadd, 1) := by decide +kernel
theorem dX10_joined_119 : decode cX10_joined 119 = .ok (.ireturn, 1) := by decide +kernel
theorem dX10_joined_120 : decode cX10_joined 120 = .ok (.iload_n 1, 1) := by decide +kernel
theorem dX10_joined_121 : decode cX10_joined 121 = .ok (.iload_n 2, 1) := by decide +kernel
theorem dX10_joined_122 : decode cX10_joined 122 = .ok (.isub, 1) := by decide +kernel
theorem dX10_joined_123 : decode cX10_joined 123 = .ok (.ireturn, 1) := by decide +kernel
theorem dX10_joined_124 : decode cX10_joined 124 = .ok (.iload_n 1, 1) := by decide +kernel
theorem dX10_joined_125 : decode cX10_joined 125 = .ok (.iload_n 2, 1) := by decide +kernel
theorem dX10_joined_126 : decode cX10_joined 126 = .ok (.imul, 1) := by decide +kernel
theorem dX10_joined_127 : decode cX10_joined 127 = .ok (.ireturn, 1) := by decide +kernel
theorem dX10_joined_128 : decode cX10_joined 128 = .ok (.iload_n 2, 1) := by decide +kernel
theorem dX10_joined_129 : decode cX10_joined 129 = .ok (.ifCond .ne 7, 3) := by decide +kernel
theorem dX10_joined_132 : decode cX10_joined 132 = .ok (.iconst 0, 1) := by decide +kernel
theorem dX10_joined_133 : decode cX10_joined 133 = .ok (.goto 16, 3) := by decide +kernel
theorem dX10_joined_136 : decode cX10_joined 136 = .ok (.iload_n 2, 1) := by decide +kernel
theorem dX10_joined_137 : decode cX10_joined 137 = .ok (.iconst (-1), 1) := by decide +kernel
theorem dX10_joined_138 : decode cX10_joined 138 = .ok (.if_icmp .ne 8, 3) := by decide +kernel
theorem dX10_joined_141 : decode cX10_joined 141 = .ok (.iload_n 1, 1) := by decide +kernel
theorem dX10_joined_142 : decode cX10_joined 142 = .ok (.ineg, 1) := by decide +kernel
theorem dX10_joined_143 : decode cX10_joined 143 = .ok (.goto 6, 3) := by decide +kernel
theorem dX10_joined_146 : decode cX10_joined 146 = .ok (.iload_n 1, 1) := by decide +kernel
theorem dX10_joined_147 : decode cX10_joined 147 = .ok (.iload_n 2, 1) := by decide +kernel
theorem dX10_joined_148 : decode cX10_joined 148 = .ok (.idiv, 1) := by decide +kernel
theorem dX10_joined_149 : decode cX10_joined 149 = .ok (.ireturn, 1) := by decide +kernel
theorem dX10_joined_150 : decode cX10_joined 150 = .ok (.iload_n 1, 1) := by decide +kernel
theorem dX10_joined_151 : decode cX10_joined 151 = .ok (.iload_n 2, 1) := by decide +kernel
theorem dX10_joined_152 : decode cX10_joined 152 = .ok (.if_icmp .ge 7, 3) := by decide +kernel
theorem dX10_joined_155 : decode cX10_joined 155 = .ok (.iconst 1, 1) := by decide +kernel
theorem dX10_joined_156 : decode cX10_joined 156 = .ok (.goto 4, 3) := by decide +kernel
theorem dX10_joined_159 : decode cX10_joined 159 = .ok (.iconst 0, 1) := by decide +kernel
theorem dX10_joined_160 : decode cX10_joined 160 = .ok (.ireturn, 1) := by decide +kernel
theorem dX10_joined_161 : decode cX10_joined 161 = .ok (.iload_n 1, 1) := by decide +kernel
theorem dX10_joined_162 : decode cX10_joined 162 = .ok (.iload_n 2, 1) := by decide +kernel
theorem dX10_joined_163 : decode cX10_joined 163 = .ok (.if_icmp .le 7, 3) := by decide +kernel
theorem dX10_joined_166 : decode cX10_joined 166 = .ok (.iconst 1, 1) := by decide +kernel
theorem dX10_joined_167 : decode cX10_joined 167 = .ok (.goto 4, 3) := by decide +kernel
theorem dX10_joined_170 : decode cX10_joined 170 = .ok (.iconst 0, 1) := by decide +kernel
theorem dX10_joined_171 : decode cX10_joined 171 = .ok (.ireturn, 1) := by decide +kernel
theorem dX10_joined_172 : decode cX10_joined 172 = .ok (.iload_n 1, 1) := by decide +kernel
theorem dX10_joined_173 : decode cX10_joined 173 = .ok (.iload_n 2, 1) := by decide +kernel
theorem dX10_joined_174 : decode cX10_joined 174 = .ok (.if_icmp .ne 7, 3) := by decide +kernel
theorem dX10_joined_177 : decode cX10_joined 177 = .ok (.iconst 1, 1) := by decide +kernel
theorem dX10_joined_178 : decode cX10_joined 178 = .ok (.goto 4, 3) := by decide +kernel
theorem dX10_joined_181 : decode cX10_joined 181 = .ok (.iconst 0, 1) := by decide +kernel
theorem dX10_joined_182 : decode cX10_joined 182 = .ok (.ireturn, 1) := by decide +kernel
theorem dX10_joined_183 : decode cX10_joined 183 = .ok (.iload_n 1, 1) := by decide +kernel
theorem dX10_joined_184 : decode cX10_joined 184 = .ok (.ifCond .eq 11, 3) := by decide +kernel
