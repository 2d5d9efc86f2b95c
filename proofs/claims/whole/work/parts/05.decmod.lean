theorem d_Mo_init_0 : decode b_Mo_init 0 = .ok (.aload_n 0, 1) := by decide +kernel
theorem d_Mo_init_1 : decode b_Mo_init 1 = .ok (.invokespecial 1, 3) := by decide +kernel
theorem d_Mo_init_4 : decode b_Mo_init 4 = .ok (.aload_n 0, 1) := by decide +kernel
theorem d_Mo_init_5 : decode b_Mo_init 5 = .ok (.iconst 2, 1) := by decide +kernel
theorem d_Mo_init_6 : decode b_Mo_init 6 = .ok (.newarray .int, 2) := by decide +kernel
theorem d_Mo_init_8 : decode b_Mo_init 8 = .ok (.putfield 7, 3) := by decide +kernel
theorem d_Mo_init_11 : decode b_Mo_init 11 = .ok (.aload_n 0, 1) := by decide +kernel
theorem d_Mo_init_12 : decode b_Mo_init 12 = .ok (.bipush 60, 2) := by decide +kernel
theorem d_Mo_init_14 : decode b_Mo_init 14 = .ok (.newarray .int, 2) := by decide +kernel
theorem d_Mo_init_16 : decode b_Mo_init 16 = .ok (.putfield 13, 3) := by decide +kernel
theorem d_Mo_init_19 : decode b_Mo_init 19 = .ok (.aload_n 0, 1) := by decide +kernel
theorem d_Mo_init_20 : decode b_Mo_init 20 = .ok (.bipush 60, 2) := by decide +kernel
theorem d_Mo_init_22 : decode b_Mo_init 22 = .ok (.newarray .int, 2) := by decide +kernel
theorem d_Mo_init_24 : decode b_Mo_init 24 = .ok (.putfield 16, 3) := by decide +kernel
theorem d_Mo_init_27 : decode b_Mo_init 27 = .ok (.aload_n 0, 1) := by decide +kernel
theorem d_Mo_init_28 : decode b_Mo_init 28 = .ok (.bipush 60, 2) := by decide +kernel
theorem d_Mo_init_30 : decode b_Mo_init 30 = .ok (.newarray .int, 2) := by decide +kernel
theorem d_Mo_init_32 : decode b_Mo_init 32 = .ok (.putfield 19, 3) := by decide +kernel
theorem d_Mo_init_35 : decode b_Mo_init 35 = .ok (.aload_n 0, 1) := by decide +kernel
theorem d_Mo_init_36 : decode b_Mo_init 36 = .ok (.bipush 60, 2) := by decide +kernel
theorem d_Mo_init_38 : decode b_Mo_init 38 = .ok (.newarray .long, 2) := by decide +kernel
theorem d_Mo_init_40 : decode b_Mo_init 40 = .ok (.putfield 22, 3) := by decide +kernel
theorem d_Mo_init_43 : decode b_Mo_init 43 = .ok (.aload_n 0, 1) := by decide +kernel
theorem d_Mo_init_44 : decode b_Mo_init 44 = .ok (.bipush 30, 2) := by decide +kernel
theorem d_Mo_init_46 : decode b_Mo_init 46 = .ok (.newarray .int, 2) := by decide +kernel
theorem d_Mo_init_48 : decode b_Mo_init 48 = .ok (.putfield 26, 3) := by decide +kernel
theorem d_Mo_init_51 : decode b_Mo_init 51 = .ok (.aload_n 0, 1) := by decide +kernel
theorem d_Mo_init_52 : decode b_Mo_init 52 = .ok (.bipush 30, 2) := by decide +kernel
theorem d_Mo_init_54 : decode b_Mo_init 54 = .ok (.newarray .boolean, 2) := by decide +kernel
theorem d_Mo_init_56 : decode b_Mo_init 56 = .ok (.putfield 29, 3) := by decide +kernel
theorem d_Mo_init_59 : decode b_Mo_init 59 = .ok (.aload_n 0, 1) := by decide +kernel
theorem d_Mo_init_60 : decode b_Mo_init 60 = .ok (.bipush 8, 2) := by decide +kernel
theorem d_Mo_init_62 : decode b_Mo_init 62 = .ok (.newarray .long, 2) := by decide +kernel
theorem d_Mo_init_64 : decode b_Mo_init 64 = .ok (.putfield 33, 3) := by decide +kernel
theorem d_Mo_init_67 : decode b_Mo_init 67 = .ok (.aload_n 0, 1) := by decide +kernel
theorem d_Mo_init_68 : decode b_Mo_init 68 = .ok (.bipush 8, 2) := by decide +kernel
theorem d_Mo_init_70 : decode b_Mo_init 70 = .ok (.newarray .int, 2) := by decide +kernel
theorem d_Mo_init_72 : decode b_Mo_init 72 = .ok (.putfield 36, 3) := by decide +kernel
theorem d_Mo_init_75 : decode b_Mo_init 75 = .ok (.aload_n 0, 1) := by decide +kernel
theorem d_Mo_init_76 : decode b_Mo_init 76 = .ok (.bipush 8, 2) := by decide +kernel
theorem d_Mo_init_78 : decode b_Mo_init 78 = .ok (.newarray .int, 2) := by decide +kernel
theorem d_Mo_init_80 : decode b_Mo_init 80 = .ok (.putfield 39, 3) := by decide +kernel
theorem d_Mo_init_83 : decode b_Mo_init 83 = .ok (.aload_n 0, 1) := by decide +kernel
theorem d_Mo_init_84 : decode b_Mo_init 84 = .ok (.bipush 64, 2) := by decide +kernel
theorem d_Mo_init_86 : decode b_Mo_init 86 = .ok (.newarray .int, 2) := by decide +kernel
theorem d_Mo_init_88 : decode b_Mo_init 88 = .ok (.putfield 42, 3) := by decide +kernel
theorem d_Mo_init_91 : decode b_Mo_init 91 = .ok (.aload_n 0, 1) := by decide +kernel
theorem d_Mo_init_92 : decode b_Mo_init 92 = .ok (.bipush 64, 2) := by decide +kernel
theorem d_Mo_init_94 : decode b_Mo_init 94 = .ok (.newarray .long, 2) := by decide +kernel
theorem d_Mo_init_96 : decode b_Mo_init 96 = .ok (.putfield 45, 3) := by decide +kernel
theorem d_Mo_init_99 : decode b_Mo_init 99 = .ok (.aload_n 0, 1) := by decide +kernel
theorem d_Mo_init_100 : decode b_Mo_init 100 = .ok (.bipush 10, 2) := by decide +kernel
theorem d_Mo_init_102 : decode b_Mo_init 102 = .ok (.newarray .int, 2) := by decide +kernel
theorem d_Mo_init_104 : decode b_Mo_init 104 = .ok (.putfield 48, 3) := by decide +kernel
theorem d_Mo_init_107 : decode b_Mo_init 107 = .ok (.aload_n 0, 1) := by decide +kernel
theorem d_Mo_init_108 : decode b_Mo_init 108 = .ok (.bipush 30, 2) := by decide +kernel
theorem d_Mo_init_110 : decode b_Mo_init 110 = .ok (.newarray .int, 2) := by decide +kernel
theorem d_Mo_init_112 : decode b_Mo_init 112 = .ok (.putfield 51, 3) := by decide +kernel
theorem d_Mo_init_115 : decode b_Mo_init 115 = .ok (.aload_n 0, 1) := by decide +kernel
theorem d_Mo_init_116 : decode b_Mo_init 116 = .ok (.bipush 30, 2) := by decide +kernel
theorem d_Mo_init_118 : decode b_Mo_init 118 = .ok (.newarray .int, 2) := by decide +kernel
theorem d_Mo_init_120 : decode b_Mo_init 120 = .ok (.putfield 54, 3) := by decide +kernel
theorem d_Mo_init_123 : decode b_Mo_init 123 = .ok (.aload_n 0, 1) := by decide +kernel
theorem d_Mo_init_124 : decode b_Mo_init 124 = .ok (.bipush 30, 2) := by decide +kernel
theorem d_Mo_init_126 : decode b_Mo_init 126 = .ok (.newarray .boolean, 2) := by decide +kernel
theorem d_Mo_init_128 : decode b_Mo_init 128 = .ok (.putfield 57, 3) := by decide +kernel
theorem d_Mo_init_131 : decode b_Mo_init 131 = .ok (.aload_n 0, 1) := by decide +kernel
theorem d_Mo_init_132 : decode b_Mo_init 132 = .ok (.sipush 961, 3) := by decide +kernel
theorem d_Mo_init_135 : decode b_Mo_init 135 = .ok (.newarray .long, 2) := by decide +kernel
theorem d_Mo_init_137 : decode b_Mo_init 137 = .ok (.putfield 60, 3) := by decide +kernel
theorem d_Mo_init_140 : decode b_Mo_init 140 = .ok (.aload_n 0, 1) := by decide +kernel
theorem d_Mo_init_141 : decode b_Mo_init 141 = .ok (.bipush 30, 2) := by decide +kernel
theorem d_Mo_init_143 : decode b_Mo_init 143 = .ok (.newarray .boolean, 2) := by decide +kernel
theorem d_Mo_init_145 : decode b_Mo_init 145 = .ok (.putfield 63, 3) := by decide +kernel
theorem d_Mo_init_148 : decode b_Mo_init 148 = .ok (.aload_n 0, 1) := by decide +kernel
theorem d_Mo_init_149 : decode b_Mo_init 149 = .ok (.bipush 10, 2) := by decide +kernel
theorem d_Mo_init_151 : decode b_Mo_init 151 = .ok (.newarray .int, 2) := by decide +kernel
theorem d_Mo_init_153 : decode b_Mo_init 153 = .ok (.putfield 66, 3) := by decide +kernel
theorem d_Mo_init_156 : decode b_Mo_init 156 = .ok (.aload_n 0, 1) := by decide +kernel
theorem d_Mo_init_157 : decode b_Mo_init 157 = .ok (.bipush 10, 2) := by decide +kernel
theorem d_Mo_init_159 : decode b_Mo_init 159 = .ok (.newarray .int, 2) := by decide +kernel
theorem d_Mo_init_161 : decode b_Mo_init 161 = .ok (.putfield 69, 3) := by decide +kernel
theorem d_Mo_init_164 : decode b_Mo_init 164 = .ok (.aload_n 0, 1) := by decide +kernel
theorem d_Mo_init_165 : decode b_Mo_init 165 = .ok (.bipush 10, 2) := by decide +kernel
theorem d_Mo_init_167 : decode b_Mo_init 167 = .ok (.newarray .int, 2) := by decide +kernel
theorem d_Mo_init_169 : decode b_Mo_init 169 = .ok (.putfield 72, 3) := by decide +kernel
theorem d_Mo_init_172 : decode b_Mo_init 172 = .ok (.aload_n 0, 1) := by decide +kernel
theorem d_Mo_init_173 : decode b_Mo_init 173 = .ok (.lload_n 1, 1) := by decide +kernel
theorem d_Mo_init_174 : decode b_Mo_init 174 = .ok (.putfield 75, 3) := by decide +kernel
theorem d_Mo_init_177 : decode b_Mo_init 177 = .ok (.iconst 0, 1) := by decide +kernel
theorem d_Mo_init_178 : decode b_Mo_init 178 = .ok (.istore_n 3, 1) := by decide +kernel
theorem d_Mo_init_179 : decode b_Mo_init 179 = .ok (.iload_n 3, 1) := by decide +kernel
theorem d_Mo_init_180 : decode b_Mo_init 180 = .ok (.bipush 10, 2) := by decide +kernel
theorem d_Mo_init_182 : decode b_Mo_init 182 = .ok (.if_icmp .ge 25, 3) := by decide +kernel
theorem d_Mo_init_185 : decode b_Mo_init 185 = .ok (.aload_n 0, 1) := by decide +kernel
theorem d_Mo_init_186 : decode b_Mo_init 186 = .ok (.getfield 48, 3) := by decide +kernel
theorem d_Mo_init_189 : decode b_Mo_init 189 = .ok (.iload_n 3, 1) := by decide +kernel
theorem d_Mo_init_190 : decode b_Mo_init 190 = .ok (.sipush 2520, 3) := by decide +kernel
theorem d_Mo_init_193 : decode b_Mo_init 193 = .ok (.iastore, 1) := by decide +kernel
theorem d_Mo_init_194 : decode b_Mo_init 194 = .ok (.aload_n 0, 1) := by decide +kernel
theorem d_Mo_init_195 : decode b_Mo_init 195 = .ok (.getfield 69, 3) := by decide +kernel
theorem d_Mo_init_198 : decode b_Mo_init 198 = .ok (.iload_n 3, 1) := by decide +kernel
theorem d_Mo_init_199 : decode b_Mo_init 199 = .ok (.iconst (-1), 1) := by decide +kernel
theorem d_Mo_init_200 : decode b_Mo_init 200 = .ok (.iastore, 1) := by decide +kernel
theorem d_Mo_init_201 : decode b_Mo_init 201 = .ok (.iinc 3 1, 3) := by decide +kernel
theorem d_Mo_init_204 : decode b_Mo_init 204 = .ok (.goto (-25), 3) := by decide +kernel
theorem d_Mo_init_207 : decode b_Mo_init 207 = .ok (.iconst 0, 1) := by decide +kernel
theorem d_Mo_init_208 : decode b_Mo_init 208 = .ok (.istore_n 3, 1) := by decide +kernel
theorem d_Mo_init_209 : decode b_Mo_init 209 = .ok (.iload_n 3, 1) := by decide +kernel
theorem d_Mo_init_210 : decode b_Mo_init 210 = .ok (.bipush 30, 2) := by decide +kernel
theorem d_Mo_init_212 : decode b_Mo_init 212 = .ok (.if_icmp .gt 87, 3) := by decide +kernel
theorem d_Mo_init_215 : decode b_Mo_init 215 = .ok (.aload_n 0, 1) := by decide +kernel
theorem d_Mo_init_216 : decode b_Mo_init 216 = .ok (.getfield 60, 3) := by decide +kernel
theorem d_Mo_init_219 : decode b_Mo_init 219 = .ok (.bipush 31, 2) := by decide +kernel
theorem d_Mo_init_221 : decode b_Mo_init 221 = .ok (.iload_n 3, 1) := by decide +kernel
theorem d_Mo_init_222 : decode b_Mo_init 222 = .ok (.imul, 1) := by decide +kernel
theorem d_Mo_init_223 : decode b_Mo_init 223 = .ok (.lconst 1, 1) := by decide +kernel
theorem d_Mo_init_224 : decode b_Mo_init 224 = .ok (.lastore, 1) := by decide +kernel
theorem d_Mo_init_225 : decode b_Mo_init 225 = .ok (.iconst 1, 1) := by decide +kernel
theorem d_Mo_init_226 : decode b_Mo_init 226 = .ok (.istore 4, 2) := by decide +kernel
theorem d_Mo_init_228 : decode b_Mo_init 228 = .ok (.iload 4, 2) := by decide +kernel
theorem d_Mo_init_230 : decode b_Mo_init 230 = .ok (.iload_n 3, 1) := by decide +kernel
theorem d_Mo_init_231 : decode b_Mo_init 231 = .ok (.if_icmp .gt 62, 3) := by decide +kernel
theorem d_Mo_init_234 : decode b_Mo_init 234 = .ok (.aload_n 0, 1) := by decide +kernel
theorem d_Mo_init_235 : decode b_Mo_init 235 = .ok (.getfield 60, 3) := by decide +kernel
theorem d_Mo_init_238 : decode b_Mo_init 238 = .ok (.bipush 31, 2) := by decide +kernel
theorem d_Mo_init_240 : decode b_Mo_init 240 = .ok (.iload_n 3, 1) := by decide +kernel
theorem d_Mo_init_241 : decode b_Mo_init 241 = .ok (.imul, 1) := by decide +kernel
theorem d_Mo_init_242 : decode b_Mo_init 242 = .ok (.iload 4, 2) := by decide +kernel
theorem d_Mo_init_244 : decode b_Mo_init 244 = .ok (.iadd, 1) := by decide +kernel
theorem d_Mo_init_245 : decode b_Mo_init 245 = .ok (.aload_n 0, 1) := by decide +kernel
theorem d_Mo_init_246 : decode b_Mo_init 246 = .ok (.getfield 60, 3) := by decide +kernel
theorem d_Mo_init_249 : decode b_Mo_init 249 = .ok (.bipush 31, 2) := by decide +kernel
theorem d_Mo_init_251 : decode b_Mo_init 251 = .ok (.iload_n 3, 1) := by decide +kernel
theorem d_Mo_init_252 : decode b_Mo_init 252 = .ok (.iconst 1, 1) := by decide +kernel
theorem d_Mo_init_253 : decode b_Mo_init 253 = .ok (.isub, 1) := by decide +kernel
theorem d_Mo_init_254 : decode b_Mo_init 254 = .ok (.imul, 1) := by decide +kernel
theorem d_Mo_init_255 : decode b_Mo_init 255 = .ok (.iload 4, 2) := by decide +kernel
theorem d_Mo_init_257 : decode b_Mo_init 257 = .ok (.iadd, 1) := by decide +kernel
theorem d_Mo_init_258 : decode b_Mo_init 258 = .ok (.iconst 1, 1) := by decide +kernel
theorem d_Mo_init_259 : decode b_Mo_init 259 = .ok (.isub, 1) := by decide +kernel
theorem d_Mo_init_260 : decode b_Mo_init 260 = .ok (.laload, 1) := by decide +kernel
theorem d_Mo_init_261 : decode b_Mo_init 261 = .ok (.iload 4, 2) := by decide +kernel
theorem d_Mo_init_263 : decode b_Mo_init 263 = .ok (.iload_n 3, 1) := by decide +kernel
theorem d_Mo_init_264 : decode b_Mo_init 264 = .ok (.if_icmp .ge 20, 3) := by decide +kernel
theorem d_Mo_init_267 : decode b_Mo_init 267 = .ok (.aload_n 0, 1) := by decide +kernel
theorem d_Mo_init_268 : decode b_Mo_init 268 = .ok (.getfield 60, 3) := by decide +kernel
theorem d_Mo_init_271 : decode b_Mo_init 271 = .ok (.bipush 31, 2) := by decide +kernel
theorem d_Mo_init_273 : decode b_Mo_init 273 = .ok (.iload_n 3, 1) := by decide +kernel
theorem d_Mo_init_274 : decode b_Mo_init 274 = .ok (.iconst 1, 1) := by decide +kernel
theorem d_Mo_init_275 : decode b_Mo_init 275 = .ok (.isub, 1) := by decide +kernel
theorem d_Mo_init_276 : decode b_Mo_init 276 = .ok (.imul, 1) := by decide +kernel
theorem d_Mo_init_277 : decode b_Mo_init 277 = .ok (.iload 4, 2) := by decide +kernel
theorem d_Mo_init_279 : decode b_Mo_init 279 = .ok (.iadd, 1) := by decide +kernel
theorem d_Mo_init_280 : decode b_Mo_init 280 = .ok (.laload, 1) := by decide +kernel
theorem d_Mo_init_281 : decode b_Mo_init 281 = .ok (.goto 4, 3) := by decide +kernel
theorem d_Mo_init_284 : decode b_Mo_init 284 = .ok (.lconst 0, 1) := by decide +kernel
theorem d_Mo_init_285 : decode b_Mo_init 285 = .ok (.ladd, 1) := by decide +kernel
theorem d_Mo_init_286 : decode b_Mo_init 286 = .ok (.lastore, 1) := by decide +kernel
theorem d_Mo_init_287 : decode b_Mo_init 287 = .ok (.iinc 4 1, 3) := by decide +kernel
theorem d_Mo_init_290 : decode b_Mo_init 290 = .ok (.goto (-62), 3) := by decide +kernel
theorem d_Mo_init_293 : decode b_Mo_init 293 = .ok (.iinc 3 1, 3) := by decide +kernel
theorem d_Mo_init_296 : decode b_Mo_init 296 = .ok (.goto (-87), 3) := by decide +kernel
theorem d_Mo_init_299 : decode b_Mo_init 299 = .ok (.return_, 1) := by decide +kernel
theorem d_Mo_thrown_0 : decode b_Mo_thrown 0 = .ok (.aload_n 0, 1) := by decide +kernel
theorem d_Mo_thrown_1 : decode b_Mo_thrown 1 = .ok (.getfield 79, 3) := by decide +kernel
theorem d_Mo_thrown_4 : decode b_Mo_thrown 4 = .ok (.ireturn, 1) := by decide +kernel
theorem d_Mo_within_0 : decode b_Mo_within 0 = .ok (.lload_n 0, 1) := by decide +kernel
theorem d_Mo_within_1 : decode b_Mo_within 1 = .ok (.lload_n 2, 1) := by decide +kernel
theorem d_Mo_within_2 : decode b_Mo_within 2 = .ok (.lcmp, 1) := by decide +kernel
theorem d_Mo_within_3 : decode b_Mo_within 3 = .ok (.ifCond .lt 14, 3) := by decide +kernel
theorem d_Mo_within_6 : decode b_Mo_within 6 = .ok (.lload_n 0, 1) := by decide +kernel
theorem d_Mo_within_7 : decode b_Mo_within 7 = .ok (.lload 4, 2) := by decide +kernel
theorem d_Mo_within_9 : decode b_Mo_within 9 = .ok (.lcmp, 1) := by decide +kernel
theorem d_Mo_within_10 : decode b_Mo_within 10 = .ok (.ifCond .gt 7, 3) := by decide +kernel
theorem d_Mo_within_13 : decode b_Mo_within 13 = .ok (.iconst 1, 1) := by decide +kernel
theorem d_Mo_within_14 : decode b_Mo_within 14 = .ok (.goto 4, 3) := by decide +kernel
theorem d_Mo_within_17 : decode b_Mo_within 17 = .ok (.iconst 0, 1) := by decide +kernel
theorem d_Mo_within_18 : decode b_Mo_within 18 = .ok (.ireturn, 1) := by decide +kernel
theorem d_Mo_isTen_0 : decode b_Mo_isTen 0 = .ok (.iload_n 0, 1) := by decide +kernel
theorem d_Mo_isTen_1 : decode b_Mo_isTen 1 = .ok (.ifCond .lt 13, 3) := by decide +kernel
theorem d_Mo_isTen_4 : decode b_Mo_isTen 4 = .ok (.iload_n 0, 1) := by decide +kernel
theorem d_Mo_isTen_5 : decode b_Mo_isTen 5 = .ok (.bipush 10, 2) := by decide +kernel
theorem d_Mo_isTen_7 : decode b_Mo_isTen 7 = .ok (.if_icmp .ge 7, 3) := by decide +kernel
theorem d_Mo_isTen_10 : decode b_Mo_isTen 10 = .ok (.iconst 1, 1) := by decide +kernel
theorem d_Mo_isTen_11 : decode b_Mo_isTen 11 = .ok (.goto 4, 3) := by decide +kernel
theorem d_Mo_isTen_14 : decode b_Mo_isTen 14 = .ok (.iconst 0, 1) := by decide +kernel
theorem d_Mo_isTen_15 : decode b_Mo_isTen 15 = .ok (.ireturn, 1) := by decide +kernel
theorem d_Mo_tell_0 : decode b_Mo_tell 0 = .ok (.aload_n 0, 1) := by decide +kernel
theorem d_Mo_tell_1 : decode b_Mo_tell 1 = .ok (.iconst 0, 1) := by decide +kernel
theorem d_Mo_tell_2 : decode b_Mo_tell 2 = .ok (.putfield 79, 3) := by decide +kernel
theorem d_Mo_tell_5 : decode b_Mo_tell 5 = .ok (.iload_n 2, 1) := by decide +kernel
theorem d_Mo_tell_6 : decode b_Mo_tell 6 = .ok (.invokestatic 83, 3) := by decide +kernel
theorem d_Mo_tell_9 : decode b_Mo_tell 9 = .ok (.ifCond .eq 46, 3) := by decide +kernel
theorem d_Mo_tell_12 : decode b_Mo_tell 12 = .ok (.iload_n 3, 1) := by decide +kernel
theorem d_Mo_tell_13 : decode b_Mo_tell 13 = .ok (.i2l, 1) := by decide +kernel
theorem d_Mo_tell_14 : decode b_Mo_tell 14 = .ok (.lconst 0, 1) := by decide +kernel
theorem d_Mo_tell_15 : decode b_Mo_tell 15 = .ok (.ldc2_w 87, 3) := by decide +kernel
theorem d_Mo_tell_18 : decode b_Mo_tell 18 = .ok (.invokestatic 89, 3) := by decide +kernel
theorem d_Mo_tell_21 : decode b_Mo_tell 21 = .ok (.ifCond .eq 34, 3) := by decide +kernel
theorem d_Mo_tell_24 : decode b_Mo_tell 24 = .ok (.iload 4, 2) := by decide +kernel
theorem d_Mo_tell_26 : decode b_Mo_tell 26 = .ok (.invokestatic 83, 3) := by decide +kernel
theorem d_Mo_tell_29 : decode b_Mo_tell 29 = .ok (.ifCond .eq 26, 3) := by decide +kernel
theorem d_Mo_tell_32 : decode b_Mo_tell 32 = .ok (.lload 5, 2) := by decide +kernel
theorem d_Mo_tell_34 : decode b_Mo_tell 34 = .ok (.lconst 1, 1) := by decide +kernel
theorem d_Mo_tell_35 : decode b_Mo_tell 35 = .ok (.ldc2_w 93, 3) := by decide +kernel
theorem d_Mo_tell_38 : decode b_Mo_tell 38 = .ok (.invokestatic 89, 3) := by decide +kernel
theorem d_Mo_tell_41 : decode b_Mo_tell 41 = .ok (.ifCond .eq 14, 3) := by decide +kernel
theorem d_Mo_tell_44 : decode b_Mo_tell 44 = .ok (.aload_n 0, 1) := by decide +kernel
theorem d_Mo_tell_45 : decode b_Mo_tell 45 = .ok (.getfield 7, 3) := by decide +kernel
theorem d_Mo_tell_48 : decode b_Mo_tell 48 = .ok (.iload_n 1, 1) := by decide +kernel
theorem d_Mo_tell_49 : decode b_Mo_tell 49 = .ok (.iaload, 1) := by decide +kernel
theorem d_Mo_tell_50 : decode b_Mo_tell 50 = .ok (.bipush 30, 2) := by decide +kernel
theorem d_Mo_tell_52 : decode b_Mo_tell 52 = .ok (.if_icmp .ne 5, 3) := by decide +kernel
theorem d_Mo_tell_55 : decode b_Mo_tell 55 = .ok (.iconst (-1), 1) := by decide +kernel
theorem d_Mo_tell_56 : decode b_Mo_tell 56 = .ok (.ireturn, 1) := by decide +kernel
theorem d_Mo_tell_57 : decode b_Mo_tell 57 = .ok (.bipush 30, 2) := by decide +kernel
theorem d_Mo_tell_59 : decode b_Mo_tell 59 = .ok (.iload_n 1, 1) := by decide +kernel
theorem d_Mo_tell_60 : decode b_Mo_tell 60 = .ok (.imul, 1) := by decide +kernel
theorem d_Mo_tell_61 : decode b_Mo_tell 61 = .ok (.aload_n 0, 1) := by decide +kernel
theorem d_Mo_tell_62 : decode b_Mo_tell 62 = .ok (.getfield 7, 3) := by decide +kernel
theorem d_Mo_tell_65 : decode b_Mo_tell 65 = .ok (.iload_n 1, 1) := by decide +kernel
theorem d_Mo_tell_66 : decode b_Mo_tell 66 = .ok (.iaload, 1) := by decide +kernel
theorem d_Mo_tell_67 : decode b_Mo_tell 67 = .ok (.iadd, 1) := by decide +kernel
theorem d_Mo_tell_68 : decode b_Mo_tell 68 = .ok (.istore 7, 2) := by decide +kernel
theorem d_Mo_tell_70 : decode b_Mo_tell 70 = .ok (.aload_n 0, 1) := by decide +kernel
theorem d_Mo_tell_71 : decode b_Mo_tell 71 = .ok (.getfield 13, 3) := by decide +kernel
theorem d_Mo_tell_74 : decode b_Mo_tell 74 = .ok (.iload 7, 2) := by decide +kernel
theorem d_Mo_tell_76 : decode b_Mo_tell 76 = .ok (.iload_n 2, 1) := by decide +kernel
theorem d_Mo_tell_77 : decode b_Mo_tell 77 = .ok (.iastore, 1) := by decide +kernel
theorem d_Mo_tell_78 : decode b_Mo_tell 78 = .ok (.aload_n 0, 1) := by decide +kernel
theorem d_Mo_tell_79 : decode b_Mo_tell 79 = .ok (.getfield 16, 3) := by decide +kernel
theorem d_Mo_tell_82 : decode b_Mo_tell 82 = .ok (.iload 7, 2) := by decide +kernel
theorem d_Mo_tell_84 : decode b_Mo_tell 84 = .ok (.iload_n 3, 1) := by decide +kernel
theorem d_Mo_tell_85 : decode b_Mo_tell 85 = .ok (.iastore, 1) := by decide +kernel
theorem d_Mo_tell_86 : decode b_Mo_tell 86 = .ok (.aload_n 0, 1) := by decide +kernel
theorem d_Mo_tell_87 : decode b_Mo_tell 87 = .ok (.getfield 19, 3) := by decide +kernel
theorem d_Mo_tell_90 : decode b_Mo_tell 90 = .ok (.iload 7, 2) := by decide +kernel
theorem d_Mo_tell_92 : decode b_Mo_tell 92 = .ok (.iload 4, 2) := by decide +kernel
theorem d_Mo_tell_94 : decode b_Mo_tell 94 = .ok (.iastore, 1) := by decide +kernel
theorem d_Mo_tell_95 : decode b_Mo_tell 95 = .ok (.aload_n 0, 1) := by decide +kernel
theorem d_Mo_tell_96 : decode b_Mo_tell 96 = .ok (.getfield 22, 3) := by decide +kernel
theorem d_Mo_tell_99 : decode b_Mo_tell 99 = .ok (.iload 7, 2) := by decide +kernel
theorem d_Mo_tell_101 : decode b_Mo_tell 101 = .ok (.lload 5, 2) := by decide +kernel
theorem d_Mo_tell_103 : decode b_Mo_tell 103 = .ok (.lastore, 1) := by decide +kernel
theorem d_Mo_tell_104 : decode b_Mo_tell 104 = .ok (.iload_n 1, 1) := by decide +kernel
theorem d_Mo_tell_105 : decode b_Mo_tell 105 = .ok (.ifCond .ne 14, 3) := by decide +kernel
theorem d_Mo_tell_108 : decode b_Mo_tell 108 = .ok (.aload_n 0, 1) := by decide +kernel
theorem d_Mo_tell_109 : decode b_Mo_tell 109 = .ok (.getfield 26, 3) := by decide +kernel
theorem d_Mo_tell_112 : decode b_Mo_tell 112 = .ok (.iload 7, 2) := by decide +kernel
theorem d_Mo_tell_114 : decode b_Mo_tell 114 = .ok (.iconst (-1), 1) := by decide +kernel
theorem d_Mo_tell_115 : decode b_Mo_tell 115 = .ok (.iastore, 1) := by decide +kernel
theorem d_Mo_tell_116 : decode b_Mo_tell 116 = .ok (.goto 14, 3) := by decide +kernel
theorem d_Mo_tell_119 : decode b_Mo_tell 119 = .ok (.aload_n 0, 1) := by decide +kernel
theorem d_Mo_tell_120 : decode b_Mo_tell 120 = .ok (.getfield 29, 3) := by decide +kernel
theorem d_Mo_tell_123 : decode b_Mo_tell 123 = .ok (.iload 7, 2) := by decide +kernel
theorem d_Mo_tell_125 : decode b_Mo_tell 125 = .ok (.bipush 30, 2) := by decide +kernel
theorem d_Mo_tell_127 : decode b_Mo_tell 127 = .ok (.isub, 1) := by decide +kernel
theorem d_Mo_tell_128 : decode b_Mo_tell 128 = .ok (.iconst 0, 1) := by decide +kernel
theorem d_Mo_tell_129 : decode b_Mo_tell 129 = .ok (.bastore, 1) := by decide +kernel
theorem d_Mo_tell_130 : decode b_Mo_tell 130 = .ok (.aload_n 0, 1) := by decide +kernel
theorem d_Mo_tell_131 : decode b_Mo_tell 131 = .ok (.getfield 7, 3) := by decide +kernel
theorem d_Mo_tell_134 : decode b_Mo_tell 134 = .ok (.iload_n 1, 1) := by decide +kernel
theorem d_Mo_tell_135 : decode b_Mo_tell 135 = .ok (.dup2, 1) := by decide +kernel
theorem d_Mo_tell_136 : decode b_Mo_tell 136 = .ok (.iaload, 1) := by decide +kernel
theorem d_Mo_tell_137 : decode b_Mo_tell 137 = .ok (.iconst 1, 1) := by decide +kernel
theorem d_Mo_tell_138 : decode b_Mo_tell 138 = .ok (.iadd, 1) := by decide +kernel
theorem d_Mo_tell_139 : decode b_Mo_tell 139 = .ok (.iastore, 1) := by decide +kernel
theorem d_Mo_tell_140 : decode b_Mo_tell 140 = .ok (.aload_n 0, 1) := by decide +kernel
theorem d_Mo_tell_141 : decode b_Mo_tell 141 = .ok (.getfield 7, 3) := by decide +kernel
theorem d_Mo_tell_144 : decode b_Mo_tell 144 = .ok (.iload_n 1, 1) := by decide +kernel
theorem d_Mo_tell_145 : decode b_Mo_tell 145 = .ok (.iaload, 1) := by decide +kernel
theorem d_Mo_tell_146 : decode b_Mo_tell 146 = .ok (.iconst 1, 1) := by decide +kernel
theorem d_Mo_tell_147 : decode b_Mo_tell 147 = .ok (.isub, 1) := by decide +kernel
theorem d_Mo_tell_148 : decode b_Mo_tell 148 = .ok (.ireturn, 1) := by decide +kernel
theorem d_Mo_page_0 : decode b_Mo_page 0 = .ok (.aload_n 0, 1) := by decide +kernel
theorem d_Mo_page_1 : decode b_Mo_page 1 = .ok (.iconst 0, 1) := by decide +kernel
theorem d_Mo_page_2 : decode b_Mo_page 2 = .ok (.iload_n 1, 1) := by decide +kernel
theorem d_Mo_page_3 : decode b_Mo_page 3 = .ok (.iload_n 2, 1) := by decide +kernel
theorem d_Mo_page_4 : decode b_Mo_page 4 = .ok (.iload_n 3, 1) := by decide +kernel
theorem d_Mo_page_5 : decode b_Mo_page 5 = .ok (.lload 4, 2) := by decide +kernel
theorem d_Mo_page_7 : decode b_Mo_page 7 = .ok (.invokevirtual 95, 3) := by decide +kernel
theorem d_Mo_page_10 : decode b_Mo_page 10 = .ok (.ireturn, 1) := by decide +kernel
theorem d_Mo_sale_0 : decode b_Mo_sale 0 = .ok (.aload_n 0, 1) := by decide +kernel
theorem d_Mo_sale_1 : decode b_Mo_sale 1 = .ok (.iconst 1, 1) := by decide +kernel
theorem d_Mo_sale_2 : decode b_Mo_sale 2 = .ok (.iload_n 1, 1) := by decide +kernel
theorem d_Mo_sale_3 : decode b_Mo_sale 3 = .ok (.iload_n 2, 1) := by decide +kernel
theorem d_Mo_sale_4 : decode b_Mo_sale 4 = .ok (.iload_n 3, 1) := by decide +kernel
theorem d_Mo_sale_5 : decode b_Mo_sale 5 = .ok (.lload 4, 2) := by decide +kernel
theorem d_Mo_sale_7 : decode b_Mo_sale 7 = .ok (.invokevirtual 95, 3) := by decide +kernel
theorem d_Mo_sale_10 : decode b_Mo_sale 10 = .ok (.ireturn, 1) := by decide +kernel
theorem d_Mo_pointsOf_0 : decode b_Mo_pointsOf 0 = .ok (.bipush 30, 2) := by decide +kernel
theorem d_Mo_pointsOf_2 : decode b_Mo_pointsOf 2 = .ok (.iload_n 2, 1) := by decide +kernel
theorem d_Mo_pointsOf_3 : decode b_Mo_pointsOf 3 = .ok (.iadd, 1) := by decide +kernel
theorem d_Mo_pointsOf_4 : decode b_Mo_pointsOf 4 = .ok (.istore_n 3, 1) := by decide +kernel
theorem d_Mo_pointsOf_5 : decode b_Mo_pointsOf 5 = .ok (.aload_n 0, 1) := by decide +kernel
theorem d_Mo_pointsOf_6 : decode b_Mo_pointsOf 6 = .ok (.getfield 16, 3) := by decide +kernel
theorem d_Mo_pointsOf_9 : decode b_Mo_pointsOf 9 = .ok (.iload_n 3, 1) := by decide +kernel
theorem d_Mo_pointsOf_10 : decode b_Mo_pointsOf 10 = .ok (.iaload, 1) := by decide +kernel
theorem d_Mo_pointsOf_11 : decode b_Mo_pointsOf 11 = .ok (.aload_n 0, 1) := by decide +kernel
theorem d_Mo_pointsOf_12 : decode b_Mo_pointsOf 12 = .ok (.getfield 16, 3) := by decide +kernel
theorem d_Mo_pointsOf_15 : decode b_Mo_pointsOf 15 = .ok (.iload_n 1, 1) := by decide +kernel
theorem d_Mo_pointsOf_16 : decode b_Mo_pointsOf 16 = .ok (.iaload, 1) := by decide +kernel
theorem d_Mo_pointsOf_17 : decode b_Mo_pointsOf 17 = .ok (.isub, 1) := by decide +kernel
theorem d_Mo_pointsOf_18 : decode b_Mo_pointsOf 18 = .ok (.istore 4, 2) := by decide +kernel
theorem d_Mo_pointsOf_20 : decode b_Mo_pointsOf 20 = .ok (.aload_n 0, 1) := by decide +kernel
theorem d_Mo_pointsOf_21 : decode b_Mo_pointsOf 21 = .ok (.getfield 13, 3) := by decide +kernel
theorem d_Mo_pointsOf_24 : decode b_Mo_pointsOf 24 = .ok (.iload_n 3, 1) := by decide +kernel
theorem d_Mo_pointsOf_25 : decode b_Mo_pointsOf 25 = .ok (.iaload, 1) := by decide +kernel
theorem d_Mo_pointsOf_26 : decode b_Mo_pointsOf 26 = .ok (.aload_n 0, 1) := by decide +kernel
theorem d_Mo_pointsOf_27 : decode b_Mo_pointsOf 27 = .ok (.getfield 13, 3) := by decide +kernel
theorem d_Mo_pointsOf_30 : decode b_Mo_pointsOf 30 = .ok (.iload_n 1, 1) := by decide +kernel
theorem d_Mo_pointsOf_31 : decode b_Mo_pointsOf 31 = .ok (.iaload, 1) := by decide +kernel
theorem d_Mo_pointsOf_32 : decode b_Mo_pointsOf 32 = .ok (.if_icmp .ne 29, 3) := by decide +kernel
theorem d_Mo_pointsOf_35 : decode b_Mo_pointsOf 35 = .ok (.aload_n 0, 1) := by decide +kernel
theorem d_Mo_pointsOf_36 : decode b_Mo_pointsOf 36 = .ok (.getfield 19, 3) := by decide +kernel
theorem d_Mo_pointsOf_39 : decode b_Mo_pointsOf 39 = .ok (.iload_n 3, 1) := by decide +kernel
theorem d_Mo_pointsOf_40 : decode b_Mo_pointsOf 40 = .ok (.iaload, 1) := by decide +kernel
theorem d_Mo_pointsOf_41 : decode b_Mo_pointsOf 41 = .ok (.aload_n 0, 1) := by decide +kernel
theorem d_Mo_pointsOf_42 : decode b_Mo_pointsOf 42 = .ok (.getfield 19, 3) := by decide +kernel
theorem d_Mo_pointsOf_45 : decode b_Mo_pointsOf 45 = .ok (.iload_n 1, 1) := by decide +kernel
theorem d_Mo_pointsOf_46 : decode b_Mo_pointsOf 46 = .ok (.iaload, 1) := by decide +kernel
theorem d_Mo_pointsOf_47 : decode b_Mo_pointsOf 47 = .ok (.if_icmp .ne 14, 3) := by decide +kernel
theorem d_Mo_pointsOf_50 : decode b_Mo_pointsOf 50 = .ok (.iload 4, 2) := by decide +kernel
theorem d_Mo_pointsOf_52 : decode b_Mo_pointsOf 52 = .ok (.ifCond .lt 9, 3) := by decide +kernel
theorem d_Mo_pointsOf_55 : decode b_Mo_pointsOf 55 = .ok (.iload 4, 2) := by decide +kernel
theorem d_Mo_pointsOf_57 : decode b_Mo_pointsOf 57 = .ok (.iconst 5, 1) := by decide +kernel
theorem d_Mo_pointsOf_58 : decode b_Mo_pointsOf 58 = .ok (.if_icmp .le 5, 3) := by decide +kernel
theorem d_Mo_pointsOf_61 : decode b_Mo_pointsOf 61 = .ok (.iconst 0, 1) := by decide +kernel
theorem d_Mo_pointsOf_62 : decode b_Mo_pointsOf 62 = .ok (.ireturn, 1) := by decide +kernel
theorem d_Mo_pointsOf_63 : decode b_Mo_pointsOf 63 = .ok (.aload_n 0, 1) := by decide +kernel
theorem d_Mo_pointsOf_64 : decode b_Mo_pointsOf 64 = .ok (.getfield 22, 3) := by decide +kernel
theorem d_Mo_pointsOf_67 : decode b_Mo_pointsOf 67 = .ok (.iload_n 3, 1) := by decide +kernel
theorem d_Mo_pointsOf_68 : decode b_Mo_pointsOf 68 = .ok (.laload, 1) := by decide +kernel
theorem d_Mo_pointsOf_69 : decode b_Mo_pointsOf 69 = .ok (.aload_n 0, 1) := by decide +kernel
theorem d_Mo_pointsOf_70 : decode b_Mo_pointsOf 70 = .ok (.getfield 22, 3) := by decide +kernel
theorem d_Mo_pointsOf_73 : decode b_Mo_pointsOf 73 = .ok (.iload_n 1, 1) := by decide +kernel
theorem d_Mo_pointsOf_74 : decode b_Mo_pointsOf 74 = .ok (.laload, 1) := by decide +kernel
theorem d_Mo_pointsOf_75 : decode b_Mo_pointsOf 75 = .ok (.lcmp, 1) := by decide +kernel
theorem d_Mo_pointsOf_76 : decode b_Mo_pointsOf 76 = .ok (.ifCond .le 12, 3) := by decide +kernel
theorem d_Mo_pointsOf_79 : decode b_Mo_pointsOf 79 = .ok (.aload_n 0, 1) := by decide +kernel
theorem d_Mo_pointsOf_80 : decode b_Mo_pointsOf 80 = .ok (.getfield 22, 3) := by decide +kernel
theorem d_Mo_pointsOf_83 : decode b_Mo_pointsOf 83 = .ok (.iload_n 3, 1) := by decide +kernel
theorem d_Mo_pointsOf_84 : decode b_Mo_pointsOf 84 = .ok (.laload, 1) := by decide +kernel
theorem d_Mo_pointsOf_85 : decode b_Mo_pointsOf 85 = .ok (.goto 9, 3) := by decide +kernel
theorem d_Mo_pointsOf_88 : decode b_Mo_pointsOf 88 = .ok (.aload_n 0, 1) := by decide +kernel
theorem d_Mo_pointsOf_89 : decode b_Mo_pointsOf 89 = .ok (.getfield 22, 3) := by decide +kernel
theorem d_Mo_pointsOf_92 : decode b_Mo_pointsOf 92 = .ok (.iload_n 1, 1) := by decide +kernel
theorem d_Mo_pointsOf_93 : decode b_Mo_pointsOf 93 = .ok (.laload, 1) := by decide +kernel
theorem d_Mo_pointsOf_94 : decode b_Mo_pointsOf 94 = .ok (.lstore 5, 2) := by decide +kernel
theorem d_Mo_pointsOf_96 : decode b_Mo_pointsOf 96 = .ok (.aload_n 0, 1) := by decide +kernel
theorem d_Mo_pointsOf_97 : decode b_Mo_pointsOf 97 = .ok (.getfield 22, 3) := by decide +kernel
theorem d_Mo_pointsOf_100 : decode b_Mo_pointsOf 100 = .ok (.iload_n 3, 1) := by decide +kernel
theorem d_Mo_pointsOf_101 : decode b_Mo_pointsOf 101 = .ok (.laload, 1) := by decide +kernel
theorem d_Mo_pointsOf_102 : decode b_Mo_pointsOf 102 = .ok (.aload_n 0, 1) := by decide +kernel
theorem d_Mo_pointsOf_103 : decode b_Mo_pointsOf 103 = .ok (.getfield 22, 3) := by decide +kernel
theorem d_Mo_pointsOf_106 : decode b_Mo_pointsOf 106 = .ok (.iload_n 1, 1) := by decide +kernel
theorem d_Mo_pointsOf_107 : decode b_Mo_pointsOf 107 = .ok (.laload, 1) := by decide +kernel
theorem d_Mo_pointsOf_108 : decode b_Mo_pointsOf 108 = .ok (.lcmp, 1) := by decide +kernel
theorem d_Mo_pointsOf_109 : decode b_Mo_pointsOf 109 = .ok (.ifCond .le 12, 3) := by decide +kernel
theorem d_Mo_pointsOf_112 : decode b_Mo_pointsOf 112 = .ok (.aload_n 0, 1) := by decide +kernel
theorem d_Mo_pointsOf_113 : decode b_Mo_pointsOf 113 = .ok (.getfield 22, 3) := by decide +kernel
theorem d_Mo_pointsOf_116 : decode b_Mo_pointsOf 116 = .ok (.iload_n 1, 1) := by decide +kernel
theorem d_Mo_pointsOf_117 : decode b_Mo_pointsOf 117 = .ok (.laload, 1) := by decide +kernel
theorem d_Mo_pointsOf_118 : decode b_Mo_pointsOf 118 = .ok (.goto 9, 3) := by decide +kernel
theorem d_Mo_pointsOf_121 : decode b_Mo_pointsOf 121 = .ok (.aload_n 0, 1) := by decide +kernel
theorem d_Mo_pointsOf_122 : decode b_Mo_pointsOf 122 = .ok (.getfield 22, 3) := by decide +kernel
theorem d_Mo_pointsOf_125 : decode b_Mo_pointsOf 125 = .ok (.iload_n 3, 1) := by decide +kernel
theorem d_Mo_pointsOf_126 : decode b_Mo_pointsOf 126 = .ok (.laload, 1) := by decide +kernel
theorem d_Mo_pointsOf_127 : decode b_Mo_pointsOf 127 = .ok (.lstore 7, 2) := by decide +kernel
theorem d_Mo_pointsOf_129 : decode b_Mo_pointsOf 129 = .ok (.sipush 1000, 3) := by decide +kernel
theorem d_Mo_pointsOf_132 : decode b_Mo_pointsOf 132 = .ok (.bipush 100, 2) := by decide +kernel
theorem d_Mo_pointsOf_134 : decode b_Mo_pointsOf 134 = .ok (.iload 4, 2) := by decide +kernel
theorem d_Mo_pointsOf_136 : decode b_Mo_pointsOf 136 = .ok (.imul, 1) := by decide +kernel
theorem d_Mo_pointsOf_137 : decode b_Mo_pointsOf 137 = .ok (.isub, 1) := by decide +kernel
theorem d_Mo_pointsOf_138 : decode b_Mo_pointsOf 138 = .ok (.ldc2_w 99, 3) := by decide +kernel
theorem d_Mo_pointsOf_141 : decode b_Mo_pointsOf 141 = .ok (.lload 5, 2) := by decide +kernel
theorem d_Mo_pointsOf_143 : decode b_Mo_pointsOf 143 = .ok (.lload 7, 2) := by decide +kernel
theorem d_Mo_pointsOf_145 : decode b_Mo_pointsOf 145 = .ok (.lsub, 1) := by decide +kernel
theorem d_Mo_pointsOf_146 : decode b_Mo_pointsOf 146 = .ok (.lmul, 1) := by decide +kernel
theorem d_Mo_pointsOf_147 : decode b_Mo_pointsOf 147 = .ok (.lload 5, 2) := by decide +kernel
theorem d_Mo_pointsOf_149 : decode b_Mo_pointsOf 149 = .ok (.ldiv, 1) := by decide +kernel
theorem d_Mo_pointsOf_150 : decode b_Mo_pointsOf 150 = .ok (.l2i, 1) := by decide +kernel
theorem d_Mo_pointsOf_151 : decode b_Mo_pointsOf 151 = .ok (.isub, 1) := by decide +kernel
theorem d_Mo_pointsOf_152 : decode b_Mo_pointsOf 152 = .ok (.istore 9, 2) := by decide +kernel
theorem d_Mo_pointsOf_154 : decode b_Mo_pointsOf 154 = .ok (.iload 9, 2) := by decide +kernel
theorem d_Mo_pointsOf_156 : decode b_Mo_pointsOf 156 = .ok (.ifCond .le 8, 3) := by decide +kernel
theorem d_Mo_pointsOf_159 : decode b_Mo_pointsOf 159 = .ok (.iload 9, 2) := by decide +kernel
theorem d_Mo_pointsOf_161 : decode b_Mo_pointsOf 161 = .ok (.goto 4, 3) := by decide +kernel
theorem d_Mo_pointsOf_164 : decode b_Mo_pointsOf 164 = .ok (.iconst 0, 1) := by decide +kernel
theorem d_Mo_pointsOf_165 : decode b_Mo_pointsOf 165 = .ok (.ireturn, 1) := by decide +kernel
theorem d_Mo_run_0 : decode b_Mo_run 0 = .ok (.aload_n 0, 1) := by decide +kernel
theorem d_Mo_run_1 : decode b_Mo_run 1 = .ok (.iconst 0, 1) := by decide +kernel
theorem d_Mo_run_2 : decode b_Mo_run 2 = .ok (.putfield 79, 3) := by decide +kernel
theorem d_Mo_run_5 : decode b_Mo_run 5 = .ok (.iconst 0, 1) := by decide +kernel
theorem d_Mo_run_6 : decode b_Mo_run 6 = .ok (.istore_n 1, 1) := by decide +kernel
theorem d_Mo_run_7 : decode b_Mo_run 7 = .ok (.iload_n 1, 1) := by decide +kernel
theorem d_Mo_run_8 : decode b_Mo_run 8 = .ok (.bipush 30, 2) := by decide +kernel
theorem d_Mo_run_10 : decode b_Mo_run 10 = .ok (.if_icmp .ge 23, 3) := by decide +kernel
theorem d_Mo_run_13 : decode b_Mo_run 13 = .ok (.aload_n 0, 1) := by decide +kernel
theorem d_Mo_run_14 : decode b_Mo_run 14 = .ok (.getfield 26, 3) := by decide +kernel
theorem d_Mo_run_17 : decode b_Mo_run 17 = .ok (.iload_n 1, 1) := by decide +kernel
theorem d_Mo_run_18 : decode b_Mo_run 18 = .ok (.iconst (-1), 1) := by decide +kernel
theorem d_Mo_run_19 : decode b_Mo_run 19 = .ok (.iastore, 1) := by decide +kernel
theorem d_Mo_run_20 : decode b_Mo_run 20 = .ok (.aload_n 0, 1) := by decide +kernel
theorem d_Mo_run_21 : decode b_Mo_run 21 = .ok (.getfield 29, 3) := by decide +kernel
theorem d_Mo_run_24 : decode b_Mo_run 24 = .ok (.iload_n 1, 1) := by decide +kernel
theorem d_Mo_run_25 : decode b_Mo_run 25 = .ok (.iconst 0, 1) := by decide +kernel
theorem d_Mo_run_26 : decode b_Mo_run 26 = .ok (.bastore, 1) := by decide +kernel
theorem d_Mo_run_27 : decode b_Mo_run 27 = .ok (.iinc 1 1, 3) := by decide +kernel
theorem d_Mo_run_30 : decode b_Mo_run 30 = .ok (.goto (-23), 3) := by decide +kernel
theorem d_Mo_run_33 : decode b_Mo_run 33 = .ok (.iconst 0, 1) := by decide +kernel
theorem d_Mo_run_34 : decode b_Mo_run 34 = .ok (.istore_n 1, 1) := by decide +kernel
theorem d_Mo_run_35 : decode b_Mo_run 35 = .ok (.iconst 1, 1) := by decide +kernel
theorem d_Mo_run_36 : decode b_Mo_run 36 = .ok (.istore_n 2, 1) := by decide +kernel
theorem d_Mo_run_37 : decode b_Mo_run 37 = .ok (.iload_n 2, 1) := by decide +kernel
theorem d_Mo_run_38 : decode b_Mo_run 38 = .ok (.ifCond .eq 139, 3) := by decide +kernel
theorem d_Mo_run_41 : decode b_Mo_run 41 = .ok (.iconst 0, 1) := by decide +kernel
theorem d_Mo_run_42 : decode b_Mo_run 42 = .ok (.istore_n 3, 1) := by decide +kernel
theorem d_Mo_run_43 : decode b_Mo_run 43 = .ok (.iconst 0, 1) := by decide +kernel
theorem d_Mo_run_44 : decode b_Mo_run 44 = .ok (.istore 4, 2) := by decide +kernel
theorem d_Mo_run_46 : decode b_Mo_run 46 = .ok (.iconst 0, 1) := by decide +kernel
theorem d_Mo_run_47 : decode b_Mo_run 47 = .ok (.istore 5, 2) := by decide +kernel
theorem d_Mo_run_49 : decode b_Mo_run 49 = .ok (.iconst 0, 1) := by decide +kernel
theorem d_Mo_run_50 : decode b_Mo_run 50 = .ok (.istore 6, 2) := by decide +kernel
theorem d_Mo_run_52 : decode b_Mo_run 52 = .ok (.iload 6, 2) := by decide +kernel
theorem d_Mo_run_54 : decode b_Mo_run 54 = .ok (.aload_n 0, 1) := by decide +kernel
theorem d_Mo_run_55 : decode b_Mo_run 55 = .ok (.getfield 7, 3) := by decide +kernel
theorem d_Mo_run_58 : decode b_Mo_run 58 = .ok (.iconst 0, 1) := by decide +kernel
theorem d_Mo_run_59 : decode b_Mo_run 59 = .ok (.iaload, 1) := by decide +kernel
theorem d_Mo_run_60 : decode b_Mo_run 60 = .ok (.if_icmp .ge 80, 3) := by decide +kernel
theorem d_Mo_run_63 : decode b_Mo_run 63 = .ok (.iconst 0, 1) := by decide +kernel
theorem d_Mo_run_64 : decode b_Mo_run 64 = .ok (.istore 7, 2) := by decide +kernel
theorem d_Mo_run_66 : decode b_Mo_run 66 = .ok (.iload 7, 2) := by decide +kernel
theorem d_Mo_run_68 : decode b_Mo_run 68 = .ok (.aload_n 0, 1) := by decide +kernel
theorem d_Mo_run_69 : decode b_Mo_run 69 = .ok (.getfield 7, 3) := by decide +kernel
theorem d_Mo_run_72 : decode b_Mo_run 72 = .ok (.iconst 1, 1) := by decide +kernel
theorem d_Mo_run_73 : decode b_Mo_run 73 = .ok (.iaload, 1) := by decide +kernel
theorem d_Mo_run_74 : decode b_Mo_run 74 = .ok (.if_icmp .ge 60, 3) := by decide +kernel
theorem d_Mo_run_77 : decode b_Mo_run 77 = .ok (.aload_n 0, 1) := by decide +kernel
theorem d_Mo_run_78 : decode b_Mo_run 78 = .ok (.getfield 26, 3) := by decide +kernel
theorem d_Mo_run_81 : decode b_Mo_run 81 = .ok (.iload 6, 2) := by decide +kernel
theorem d_Mo_run_83 : decode b_Mo_run 83 = .ok (.iaload, 1) := by decide +kernel
theorem d_Mo_run_84 : decode b_Mo_run 84 = .ok (.ifCond .ge 24, 3) := by decide +kernel
theorem d_Mo_run_87 : decode b_Mo_run 87 = .ok (.aload_n 0, 1) := by decide +kernel
theorem d_Mo_run_88 : decode b_Mo_run 88 = .ok (.getfield 29, 3) := by decide +kernel
theorem d_Mo_run_91 : decode b_Mo_run 91 = .ok (.iload 7, 2) := by decide +kernel
theorem d_Mo_run_93 : decode b_Mo_run 93 = .ok (.baload, 1) := by decide +kernel
theorem d_Mo_run_94 : decode b_Mo_run 94 = .ok (.ifCond .ne 14, 3) := by decide +kernel
theorem d_Mo_run_97 : decode b_Mo_run 97 = .ok (.aload_n 0, 1) := by decide +kernel
theorem d_Mo_run_98 : decode b_Mo_run 98 = .ok (.iload 6, 2) := by decide +kernel
theorem d_Mo_run_100 : decode b_Mo_run 100 = .ok (.iload 7, 2) := by decide +kernel
theorem d_Mo_run_102 : decode b_Mo_run 102 = .ok (.invokevirtual 101, 3) := by decide +kernel
theorem d_Mo_run_105 : decode b_Mo_run 105 = .ok (.goto 4, 3) := by decide +kernel
theorem d_Mo_run_108 : decode b_Mo_run 108 = .ok (.iconst 0, 1) := by decide +kernel
theorem d_Mo_run_109 : decode b_Mo_run 109 = .ok (.istore 8, 2) := by decide +kernel
theorem d_Mo_run_111 : decode b_Mo_run 111 = .ok (.iload 8, 2) := by decide +kernel
theorem d_Mo_run_113 : decode b_Mo_run 113 = .ok (.iload_n 3, 1) := by decide +kernel
theorem d_Mo_run_114 : decode b_Mo_run 114 = .ok (.if_icmp .le 14, 3) := by decide +kernel
theorem d_Mo_run_117 : decode b_Mo_run 117 = .ok (.iload 8, 2) := by decide +kernel
theorem d_Mo_run_119 : decode b_Mo_run 119 = .ok (.istore_n 3, 1) := by decide +kernel
theorem d_Mo_run_120 : decode b_Mo_run 120 = .ok (.iload 6, 2) := by decide +kernel
theorem d_Mo_run_122 : decode b_Mo_run 122 = .ok (.istore 4, 2) := by decide +kernel
theorem d_Mo_run_124 : decode b_Mo_run 124 = .ok (.iload 7, 2) := by decide +kernel
theorem d_Mo_run_126 : decode b_Mo_run 126 = .ok (.istore 5, 2) := by decide +kernel
theorem d_Mo_run_128 : decode b_Mo_run 128 = .ok (.iinc 7 1, 3) := by decide +kernel
theorem d_Mo_run_131 : decode b_Mo_run 131 = .ok (.goto (-65), 3) := by decide +kernel
theorem d_Mo_run_134 : decode b_Mo_run 134 = .ok (.iinc 6 1, 3) := by decide +kernel
theorem d_Mo_run_137 : decode b_Mo_run 137 = .ok (.goto (-85), 3) := by decide +kernel
theorem d_Mo_run_140 : decode b_Mo_run 140 = .ok (.iload_n 3, 1) := by decide +kernel
theorem d_Mo_run_141 : decode b_Mo_run 141 = .ok (.ifCond .le 7, 3) := by decide +kernel
theorem d_Mo_run_144 : decode b_Mo_run 144 = .ok (.iconst 1, 1) := by decide +kernel
theorem d_Mo_run_145 : decode b_Mo_run 145 = .ok (.goto 4, 3) := by decide +kernel
theorem d_Mo_run_148 : decode b_Mo_run 148 = .ok (.iconst 0, 1) := by decide +kernel
theorem d_Mo_run_149 : decode b_Mo_run 149 = .ok (.istore_n 2, 1) := by decide +kernel
theorem d_Mo_run_150 : decode b_Mo_run 150 = .ok (.iload_n 2, 1) := by decide +kernel
theorem d_Mo_run_151 : decode b_Mo_run 151 = .ok (.ifCond .eq 23, 3) := by decide +kernel
theorem d_Mo_run_154 : decode b_Mo_run 154 = .ok (.aload_n 0, 1) := by decide +kernel
theorem d_Mo_run_155 : decode b_Mo_run 155 = .ok (.getfield 26, 3) := by decide +kernel
theorem d_Mo_run_158 : decode b_Mo_run 158 = .ok (.iload 4, 2) := by decide +kernel
theorem d_Mo_run_160 : decode b_Mo_run 160 = .ok (.iload 5, 2) := by decide +kernel
theorem d_Mo_run_162 : decode b_Mo_run 162 = .ok (.iastore, 1) := by decide +kernel
theorem d_Mo_run_163 : decode b_Mo_run 163 = .ok (.aload_n 0, 1) := by decide +kernel
theorem d_Mo_run_164 : decode b_Mo_run 164 = .ok (.getfield 29, 3) := by decide +kernel
theorem d_Mo_run_167 : decode b_Mo_run 167 = .ok (.iload 5, 2) := by decide +kernel
theorem d_Mo_run_169 : decode b_Mo_run 169 = .ok (.iconst 1, 1) := by decide +kernel
theorem d_Mo_run_170 : decode b_Mo_run 170 = .ok (.bastore, 1) := by decide +kernel
theorem d_Mo_run_171 : decode b_Mo_run 171 = .ok (.iinc 1 1, 3) := by decide +kernel
theorem d_Mo_run_174 : decode b_Mo_run 174 = .ok (.goto (-137), 3) := by decide +kernel
theorem d_Mo_run_177 : decode b_Mo_run 177 = .ok (.iload_n 1, 1) := by decide +kernel
theorem d_Mo_run_178 : decode b_Mo_run 178 = .ok (.ireturn, 1) := by decide +kernel
theorem d_Mo_isPage_0 : decode b_Mo_isPage 0 = .ok (.iload_n 1, 1) := by decide +kernel
theorem d_Mo_isPage_1 : decode b_Mo_isPage 1 = .ok (.ifCond .lt 17, 3) := by decide +kernel
theorem d_Mo_isPage_4 : decode b_Mo_isPage 4 = .ok (.iload_n 1, 1) := by decide +kernel
theorem d_Mo_isPage_5 : decode b_Mo_isPage 5 = .ok (.aload_n 0, 1) := by decide +kernel
theorem d_Mo_isPage_6 : decode b_Mo_isPage 6 = .ok (.getfield 7, 3) := by decide +kernel
theorem d_Mo_isPage_9 : decode b_Mo_isPage 9 = .ok (.iconst 0, 1) := by decide +kernel
theorem d_Mo_isPage_10 : decode b_Mo_isPage 10 = .ok (.iaload, 1) := by decide +kernel
theorem d_Mo_isPage_11 : decode b_Mo_isPage 11 = .ok (.if_icmp .ge 7, 3) := by decide +kernel
theorem d_Mo_isPage_14 : decode b_Mo_isPage 14 = .ok (.iconst 1, 1) := by decide +kernel
theorem d_Mo_isPage_15 : decode b_Mo_isPage 15 = .ok (.goto 4, 3) := by decide +kernel
theorem d_Mo_isPage_18 : decode b_Mo_isPage 18 = .ok (.iconst 0, 1) := by decide +kernel
theorem d_Mo_isPage_19 : decode b_Mo_isPage 19 = .ok (.ireturn, 1) := by decide +kernel
theorem d_Mo_pair_0 : decode b_Mo_pair 0 = .ok (.aload_n 0, 1) := by decide +kernel
theorem d_Mo_pair_1 : decode b_Mo_pair 1 = .ok (.iconst 0, 1) := by decide +kernel
theorem d_Mo_pair_2 : decode b_Mo_pair 2 = .ok (.putfield 79, 3) := by decide +kernel
theorem d_Mo_pair_5 : decode b_Mo_pair 5 = .ok (.aload_n 0, 1) := by decide +kernel
theorem d_Mo_pair_6 : decode b_Mo_pair 6 = .ok (.iload_n 1, 1) := by decide +kernel
theorem d_Mo_pair_7 : decode b_Mo_pair 7 = .ok (.invokevirtual 105, 3) := by decide +kernel
theorem d_Mo_pair_10 : decode b_Mo_pair 10 = .ok (.ifCond .eq 12, 3) := by decide +kernel
theorem d_Mo_pair_13 : decode b_Mo_pair 13 = .ok (.aload_n 0, 1) := by decide +kernel
theorem d_Mo_pair_14 : decode b_Mo_pair 14 = .ok (.getfield 26, 3) := by decide +kernel
theorem d_Mo_pair_17 : decode b_Mo_pair 17 = .ok (.iload_n 1, 1) := by decide +kernel
theorem d_Mo_pair_18 : decode b_Mo_pair 18 = .ok (.iaload, 1) := by decide +kernel
theorem d_Mo_pair_19 : decode b_Mo_pair 19 = .ok (.goto 4, 3) := by decide +kernel
theorem d_Mo_pair_22 : decode b_Mo_pair 22 = .ok (.iconst (-1), 1) := by decide +kernel
theorem d_Mo_pair_23 : decode b_Mo_pair 23 = .ok (.ireturn, 1) := by decide +kernel
theorem d_Mo_points_0 : decode b_Mo_points 0 = .ok (.aload_n 0, 1) := by decide +kernel
theorem d_Mo_points_1 : decode b_Mo_points 1 = .ok (.iconst 0, 1) := by decide +kernel
theorem d_Mo_points_2 : decode b_Mo_points 2 = .ok (.putfield 79, 3) := by decide +kernel
theorem d_Mo_points_5 : decode b_Mo_points 5 = .ok (.aload_n 0, 1) := by decide +kernel
theorem d_Mo_points_6 : decode b_Mo_points 6 = .ok (.iload_n 1, 1) := by decide +kernel
theorem d_Mo_points_7 : decode b_Mo_points 7 = .ok (.invokevirtual 105, 3) := by decide +kernel
theorem d_Mo_points_10 : decode b_Mo_points 10 = .ok (.ifCond .eq 26, 3) := by decide +kernel
theorem d_Mo_points_13 : decode b_Mo_points 13 = .ok (.aload_n 0, 1) := by decide +kernel
theorem d_Mo_points_14 : decode b_Mo_points 14 = .ok (.getfield 26, 3) := by decide +kernel
theorem d_Mo_points_17 : decode b_Mo_points 17 = .ok (.iload_n 1, 1) := by decide +kernel
theorem d_Mo_points_18 : decode b_Mo_points 18 = .ok (.iaload, 1) := by decide +kernel
theorem d_Mo_points_19 : decode b_Mo_points 19 = .ok (.ifCond .lt 17, 3) := by decide +kernel
theorem d_Mo_points_22 : decode b_Mo_points 22 = .ok (.aload_n 0, 1) := by decide +kernel
theorem d_Mo_points_23 : decode b_Mo_points 23 = .ok (.iload_n 1, 1) := by decide +kernel
theorem d_Mo_points_24 : decode b_Mo_points 24 = .ok (.aload_n 0, 1) := by decide +kernel
theorem d_Mo_points_25 : decode b_Mo_points 25 = .ok (.getfield 26, 3) := by decide +kernel
theorem d_Mo_points_28 : decode b_Mo_points 28 = .ok (.iload_n 1, 1) := by decide +kernel
theorem d_Mo_points_29 : decode b_Mo_points 29 = .ok (.iaload, 1) := by decide +kernel
theorem d_Mo_points_30 : decode b_Mo_points 30 = .ok (.invokevirtual 101, 3) := by decide +kernel
theorem d_Mo_points_33 : decode b_Mo_points 33 = .ok (.goto 4, 3) := by decide +kernel
theorem d_Mo_points_36 : decode b_Mo_points 36 = .ok (.iconst 0, 1) := by decide +kernel
theorem d_Mo_points_37 : decode b_Mo_points 37 = .ok (.ireturn, 1) := by decide +kernel
theorem d_Mo_differs_0 : decode b_Mo_differs 0 = .ok (.aload_n 0, 1) := by decide +kernel
theorem d_Mo_differs_1 : decode b_Mo_differs 1 = .ok (.iconst 0, 1) := by decide +kernel
theorem d_Mo_differs_2 : decode b_Mo_differs 2 = .ok (.putfield 79, 3) := by decide +kernel
theorem d_Mo_differs_5 : decode b_Mo_differs 5 = .ok (.aload_n 0, 1) := by decide +kernel
theorem d_Mo_differs_6 : decode b_Mo_differs 6 = .ok (.iload_n 1, 1) := by decide +kernel
theorem d_Mo_differs_7 : decode b_Mo_differs 7 = .ok (.invokevirtual 105, 3) := by decide +kernel
theorem d_Mo_differs_10 : decode b_Mo_differs 10 = .ok (.ifCond .eq 36, 3) := by decide +kernel
theorem d_Mo_differs_13 : decode b_Mo_differs 13 = .ok (.aload_n 0, 1) := by decide +kernel
theorem d_Mo_differs_14 : decode b_Mo_differs 14 = .ok (.getfield 26, 3) := by decide +kernel
theorem d_Mo_differs_17 : decode b_Mo_differs 17 = .ok (.iload_n 1, 1) := by decide +kernel
theorem d_Mo_differs_18 : decode b_Mo_differs 18 = .ok (.iaload, 1) := by decide +kernel
theorem d_Mo_differs_19 : decode b_Mo_differs 19 = .ok (.ifCond .lt 27, 3) := by decide +kernel
theorem d_Mo_differs_22 : decode b_Mo_differs 22 = .ok (.aload_n 0, 1) := by decide +kernel
theorem d_Mo_differs_23 : decode b_Mo_differs 23 = .ok (.getfield 22, 3) := by decide +kernel
theorem d_Mo_differs_26 : decode b_Mo_differs 26 = .ok (.bipush 30, 2) := by decide +kernel
theorem d_Mo_differs_28 : decode b_Mo_differs 28 = .ok (.aload_n 0, 1) := by decide +kernel
theorem d_Mo_differs_29 : decode b_Mo_differs 29 = .ok (.getfield 26, 3) := by decide +kernel
theorem d_Mo_differs_32 : decode b_Mo_differs 32 = .ok (.iload_n 1, 1) := by decide +kernel
theorem d_Mo_differs_33 : decode b_Mo_differs 33 = .ok (.iaload, 1) := by decide +kernel
theorem d_Mo_differs_34 : decode b_Mo_differs 34 = .ok (.iadd, 1) := by decide +kernel
theorem d_Mo_differs_35 : decode b_Mo_differs 35 = .ok (.laload, 1) := by decide +kernel
theorem d_Mo_differs_36 : decode b_Mo_differs 36 = .ok (.aload_n 0, 1) := by decide +kernel
theorem d_Mo_differs_37 : decode b_Mo_differs 37 = .ok (.getfield 22, 3) := by decide +kernel
theorem d_Mo_differs_40 : decode b_Mo_differs 40 = .ok (.iload_n 1, 1) := by decide +kernel
theorem d_Mo_differs_41 : decode b_Mo_differs 41 = .ok (.laload, 1) := by decide +kernel
theorem d_Mo_differs_42 : decode b_Mo_differs 42 = .ok (.lsub, 1) := by decide +kernel
theorem d_Mo_differs_43 : decode b_Mo_differs 43 = .ok (.goto 4, 3) := by decide +kernel
theorem d_Mo_differs_46 : decode b_Mo_differs 46 = .ok (.lconst 0, 1) := by decide +kernel
theorem d_Mo_differs_47 : decode b_Mo_differs 47 = .ok (.lreturn, 1) := by decide +kernel
theorem d_Mo_waits_0 : decode b_Mo_waits 0 = .ok (.aload_n 0, 1) := by decide +kernel
theorem d_Mo_waits_1 : decode b_Mo_waits 1 = .ok (.iconst 0, 1) := by decide +kernel
theorem d_Mo_waits_2 : decode b_Mo_waits 2 = .ok (.putfield 79, 3) := by decide +kernel
theorem d_Mo_waits_5 : decode b_Mo_waits 5 = .ok (.iload_n 2, 1) := by decide +kernel
theorem d_Mo_waits_6 : decode b_Mo_waits 6 = .ok (.istore_n 3, 1) := by decide +kernel
theorem d_Mo_waits_7 : decode b_Mo_waits 7 = .ok (.iconst 0, 1) := by decide +kernel
theorem d_Mo_waits_8 : decode b_Mo_waits 8 = .ok (.istore 4, 2) := by decide +kernel
theorem d_Mo_waits_10 : decode b_Mo_waits 10 = .ok (.iload 4, 2) := by decide +kernel
theorem d_Mo_waits_12 : decode b_Mo_waits 12 = .ok (.aload_n 0, 1) := by decide +kernel
theorem d_Mo_waits_13 : decode b_Mo_waits 13 = .ok (.getfield 7, 3) := by decide +kernel
theorem d_Mo_waits_16 : decode b_Mo_waits 16 = .ok (.iconst 0, 1) := by decide +kernel
theorem d_Mo_waits_17 : decode b_Mo_waits 17 = .ok (.iaload, 1) := by decide +kernel
theorem d_Mo_waits_18 : decode b_Mo_waits 18 = .ok (.if_icmp .ge 54, 3) := by decide +kernel
theorem d_Mo_waits_21 : decode b_Mo_waits 21 = .ok (.iload_n 3, 1) := by decide +kernel
theorem d_Mo_waits_22 : decode b_Mo_waits 22 = .ok (.ifCond .lt 50, 3) := by decide +kernel
theorem d_Mo_waits_25 : decode b_Mo_waits 25 = .ok (.aload_n 0, 1) := by decide +kernel
theorem d_Mo_waits_26 : decode b_Mo_waits 26 = .ok (.getfield 26, 3) := by decide +kernel
theorem d_Mo_waits_29 : decode b_Mo_waits 29 = .ok (.iload 4, 2) := by decide +kernel
theorem d_Mo_waits_31 : decode b_Mo_waits 31 = .ok (.iaload, 1) := by decide +kernel
theorem d_Mo_waits_32 : decode b_Mo_waits 32 = .ok (.ifCond .ge 34, 3) := by decide +kernel
theorem d_Mo_waits_35 : decode b_Mo_waits 35 = .ok (.iload_n 1, 1) := by decide +kernel
theorem d_Mo_waits_36 : decode b_Mo_waits 36 = .ok (.i2l, 1) := by decide +kernel
theorem d_Mo_waits_37 : decode b_Mo_waits 37 = .ok (.aload_n 0, 1) := by decide +kernel
theorem d_Mo_waits_38 : decode b_Mo_waits 38 = .ok (.getfield 16, 3) := by decide +kernel
theorem d_Mo_waits_41 : decode b_Mo_waits 41 = .ok (.iload 4, 2) := by decide +kernel
theorem d_Mo_waits_43 : decode b_Mo_waits 43 = .ok (.iaload, 1) := by decide +kernel
theorem d_Mo_waits_44 : decode b_Mo_waits 44 = .ok (.i2l, 1) := by decide +kernel
theorem d_Mo_waits_45 : decode b_Mo_waits 45 = .ok (.lsub, 1) := by decide +kernel
theorem d_Mo_waits_46 : decode b_Mo_waits 46 = .ok (.lconst 0, 1) := by decide +kernel
theorem d_Mo_waits_47 : decode b_Mo_waits 47 = .ok (.ldc2_w 108, 3) := by decide +kernel
theorem d_Mo_waits_50 : decode b_Mo_waits 50 = .ok (.invokestatic 89, 3) := by decide +kernel
theorem d_Mo_waits_53 : decode b_Mo_waits 53 = .ok (.ifCond .eq 13, 3) := by decide +kernel
theorem d_Mo_waits_56 : decode b_Mo_waits 56 = .ok (.iload_n 3, 1) := by decide +kernel
theorem d_Mo_waits_57 : decode b_Mo_waits 57 = .ok (.ifCond .ne 6, 3) := by decide +kernel
theorem d_Mo_waits_60 : decode b_Mo_waits 60 = .ok (.iload 4, 2) := by decide +kernel
theorem d_Mo_waits_62 : decode b_Mo_waits 62 = .ok (.ireturn, 1) := by decide +kernel
theorem d_Mo_waits_63 : decode b_Mo_waits 63 = .ok (.iinc 3 (-1), 3) := by decide +kernel
theorem d_Mo_waits_66 : decode b_Mo_waits 66 = .ok (.iinc 4 1, 3) := by decide +kernel
theorem d_Mo_waits_69 : decode b_Mo_waits 69 = .ok (.goto (-59), 3) := by decide +kernel
theorem d_Mo_waits_72 : decode b_Mo_waits 72 = .ok (.iconst (-1), 1) := by decide +kernel
theorem d_Mo_waits_73 : decode b_Mo_waits 73 = .ok (.ireturn, 1) := by decide +kernel
theorem d_Mo_pageAt_0 : decode b_Mo_pageAt 0 = .ok (.aload_n 0, 1) := by decide +kernel
theorem d_Mo_pageAt_1 : decode b_Mo_pageAt 1 = .ok (.aload_n 0, 1) := by decide +kernel
theorem d_Mo_pageAt_2 : decode b_Mo_pageAt 2 = .ok (.iload_n 1, 1) := by decide +kernel
theorem d_Mo_pageAt_3 : decode b_Mo_pageAt 3 = .ok (.invokevirtual 105, 3) := by decide +kernel
theorem d_Mo_pageAt_6 : decode b_Mo_pageAt 6 = .ok (.ifCond .eq 7, 3) := by decide +kernel
theorem d_Mo_pageAt_9 : decode b_Mo_pageAt 9 = .ok (.iconst 0, 1) := by decide +kernel
theorem d_Mo_pageAt_10 : decode b_Mo_pageAt 10 = .ok (.goto 4, 3) := by decide +kernel
theorem d_Mo_pageAt_13 : decode b_Mo_pageAt 13 = .ok (.iconst 1, 1) := by decide +kernel
theorem d_Mo_pageAt_14 : decode b_Mo_pageAt 14 = .ok (.putfield 79, 3) := by decide +kernel
theorem d_Mo_pageAt_17 : decode b_Mo_pageAt 17 = .ok (.aload_n 0, 1) := by decide +kernel
theorem d_Mo_pageAt_18 : decode b_Mo_pageAt 18 = .ok (.getfield 79, 3) := by decide +kernel
theorem d_Mo_pageAt_21 : decode b_Mo_pageAt 21 = .ok (.ifCond .ne 12, 3) := by decide +kernel
theorem d_Mo_pageAt_24 : decode b_Mo_pageAt 24 = .ok (.aload_n 0, 1) := by decide +kernel
theorem d_Mo_pageAt_25 : decode b_Mo_pageAt 25 = .ok (.getfield 22, 3) := by decide +kernel
theorem d_Mo_pageAt_28 : decode b_Mo_pageAt 28 = .ok (.iload_n 1, 1) := by decide +kernel
theorem d_Mo_pageAt_29 : decode b_Mo_pageAt 29 = .ok (.laload, 1) := by decide +kernel
theorem d_Mo_pageAt_30 : decode b_Mo_pageAt 30 = .ok (.goto 4, 3) := by decide +kernel
theorem d_Mo_pageAt_33 : decode b_Mo_pageAt 33 = .ok (.lconst 0, 1) := by decide +kernel
theorem d_Mo_pageAt_34 : decode b_Mo_pageAt 34 = .ok (.lreturn, 1) := by decide +kernel
theorem d_Mo_balance_0 : decode b_Mo_balance 0 = .ok (.aload_n 0, 1) := by decide +kernel
theorem d_Mo_balance_1 : decode b_Mo_balance 1 = .ok (.iconst 0, 1) := by decide +kernel
theorem d_Mo_balance_2 : decode b_Mo_balance 2 = .ok (.putfield 79, 3) := by decide +kernel
theorem d_Mo_balance_5 : decode b_Mo_balance 5 = .ok (.lconst 0, 1) := by decide +kernel
theorem d_Mo_balance_6 : decode b_Mo_balance 6 = .ok (.lstore_n 2, 1) := by decide +kernel
theorem d_Mo_balance_7 : decode b_Mo_balance 7 = .ok (.iconst 0, 1) := by decide +kernel
theorem d_Mo_balance_8 : decode b_Mo_balance 8 = .ok (.istore 4, 2) := by decide +kernel
theorem d_Mo_balance_10 : decode b_Mo_balance 10 = .ok (.iload 4, 2) := by decide +kernel
theorem d_Mo_balance_12 : decode b_Mo_balance 12 = .ok (.aload_n 0, 1) := by decide +kernel
theorem d_Mo_balance_13 : decode b_Mo_balance 13 = .ok (.getfield 7, 3) := by decide +kernel
theorem d_Mo_balance_16 : decode b_Mo_balance 16 = .ok (.iconst 1, 1) := by decide +kernel
theorem d_Mo_balance_17 : decode b_Mo_balance 17 = .ok (.iaload, 1) := by decide +kernel
theorem d_Mo_balance_18 : decode b_Mo_balance 18 = .ok (.if_icmp .ge 40, 3) := by decide +kernel
theorem d_Mo_balance_21 : decode b_Mo_balance 21 = .ok (.lload_n 2, 1) := by decide +kernel
theorem d_Mo_balance_22 : decode b_Mo_balance 22 = .ok (.aload_n 0, 1) := by decide +kernel
theorem d_Mo_balance_23 : decode b_Mo_balance 23 = .ok (.getfield 19, 3) := by decide +kernel
theorem d_Mo_balance_26 : decode b_Mo_balance 26 = .ok (.bipush 30, 2) := by decide +kernel
theorem d_Mo_balance_28 : decode b_Mo_balance 28 = .ok (.iload 4, 2) := by decide +kernel
theorem d_Mo_balance_30 : decode b_Mo_balance 30 = .ok (.iadd, 1) := by decide +kernel
theorem d_Mo_balance_31 : decode b_Mo_balance 31 = .ok (.iaload, 1) := by decide +kernel
theorem d_Mo_balance_32 : decode b_Mo_balance 32 = .ok (.iload_n 1, 1) := by decide +kernel
theorem d_Mo_balance_33 : decode b_Mo_balance 33 = .ok (.if_icmp .ne 16, 3) := by decide +kernel
theorem d_Mo_balance_36 : decode b_Mo_balance 36 = .ok (.aload_n 0, 1) := by decide +kernel
theorem d_Mo_balance_37 : decode b_Mo_balance 37 = .ok (.getfield 22, 3) := by decide +kernel
theorem d_Mo_balance_40 : decode b_Mo_balance 40 = .ok (.bipush 30, 2) := by decide +kernel
theorem d_Mo_balance_42 : decode b_Mo_balance 42 = .ok (.iload 4, 2) := by decide +kernel
theorem d_Mo_balance_44 : decode b_Mo_balance 44 = .ok (.iadd, 1) := by decide +kernel
theorem d_Mo_balance_45 : decode b_Mo_balance 45 = .ok (.laload, 1) := by decide +kernel
theorem d_Mo_balance_46 : decode b_Mo_balance 46 = .ok (.goto 4, 3) := by decide +kernel
theorem d_Mo_balance_49 : decode b_Mo_balance 49 = .ok (.lconst 0, 1) := by decide +kernel
theorem d_Mo_balance_50 : decode b_Mo_balance 50 = .ok (.ladd, 1) := by decide +kernel
theorem d_Mo_balance_51 : decode b_Mo_balance 51 = .ok (.lstore_n 2, 1) := by decide +kernel
theorem d_Mo_balance_52 : decode b_Mo_balance 52 = .ok (.iinc 4 1, 3) := by decide +kernel
theorem d_Mo_balance_55 : decode b_Mo_balance 55 = .ok (.goto (-45), 3) := by decide +kernel
theorem d_Mo_balance_58 : decode b_Mo_balance 58 = .ok (.iconst 0, 1) := by decide +kernel
theorem d_Mo_balance_59 : decode b_Mo_balance 59 = .ok (.istore 4, 2) := by decide +kernel
theorem d_Mo_balance_61 : decode b_Mo_balance 61 = .ok (.iload 4, 2) := by decide +kernel
theorem d_Mo_balance_63 : decode b_Mo_balance 63 = .ok (.aload_n 0, 1) := by decide +kernel
theorem d_Mo_balance_64 : decode b_Mo_balance 64 = .ok (.getfield 7, 3) := by decide +kernel
theorem d_Mo_balance_67 : decode b_Mo_balance 67 = .ok (.iconst 0, 1) := by decide +kernel
theorem d_Mo_balance_68 : decode b_Mo_balance 68 = .ok (.iaload, 1) := by decide +kernel
theorem d_Mo_balance_69 : decode b_Mo_balance 69 = .ok (.if_icmp .ge 34, 3) := by decide +kernel
theorem d_Mo_balance_72 : decode b_Mo_balance 72 = .ok (.lload_n 2, 1) := by decide +kernel
theorem d_Mo_balance_73 : decode b_Mo_balance 73 = .ok (.aload_n 0, 1) := by decide +kernel
theorem d_Mo_balance_74 : decode b_Mo_balance 74 = .ok (.getfield 19, 3) := by decide +kernel
theorem d_Mo_balance_77 : decode b_Mo_balance 77 = .ok (.iload 4, 2) := by decide +kernel
theorem d_Mo_balance_79 : decode b_Mo_balance 79 = .ok (.iaload, 1) := by decide +kernel
theorem d_Mo_balance_80 : decode b_Mo_balance 80 = .ok (.iload_n 1, 1) := by decide +kernel
theorem d_Mo_balance_81 : decode b_Mo_balance 81 = .ok (.if_icmp .ne 13, 3) := by decide +kernel
theorem d_Mo_balance_84 : decode b_Mo_balance 84 = .ok (.aload_n 0, 1) := by decide +kernel
theorem d_Mo_balance_85 : decode b_Mo_balance 85 = .ok (.getfield 22, 3) := by decide +kernel
theorem d_Mo_balance_88 : decode b_Mo_balance 88 = .ok (.iload 4, 2) := by decide +kernel
theorem d_Mo_balance_90 : decode b_Mo_balance 90 = .ok (.laload, 1) := by decide +kernel
theorem d_Mo_balance_91 : decode b_Mo_balance 91 = .ok (.goto 4, 3) := by decide +kernel
theorem d_Mo_balance_94 : decode b_Mo_balance 94 = .ok (.lconst 0, 1) := by decide +kernel
theorem d_Mo_balance_95 : decode b_Mo_balance 95 = .ok (.lsub, 1) := by decide +kernel
theorem d_Mo_balance_96 : decode b_Mo_balance 96 = .ok (.lstore_n 2, 1) := by decide +kernel
theorem d_Mo_balance_97 : decode b_Mo_balance 97 = .ok (.iinc 4 1, 3) := by decide +kernel
theorem d_Mo_balance_100 : decode b_Mo_balance 100 = .ok (.goto (-39), 3) := by decide +kernel
theorem d_Mo_balance_103 : decode b_Mo_balance 103 = .ok (.lload_n 2, 1) := by decide +kernel
theorem d_Mo_balance_104 : decode b_Mo_balance 104 = .ok (.lreturn, 1) := by decide +kernel
theorem d_Mo_plant_0 : decode b_Mo_plant 0 = .ok (.aload_n 0, 1) := by decide +kernel
theorem d_Mo_plant_1 : decode b_Mo_plant 1 = .ok (.iconst 0, 1) := by decide +kernel
theorem d_Mo_plant_2 : decode b_Mo_plant 2 = .ok (.putfield 79, 3) := by decide +kernel
theorem d_Mo_plant_5 : decode b_Mo_plant 5 = .ok (.lload_n 1, 1) := by decide +kernel
theorem d_Mo_plant_6 : decode b_Mo_plant 6 = .ok (.lconst 0, 1) := by decide +kernel
theorem d_Mo_plant_7 : decode b_Mo_plant 7 = .ok (.ldc2_w 93, 3) := by decide +kernel
theorem d_Mo_plant_10 : decode b_Mo_plant 10 = .ok (.invokestatic 89, 3) := by decide +kernel
theorem d_Mo_plant_13 : decode b_Mo_plant 13 = .ok (.ifCond .eq 19, 3) := by decide +kernel
theorem d_Mo_plant_16 : decode b_Mo_plant 16 = .ok (.iload_n 3, 1) := by decide +kernel
theorem d_Mo_plant_17 : decode b_Mo_plant 17 = .ok (.invokestatic 83, 3) := by decide +kernel
theorem d_Mo_plant_20 : decode b_Mo_plant 20 = .ok (.ifCond .eq 12, 3) := by decide +kernel
theorem d_Mo_plant_23 : decode b_Mo_plant 23 = .ok (.aload_n 0, 1) := by decide +kernel
theorem d_Mo_plant_24 : decode b_Mo_plant 24 = .ok (.getfield 110, 3) := by decide +kernel
theorem d_Mo_plant_27 : decode b_Mo_plant 27 = .ok (.bipush 8, 2) := by decide +kernel
theorem d_Mo_plant_29 : decode b_Mo_plant 29 = .ok (.if_icmp .ne 5, 3) := by decide +kernel
theorem d_Mo_plant_32 : decode b_Mo_plant 32 = .ok (.iconst (-1), 1) := by decide +kernel
theorem d_Mo_plant_33 : decode b_Mo_plant 33 = .ok (.ireturn, 1) := by decide +kernel
theorem d_Mo_plant_34 : decode b_Mo_plant 34 = .ok (.aload_n 0, 1) := by decide +kernel
theorem d_Mo_plant_35 : decode b_Mo_plant 35 = .ok (.getfield 33, 3) := by decide +kernel
theorem d_Mo_plant_38 : decode b_Mo_plant 38 = .ok (.aload_n 0, 1) := by decide +kernel
theorem d_Mo_plant_39 : decode b_Mo_plant 39 = .ok (.getfield 110, 3) := by decide +kernel
theorem d_Mo_plant_42 : decode b_Mo_plant 42 = .ok (.lload_n 1, 1) := by decide +kernel
theorem d_Mo_plant_43 : decode b_Mo_plant 43 = .ok (.lastore, 1) := by decide +kernel
theorem d_Mo_plant_44 : decode b_Mo_plant 44 = .ok (.aload_n 0, 1) := by decide +kernel
theorem d_Mo_plant_45 : decode b_Mo_plant 45 = .ok (.getfield 36, 3) := by decide +kernel
theorem d_Mo_plant_48 : decode b_Mo_plant 48 = .ok (.aload_n 0, 1) := by decide +kernel
theorem d_Mo_plant_49 : decode b_Mo_plant 49 = .ok (.getfield 110, 3) := by decide +kernel
theorem d_Mo_plant_52 : decode b_Mo_plant 52 = .ok (.iload_n 3, 1) := by decide +kernel
theorem d_Mo_plant_53 : decode b_Mo_plant 53 = .ok (.iastore, 1) := by decide +kernel
theorem d_Mo_plant_54 : decode b_Mo_plant 54 = .ok (.aload_n 0, 1) := by decide +kernel
theorem d_Mo_plant_55 : decode b_Mo_plant 55 = .ok (.dup, 1) := by decide +kernel
theorem d_Mo_plant_56 : decode b_Mo_plant 56 = .ok (.getfield 110, 3) := by decide +kernel
theorem d_Mo_plant_59 : decode b_Mo_plant 59 = .ok (.iconst 1, 1) := by decide +kernel
theorem d_Mo_plant_60 : decode b_Mo_plant 60 = .ok (.iadd, 1) := by decide +kernel
theorem d_Mo_plant_61 : decode b_Mo_plant 61 = .ok (.putfield 110, 3) := by decide +kernel
theorem d_Mo_plant_64 : decode b_Mo_plant 64 = .ok (.aload_n 0, 1) := by decide +kernel
theorem d_Mo_plant_65 : decode b_Mo_plant 65 = .ok (.getfield 110, 3) := by decide +kernel
theorem d_Mo_plant_68 : decode b_Mo_plant 68 = .ok (.iconst 1, 1) := by decide +kernel
theorem d_Mo_plant_69 : decode b_Mo_plant 69 = .ok (.isub, 1) := by decide +kernel
theorem d_Mo_plant_70 : decode b_Mo_plant 70 = .ok (.ireturn, 1) := by decide +kernel
theorem d_Mo_isPlant_0 : decode b_Mo_isPlant 0 = .ok (.iload_n 1, 1) := by decide +kernel
theorem d_Mo_isPlant_1 : decode b_Mo_isPlant 1 = .ok (.ifCond .lt 15, 3) := by decide +kernel
theorem d_Mo_isPlant_4 : decode b_Mo_isPlant 4 = .ok (.iload_n 1, 1) := by decide +kernel
theorem d_Mo_isPlant_5 : decode b_Mo_isPlant 5 = .ok (.aload_n 0, 1) := by decide +kernel
theorem d_Mo_isPlant_6 : decode b_Mo_isPlant 6 = .ok (.getfield 110, 3) := by decide +kernel
theorem d_Mo_isPlant_9 : decode b_Mo_isPlant 9 = .ok (.if_icmp .ge 7, 3) := by decide +kernel
theorem d_Mo_isPlant_12 : decode b_Mo_isPlant 12 = .ok (.iconst 1, 1) := by decide +kernel
theorem d_Mo_isPlant_13 : decode b_Mo_isPlant 13 = .ok (.goto 4, 3) := by decide +kernel
theorem d_Mo_isPlant_16 : decode b_Mo_isPlant 16 = .ok (.iconst 0, 1) := by decide +kernel
theorem d_Mo_isPlant_17 : decode b_Mo_isPlant 17 = .ok (.ireturn, 1) := by decide +kernel
theorem d_Mo_out_0 : decode b_Mo_out 0 = .ok (.aload_n 0, 1) := by decide +kernel
theorem d_Mo_out_1 : decode b_Mo_out 1 = .ok (.iconst 0, 1) := by decide +kernel
theorem d_Mo_out_2 : decode b_Mo_out 2 = .ok (.putfield 79, 3) := by decide +kernel
theorem d_Mo_out_5 : decode b_Mo_out 5 = .ok (.aload_n 0, 1) := by decide +kernel
theorem d_Mo_out_6 : decode b_Mo_out 6 = .ok (.iload_n 1, 1) := by decide +kernel
theorem d_Mo_out_7 : decode b_Mo_out 7 = .ok (.invokevirtual 113, 3) := by decide +kernel
theorem d_Mo_out_10 : decode b_Mo_out 10 = .ok (.ifCond .eq 32, 3) := by decide +kernel
theorem d_Mo_out_13 : decode b_Mo_out 13 = .ok (.iload_n 2, 1) := by decide +kernel
theorem d_Mo_out_14 : decode b_Mo_out 14 = .ok (.invokestatic 83, 3) := by decide +kernel
theorem d_Mo_out_17 : decode b_Mo_out 17 = .ok (.ifCond .eq 25, 3) := by decide +kernel
theorem d_Mo_out_20 : decode b_Mo_out 20 = .ok (.lload_n 3, 1) := by decide +kernel
theorem d_Mo_out_21 : decode b_Mo_out 21 = .ok (.lconst 1, 1) := by decide +kernel
theorem d_Mo_out_22 : decode b_Mo_out 22 = .ok (.ldc2_w 93, 3) := by decide +kernel
theorem d_Mo_out_25 : decode b_Mo_out 25 = .ok (.invokestatic 89, 3) := by decide +kernel
theorem d_Mo_out_28 : decode b_Mo_out 28 = .ok (.ifCond .eq 14, 3) := by decide +kernel
theorem d_Mo_out_31 : decode b_Mo_out 31 = .ok (.aload_n 0, 1) := by decide +kernel
theorem d_Mo_out_32 : decode b_Mo_out 32 = .ok (.getfield 39, 3) := by decide +kernel
theorem d_Mo_out_35 : decode b_Mo_out 35 = .ok (.iload_n 1, 1) := by decide +kernel
theorem d_Mo_out_36 : decode b_Mo_out 36 = .ok (.iaload, 1) := by decide +kernel
theorem d_Mo_out_37 : decode b_Mo_out 37 = .ok (.bipush 8, 2) := by decide +kernel
theorem d_Mo_out_39 : decode b_Mo_out 39 = .ok (.if_icmp .ne 5, 3) := by decide +kernel
theorem d_Mo_out_42 : decode b_Mo_out 42 = .ok (.iconst (-1), 1) := by decide +kernel
theorem d_Mo_out_43 : decode b_Mo_out 43 = .ok (.ireturn, 1) := by decide +kernel
theorem d_Mo_out_44 : decode b_Mo_out 44 = .ok (.aload_n 0, 1) := by decide +kernel
theorem d_Mo_out_45 : decode b_Mo_out 45 = .ok (.getfield 42, 3) := by decide +kernel
theorem d_Mo_out_48 : decode b_Mo_out 48 = .ok (.bipush 8, 2) := by decide +kernel
theorem d_Mo_out_50 : decode b_Mo_out 50 = .ok (.iload_n 1, 1) := by decide +kernel
theorem d_Mo_out_51 : decode b_Mo_out 51 = .ok (.imul, 1) := by decide +kernel
theorem d_Mo_out_52 : decode b_Mo_out 52 = .ok (.aload_n 0, 1) := by decide +kernel
theorem d_Mo_out_53 : decode b_Mo_out 53 = .ok (.getfield 39, 3) := by decide +kernel
theorem d_Mo_out_56 : decode b_Mo_out 56 = .ok (.iload_n 1, 1) := by decide +kernel
theorem d_Mo_out_57 : decode b_Mo_out 57 = .ok (.iaload, 1) := by decide +kernel
theorem d_Mo_out_58 : decode b_Mo_out 58 = .ok (.iadd, 1) := by decide +kernel
theorem d_Mo_out_59 : decode b_Mo_out 59 = .ok (.iload_n 2, 1) := by decide +kernel
theorem d_Mo_out_60 : decode b_Mo_out 60 = .ok (.iastore, 1) := by decide +kernel
theorem d_Mo_out_61 : decode b_Mo_out 61 = .ok (.aload_n 0, 1) := by decide +kernel
theorem d_Mo_out_62 : decode b_Mo_out 62 = .ok (.getfield 45, 3) := by decide +kernel
theorem d_Mo_out_65 : decode b_Mo_out 65 = .ok (.bipush 8, 2) := by decide +kernel
theorem d_Mo_out_67 : decode b_Mo_out 67 = .ok (.iload_n 1, 1) := by decide +kernel
theorem d_Mo_out_68 : decode b_Mo_out 68 = .ok (.imul, 1) := by decide +kernel
theorem d_Mo_out_69 : decode b_Mo_out 69 = .ok (.aload_n 0, 1) := by decide +kernel
theorem d_Mo_out_70 : decode b_Mo_out 70 = .ok (.getfield 39, 3) := by decide +kernel
theorem d_Mo_out_73 : decode b_Mo_out 73 = .ok (.iload_n 1, 1) := by decide +kernel
theorem d_Mo_out_74 : decode b_Mo_out 74 = .ok (.iaload, 1) := by decide +kernel
theorem d_Mo_out_75 : decode b_Mo_out 75 = .ok (.iadd, 1) := by decide +kernel
theorem d_Mo_out_76 : decode b_Mo_out 76 = .ok (.lload_n 3, 1) := by decide +kernel
theorem d_Mo_out_77 : decode b_Mo_out 77 = .ok (.lastore, 1) := by decide +kernel
theorem d_Mo_out_78 : decode b_Mo_out 78 = .ok (.aload_n 0, 1) := by decide +kernel
theorem d_Mo_out_79 : decode b_Mo_out 79 = .ok (.getfield 39, 3) := by decide +kernel
theorem d_Mo_out_82 : decode b_Mo_out 82 = .ok (.iload_n 1, 1) := by decide +kernel
theorem d_Mo_out_83 : decode b_Mo_out 83 = .ok (.dup2, 1) := by decide +kernel
theorem d_Mo_out_84 : decode b_Mo_out 84 = .ok (.iaload, 1) := by decide +kernel
theorem d_Mo_out_85 : decode b_Mo_out 85 = .ok (.iconst 1, 1) := by decide +kernel
theorem d_Mo_out_86 : decode b_Mo_out 86 = .ok (.iadd, 1) := by decide +kernel
theorem d_Mo_out_87 : decode b_Mo_out 87 = .ok (.iastore, 1) := by decide +kernel
theorem d_Mo_out_88 : decode b_Mo_out 88 = .ok (.aload_n 0, 1) := by decide +kernel
theorem d_Mo_out_89 : decode b_Mo_out 89 = .ok (.getfield 39, 3) := by decide +kernel
theorem d_Mo_out_92 : decode b_Mo_out 92 = .ok (.iload_n 1, 1) := by decide +kernel
theorem d_Mo_out_93 : decode b_Mo_out 93 = .ok (.iaload, 1) := by decide +kernel
theorem d_Mo_out_94 : decode b_Mo_out 94 = .ok (.iconst 1, 1) := by decide +kernel
theorem d_Mo_out_95 : decode b_Mo_out 95 = .ok (.isub, 1) := by decide +kernel
theorem d_Mo_out_96 : decode b_Mo_out 96 = .ok (.ireturn, 1) := by decide +kernel
theorem d_Mo_ownIn_0 : decode b_Mo_ownIn 0 = .ok (.lconst 0, 1) := by decide +kernel
theorem d_Mo_ownIn_1 : decode b_Mo_ownIn 1 = .ok (.lstore_n 3, 1) := by decide +kernel
theorem d_Mo_ownIn_2 : decode b_Mo_ownIn 2 = .ok (.iconst 0, 1) := by decide +kernel
theorem d_Mo_ownIn_3 : decode b_Mo_ownIn 3 = .ok (.istore 5, 2) := by decide +kernel
theorem d_Mo_ownIn_5 : decode b_Mo_ownIn 5 = .ok (.iload 5, 2) := by decide +kernel
theorem d_Mo_ownIn_7 : decode b_Mo_ownIn 7 = .ok (.aload_n 0, 1) := by decide +kernel
theorem d_Mo_ownIn_8 : decode b_Mo_ownIn 8 = .ok (.getfield 39, 3) := by decide +kernel
theorem d_Mo_ownIn_11 : decode b_Mo_ownIn 11 = .ok (.iload_n 1, 1) := by decide +kernel
theorem d_Mo_ownIn_12 : decode b_Mo_ownIn 12 = .ok (.iaload, 1) := by decide +kernel
theorem d_Mo_ownIn_13 : decode b_Mo_ownIn 13 = .ok (.if_icmp .ge 74, 3) := by decide +kernel
theorem d_Mo_ownIn_16 : decode b_Mo_ownIn 16 = .ok (.iload_n 2, 1) := by decide +kernel
theorem d_Mo_ownIn_17 : decode b_Mo_ownIn 17 = .ok (.bipush 7, 2) := by decide +kernel
theorem d_Mo_ownIn_19 : decode b_Mo_ownIn 19 = .ok (.iload 5, 2) := by decide +kernel
theorem d_Mo_ownIn_21 : decode b_Mo_ownIn 21 = .ok (.isub, 1) := by decide +kernel
theorem d_Mo_ownIn_22 : decode b_Mo_ownIn 22 = .ok (.ishr, 1) := by decide +kernel
theorem d_Mo_ownIn_23 : decode b_Mo_ownIn 23 = .ok (.iconst 1, 1) := by decide +kernel
theorem d_Mo_ownIn_24 : decode b_Mo_ownIn 24 = .ok (.iand, 1) := by decide +kernel
theorem d_Mo_ownIn_25 : decode b_Mo_ownIn 25 = .ok (.iconst 1, 1) := by decide +kernel
theorem d_Mo_ownIn_26 : decode b_Mo_ownIn 26 = .ok (.if_icmp .ne 28, 3) := by decide +kernel
theorem d_Mo_ownIn_29 : decode b_Mo_ownIn 29 = .ok (.aload_n 0, 1) := by decide +kernel
theorem d_Mo_ownIn_30 : decode b_Mo_ownIn 30 = .ok (.getfield 42, 3) := by decide +kernel
theorem d_Mo_ownIn_33 : decode b_Mo_ownIn 33 = .ok (.bipush 8, 2) := by decide +kernel
theorem d_Mo_ownIn_35 : decode b_Mo_ownIn 35 = .ok (.iload_n 1, 1) := by decide +kernel
theorem d_Mo_ownIn_36 : decode b_Mo_ownIn 36 = .ok (.imul, 1) := by decide +kernel
theorem d_Mo_ownIn_37 : decode b_Mo_ownIn 37 = .ok (.iload 5, 2) := by decide +kernel
theorem d_Mo_ownIn_39 : decode b_Mo_ownIn 39 = .ok (.iadd, 1) := by decide +kernel
theorem d_Mo_ownIn_40 : decode b_Mo_ownIn 40 = .ok (.iaload, 1) := by decide +kernel
theorem d_Mo_ownIn_41 : decode b_Mo_ownIn 41 = .ok (.aload_n 0, 1) := by decide +kernel
theorem d_Mo_ownIn_42 : decode b_Mo_ownIn 42 = .ok (.getfield 36, 3) := by decide +kernel
theorem d_Mo_ownIn_45 : decode b_Mo_ownIn 45 = .ok (.iload_n 1, 1) := by decide +kernel
theorem d_Mo_ownIn_46 : decode b_Mo_ownIn 46 = .ok (.iaload, 1) := by decide +kernel
theorem d_Mo_ownIn_47 : decode b_Mo_ownIn 47 = .ok (.if_icmp .ne 7, 3) := by decide +kernel
theorem d_Mo_ownIn_50 : decode b_Mo_ownIn 50 = .ok (.iconst 1, 1) := by decide +kernel
theorem d_Mo_ownIn_51 : decode b_Mo_ownIn 51 = .ok (.goto 4, 3) := by decide +kernel
theorem d_Mo_ownIn_54 : decode b_Mo_ownIn 54 = .ok (.iconst 0, 1) := by decide +kernel
theorem d_Mo_ownIn_55 : decode b_Mo_ownIn 55 = .ok (.istore 6, 2) := by decide +kernel
theorem d_Mo_ownIn_57 : decode b_Mo_ownIn 57 = .ok (.lload_n 3, 1) := by decide +kernel
theorem d_Mo_ownIn_58 : decode b_Mo_ownIn 58 = .ok (.iload 6, 2) := by decide +kernel
theorem d_Mo_ownIn_60 : decode b_Mo_ownIn 60 = .ok (.ifCond .eq 18, 3) := by decide +kernel
theorem d_Mo_ownIn_63 : decode b_Mo_ownIn 63 = .ok (.aload_n 0, 1) := by decide +kernel
theorem d_Mo_ownIn_64 : decode b_Mo_ownIn 64 = .ok (.getfield 45, 3) := by decide +kernel
theorem d_Mo_ownIn_67 : decode b_Mo_ownIn 67 = .ok (.bipush 8, 2) := by decide +kernel
theorem d_Mo_ownIn_69 : decode b_Mo_ownIn 69 = .ok (.iload_n 1, 1) := by decide +kernel
theorem d_Mo_ownIn_70 : decode b_Mo_ownIn 70 = .ok (.imul, 1) := by decide +kernel
theorem d_Mo_ownIn_71 : decode b_Mo_ownIn 71 = .ok (.iload 5, 2) := by decide +kernel
theorem d_Mo_ownIn_73 : decode b_Mo_ownIn 73 = .ok (.iadd, 1) := by decide +kernel
theorem d_Mo_ownIn_74 : decode b_Mo_ownIn 74 = .ok (.laload, 1) := by decide +kernel
theorem d_Mo_ownIn_75 : decode b_Mo_ownIn 75 = .ok (.goto 4, 3) := by decide +kernel
theorem d_Mo_ownIn_78 : decode b_Mo_ownIn 78 = .ok (.lconst 0, 1) := by decide +kernel
theorem d_Mo_ownIn_79 : decode b_Mo_ownIn 79 = .ok (.ladd, 1) := by decide +kernel
theorem d_Mo_ownIn_80 : decode b_Mo_ownIn 80 = .ok (.lstore_n 3, 1) := by decide +kernel
theorem d_Mo_ownIn_81 : decode b_Mo_ownIn 81 = .ok (.iinc 5 1, 3) := by decide +kernel
theorem d_Mo_ownIn_84 : decode b_Mo_ownIn 84 = .ok (.goto (-79), 3) := by decide +kernel
theorem d_Mo_ownIn_87 : decode b_Mo_ownIn 87 = .ok (.lload_n 3, 1) := by decide +kernel
theorem d_Mo_ownIn_88 : decode b_Mo_ownIn 88 = .ok (.lreturn, 1) := by decide +kernel
theorem d_Mo_lack_0 : decode b_Mo_lack 0 = .ok (.aload_n 0, 1) := by decide +kernel
theorem d_Mo_lack_1 : decode b_Mo_lack 1 = .ok (.iload_n 1, 1) := by decide +kernel
theorem d_Mo_lack_2 : decode b_Mo_lack 2 = .ok (.sipush 255, 3) := by decide +kernel
theorem d_Mo_lack_5 : decode b_Mo_lack 5 = .ok (.invokevirtual 116, 3) := by decide +kernel
theorem d_Mo_lack_8 : decode b_Mo_lack 8 = .ok (.aload_n 0, 1) := by decide +kernel
theorem d_Mo_lack_9 : decode b_Mo_lack 9 = .ok (.getfield 33, 3) := by decide +kernel
theorem d_Mo_lack_12 : decode b_Mo_lack 12 = .ok (.iload_n 1, 1) := by decide +kernel
theorem d_Mo_lack_13 : decode b_Mo_lack 13 = .ok (.laload, 1) := by decide +kernel
theorem d_Mo_lack_14 : decode b_Mo_lack 14 = .ok (.lsub, 1) := by decide +kernel
theorem d_Mo_lack_15 : decode b_Mo_lack 15 = .ok (.lstore_n 2, 1) := by decide +kernel
theorem d_Mo_lack_16 : decode b_Mo_lack 16 = .ok (.lload_n 2, 1) := by decide +kernel
theorem d_Mo_lack_17 : decode b_Mo_lack 17 = .ok (.lconst 0, 1) := by decide +kernel
theorem d_Mo_lack_18 : decode b_Mo_lack 18 = .ok (.lcmp, 1) := by decide +kernel
theorem d_Mo_lack_19 : decode b_Mo_lack 19 = .ok (.ifCond .le 7, 3) := by decide +kernel
theorem d_Mo_lack_22 : decode b_Mo_lack 22 = .ok (.lload_n 2, 1) := by decide +kernel
theorem d_Mo_lack_23 : decode b_Mo_lack 23 = .ok (.goto 4, 3) := by decide +kernel
theorem d_Mo_lack_26 : decode b_Mo_lack 26 = .ok (.lconst 0, 1) := by decide +kernel
theorem d_Mo_lack_27 : decode b_Mo_lack 27 = .ok (.lreturn, 1) := by decide +kernel
theorem d_Mo_lacks_0 : decode b_Mo_lacks 0 = .ok (.aload_n 0, 1) := by decide +kernel
theorem d_Mo_lacks_1 : decode b_Mo_lacks 1 = .ok (.iconst 0, 1) := by decide +kernel
theorem d_Mo_lacks_2 : decode b_Mo_lacks 2 = .ok (.putfield 79, 3) := by decide +kernel
theorem d_Mo_lacks_5 : decode b_Mo_lacks 5 = .ok (.aload_n 0, 1) := by decide +kernel
theorem d_Mo_lacks_6 : decode b_Mo_lacks 6 = .ok (.iload_n 1, 1) := by decide +kernel
theorem d_Mo_lacks_7 : decode b_Mo_lacks 7 = .ok (.invokevirtual 113, 3) := by decide +kernel
theorem d_Mo_lacks_10 : decode b_Mo_lacks 10 = .ok (.ifCond .eq 11, 3) := by decide +kernel
theorem d_Mo_lacks_13 : decode b_Mo_lacks 13 = .ok (.aload_n 0, 1) := by decide +kernel
theorem d_Mo_lacks_14 : decode b_Mo_lacks 14 = .ok (.iload_n 1, 1) := by decide +kernel
theorem d_Mo_lacks_15 : decode b_Mo_lacks 15 = .ok (.invokevirtual 120, 3) := by decide +kernel
theorem d_Mo_lacks_18 : decode b_Mo_lacks 18 = .ok (.goto 6, 3) := by decide +kernel
theorem d_Mo_lacks_21 : decode b_Mo_lacks 21 = .ok (.ldc2_w 124, 3) := by decide +kernel
theorem d_Mo_lacks_24 : decode b_Mo_lacks 24 = .ok (.lreturn, 1) := by decide +kernel
theorem d_Mo_ones_0 : decode b_Mo_ones 0 = .ok (.iconst 0, 1) := by decide +kernel
theorem d_Mo_ones_1 : decode b_Mo_ones 1 = .ok (.istore_n 1, 1) := by decide +kernel
theorem d_Mo_ones_2 : decode b_Mo_ones 2 = .ok (.iconst 0, 1) := by decide +kernel
theorem d_Mo_ones_3 : decode b_Mo_ones 3 = .ok (.istore_n 2, 1) := by decide +kernel
theorem d_Mo_ones_4 : decode b_Mo_ones 4 = .ok (.iload_n 2, 1) := by decide +kernel
theorem d_Mo_ones_5 : decode b_Mo_ones 5 = .ok (.bipush 8, 2) := by decide +kernel
theorem d_Mo_ones_7 : decode b_Mo_ones 7 = .ok (.if_icmp .ge 17, 3) := by decide +kernel
theorem d_Mo_ones_10 : decode b_Mo_ones 10 = .ok (.iload_n 1, 1) := by decide +kernel
theorem d_Mo_ones_11 : decode b_Mo_ones 11 = .ok (.iload_n 0, 1) := by decide +kernel
theorem d_Mo_ones_12 : decode b_Mo_ones 12 = .ok (.iload_n 2, 1) := by decide +kernel
theorem d_Mo_ones_13 : decode b_Mo_ones 13 = .ok (.ishr, 1) := by decide +kernel
theorem d_Mo_ones_14 : decode b_Mo_ones 14 = .ok (.iconst 1, 1) := by decide +kernel
theorem d_Mo_ones_15 : decode b_Mo_ones 15 = .ok (.iand, 1) := by decide +kernel
theorem d_Mo_ones_16 : decode b_Mo_ones 16 = .ok (.iadd, 1) := by decide +kernel
theorem d_Mo_ones_17 : decode b_Mo_ones 17 = .ok (.istore_n 1, 1) := by decide +kernel
theorem d_Mo_ones_18 : decode b_Mo_ones 18 = .ok (.iinc 2 1, 3) := by decide +kernel
theorem d_Mo_ones_21 : decode b_Mo_ones 21 = .ok (.goto (-17), 3) := by decide +kernel
theorem d_Mo_ones_24 : decode b_Mo_ones 24 = .ok (.iload_n 1, 1) := by decide +kernel
theorem d_Mo_ones_25 : decode b_Mo_ones 25 = .ok (.ireturn, 1) := by decide +kernel
theorem d_Mo_nowhere_0 : decode b_Mo_nowhere 0 = .ok (.aload_n 0, 1) := by decide +kernel
theorem d_Mo_nowhere_1 : decode b_Mo_nowhere 1 = .ok (.iconst 0, 1) := by decide +kernel
theorem d_Mo_nowhere_2 : decode b_Mo_nowhere 2 = .ok (.putfield 79, 3) := by decide +kernel
theorem d_Mo_nowhere_5 : decode b_Mo_nowhere 5 = .ok (.aload_n 0, 1) := by decide +kernel
theorem d_Mo_nowhere_6 : decode b_Mo_nowhere 6 = .ok (.iload_n 1, 1) := by decide +kernel
theorem d_Mo_nowhere_7 : decode b_Mo_nowhere 7 = .ok (.invokevirtual 113, 3) := by decide +kernel
theorem d_Mo_nowhere_10 : decode b_Mo_nowhere 10 = .ok (.ifCond .eq 17, 3) := by decide +kernel
theorem d_Mo_nowhere_13 : decode b_Mo_nowhere 13 = .ok (.iload_n 2, 1) := by decide +kernel
theorem d_Mo_nowhere_14 : decode b_Mo_nowhere 14 = .ok (.ifCond .lt 13, 3) := by decide +kernel
theorem d_Mo_nowhere_17 : decode b_Mo_nowhere 17 = .ok (.aload_n 0, 1) := by decide +kernel
theorem d_Mo_nowhere_18 : decode b_Mo_nowhere 18 = .ok (.iload_n 1, 1) := by decide +kernel
theorem d_Mo_nowhere_19 : decode b_Mo_nowhere 19 = .ok (.invokevirtual 120, 3) := by decide +kernel
theorem d_Mo_nowhere_22 : decode b_Mo_nowhere 22 = .ok (.lconst 0, 1) := by decide +kernel
theorem d_Mo_nowhere_23 : decode b_Mo_nowhere 23 = .ok (.lcmp, 1) := by decide +kernel
theorem d_Mo_nowhere_24 : decode b_Mo_nowhere 24 = .ok (.ifCond .ne 5, 3) := by decide +kernel
theorem d_Mo_nowhere_27 : decode b_Mo_nowhere 27 = .ok (.iconst (-1), 1) := by decide +kernel
theorem d_Mo_nowhere_28 : decode b_Mo_nowhere 28 = .ok (.ireturn, 1) := by decide +kernel
theorem d_Mo_nowhere_29 : decode b_Mo_nowhere 29 = .ok (.sipush 255, 3) := by decide +kernel
theorem d_Mo_nowhere_32 : decode b_Mo_nowhere 32 = .ok (.istore_n 3, 1) := by decide +kernel
theorem d_Mo_nowhere_33 : decode b_Mo_nowhere 33 = .ok (.bipush 9, 2) := by decide +kernel
theorem d_Mo_nowhere_35 : decode b_Mo_nowhere 35 = .ok (.istore 4, 2) := by decide +kernel
theorem d_Mo_nowhere_37 : decode b_Mo_nowhere 37 = .ok (.sipush 255, 3) := by decide +kernel
theorem d_Mo_nowhere_40 : decode b_Mo_nowhere 40 = .ok (.istore 5, 2) := by decide +kernel
theorem d_Mo_nowhere_42 : decode b_Mo_nowhere 42 = .ok (.iload 5, 2) := by decide +kernel
theorem d_Mo_nowhere_44 : decode b_Mo_nowhere 44 = .ok (.ifCond .le 45, 3) := by decide +kernel
theorem d_Mo_nowhere_47 : decode b_Mo_nowhere 47 = .ok (.iload 5, 2) := by decide +kernel
theorem d_Mo_nowhere_49 : decode b_Mo_nowhere 49 = .ok (.invokestatic 126, 3) := by decide +kernel
theorem d_Mo_nowhere_52 : decode b_Mo_nowhere 52 = .ok (.iload 4, 2) := by decide +kernel
theorem d_Mo_nowhere_54 : decode b_Mo_nowhere 54 = .ok (.if_icmp .ge 29, 3) := by decide +kernel
theorem d_Mo_nowhere_57 : decode b_Mo_nowhere 57 = .ok (.aload_n 0, 1) := by decide +kernel
theorem d_Mo_nowhere_58 : decode b_Mo_nowhere 58 = .ok (.iload_n 1, 1) := by decide +kernel
theorem d_Mo_nowhere_59 : decode b_Mo_nowhere 59 = .ok (.iload 5, 2) := by decide +kernel
theorem d_Mo_nowhere_61 : decode b_Mo_nowhere 61 = .ok (.invokevirtual 116, 3) := by decide +kernel
theorem d_Mo_nowhere_64 : decode b_Mo_nowhere 64 = .ok (.aload_n 0, 1) := by decide +kernel
theorem d_Mo_nowhere_65 : decode b_Mo_nowhere 65 = .ok (.iload_n 1, 1) := by decide +kernel
theorem d_Mo_nowhere_66 : decode b_Mo_nowhere 66 = .ok (.invokevirtual 120, 3) := by decide +kernel
theorem d_Mo_nowhere_69 : decode b_Mo_nowhere 69 = .ok (.lcmp, 1) := by decide +kernel
theorem d_Mo_nowhere_70 : decode b_Mo_nowhere 70 = .ok (.ifCond .lt 13, 3) := by decide +kernel
theorem d_Mo_nowhere_73 : decode b_Mo_nowhere 73 = .ok (.iload 5, 2) := by decide +kernel
theorem d_Mo_nowhere_75 : decode b_Mo_nowhere 75 = .ok (.istore_n 3, 1) := by decide +kernel
theorem d_Mo_nowhere_76 : decode b_Mo_nowhere 76 = .ok (.iload 5, 2) := by decide +kernel
theorem d_Mo_nowhere_78 : decode b_Mo_nowhere 78 = .ok (.invokestatic 126, 3) := by decide +kernel
theorem d_Mo_nowhere_81 : decode b_Mo_nowhere 81 = .ok (.istore 4, 2) := by decide +kernel
theorem d_Mo_nowhere_83 : decode b_Mo_nowhere 83 = .ok (.iinc 5 (-1), 3) := by decide +kernel
theorem d_Mo_nowhere_86 : decode b_Mo_nowhere 86 = .ok (.goto (-44), 3) := by decide +kernel
theorem d_Mo_nowhere_89 : decode b_Mo_nowhere 89 = .ok (.iload_n 2, 1) := by decide +kernel
theorem d_Mo_nowhere_90 : decode b_Mo_nowhere 90 = .ok (.istore 5, 2) := by decide +kernel
theorem d_Mo_nowhere_92 : decode b_Mo_nowhere 92 = .ok (.iconst 0, 1) := by decide +kernel
theorem d_Mo_nowhere_93 : decode b_Mo_nowhere 93 = .ok (.istore 6, 2) := by decide +kernel
theorem d_Mo_nowhere_95 : decode b_Mo_nowhere 95 = .ok (.iload 6, 2) := by decide +kernel
theorem d_Mo_nowhere_97 : decode b_Mo_nowhere 97 = .ok (.bipush 8, 2) := by decide +kernel
theorem d_Mo_nowhere_99 : decode b_Mo_nowhere 99 = .ok (.if_icmp .ge 33, 3) := by decide +kernel
theorem d_Mo_nowhere_102 : decode b_Mo_nowhere 102 = .ok (.iload_n 3, 1) := by decide +kernel
theorem d_Mo_nowhere_103 : decode b_Mo_nowhere 103 = .ok (.bipush 7, 2) := by decide +kernel
theorem d_Mo_nowhere_105 : decode b_Mo_nowhere 105 = .ok (.iload 6, 2) := by decide +kernel
theorem d_Mo_nowhere_107 : decode b_Mo_nowhere 107 = .ok (.isub, 1) := by decide +kernel
theorem d_Mo_nowhere_108 : decode b_Mo_nowhere 108 = .ok (.ishr, 1) := by decide +kernel
theorem d_Mo_nowhere_109 : decode b_Mo_nowhere 109 = .ok (.iconst 1, 1) := by decide +kernel
theorem d_Mo_nowhere_110 : decode b_Mo_nowhere 110 = .ok (.iand, 1) := by decide +kernel
theorem d_Mo_nowhere_111 : decode b_Mo_nowhere 111 = .ok (.iconst 1, 1) := by decide +kernel
theorem d_Mo_nowhere_112 : decode b_Mo_nowhere 112 = .ok (.if_icmp .ne 14, 3) := by decide +kernel
theorem d_Mo_nowhere_115 : decode b_Mo_nowhere 115 = .ok (.iload 5, 2) := by decide +kernel
theorem d_Mo_nowhere_117 : decode b_Mo_nowhere 117 = .ok (.ifCond .ne 6, 3) := by decide +kernel
theorem d_Mo_nowhere_120 : decode b_Mo_nowhere 120 = .ok (.iload 6, 2) := by decide +kernel
theorem d_Mo_nowhere_122 : decode b_Mo_nowhere 122 = .ok (.ireturn, 1) := by decide +kernel
theorem d_Mo_nowhere_123 : decode b_Mo_nowhere 123 = .ok (.iinc 5 (-1), 3) := by decide +kernel
theorem d_Mo_nowhere_126 : decode b_Mo_nowhere 126 = .ok (.iinc 6 1, 3) := by decide +kernel
theorem d_Mo_nowhere_129 : decode b_Mo_nowhere 129 = .ok (.goto (-34), 3) := by decide +kernel
theorem d_Mo_nowhere_132 : decode b_Mo_nowhere 132 = .ok (.iconst (-1), 1) := by decide +kernel
theorem d_Mo_nowhere_133 : decode b_Mo_nowhere 133 = .ok (.ireturn, 1) := by decide +kernel
theorem d_Mo_risk_0 : decode b_Mo_risk 0 = .ok (.aload_n 0, 1) := by decide +kernel
theorem d_Mo_risk_1 : decode b_Mo_risk 1 = .ok (.iconst 0, 1) := by decide +kernel
theorem d_Mo_risk_2 : decode b_Mo_risk 2 = .ok (.putfield 79, 3) := by decide +kernel
theorem d_Mo_risk_5 : decode b_Mo_risk 5 = .ok (.iload_n 1, 1) := by decide +kernel
theorem d_Mo_risk_6 : decode b_Mo_risk 6 = .ok (.invokestatic 83, 3) := by decide +kernel
theorem d_Mo_risk_9 : decode b_Mo_risk 9 = .ok (.ifCond .eq 23, 3) := by decide +kernel
theorem d_Mo_risk_12 : decode b_Mo_risk 12 = .ok (.iload_n 3, 1) := by decide +kernel
theorem d_Mo_risk_13 : decode b_Mo_risk 13 = .ok (.iconst 1, 1) := by decide +kernel
theorem d_Mo_risk_14 : decode b_Mo_risk 14 = .ok (.if_icmp .lt 18, 3) := by decide +kernel
theorem d_Mo_risk_17 : decode b_Mo_risk 17 = .ok (.iload_n 3, 1) := by decide +kernel
theorem d_Mo_risk_18 : decode b_Mo_risk 18 = .ok (.bipush 10, 2) := by decide +kernel
theorem d_Mo_risk_20 : decode b_Mo_risk 20 = .ok (.if_icmp .gt 12, 3) := by decide +kernel
theorem d_Mo_risk_23 : decode b_Mo_risk 23 = .ok (.iload_n 2, 1) := by decide +kernel
theorem d_Mo_risk_24 : decode b_Mo_risk 24 = .ok (.ifCond .lt 8, 3) := by decide +kernel
theorem d_Mo_risk_27 : decode b_Mo_risk 27 = .ok (.iload_n 2, 1) := by decide +kernel
theorem d_Mo_risk_28 : decode b_Mo_risk 28 = .ok (.iload_n 3, 1) := by decide +kernel
theorem d_Mo_risk_29 : decode b_Mo_risk 29 = .ok (.if_icmp .le 5, 3) := by decide +kernel
theorem d_Mo_risk_32 : decode b_Mo_risk 32 = .ok (.iconst 0, 1) := by decide +kernel
theorem d_Mo_risk_33 : decode b_Mo_risk 33 = .ok (.ireturn, 1) := by decide +kernel
theorem d_Mo_risk_34 : decode b_Mo_risk 34 = .ok (.aload_n 0, 1) := by decide +kernel
theorem d_Mo_risk_35 : decode b_Mo_risk 35 = .ok (.getfield 48, 3) := by decide +kernel
theorem d_Mo_risk_38 : decode b_Mo_risk 38 = .ok (.iload_n 1, 1) := by decide +kernel
theorem d_Mo_risk_39 : decode b_Mo_risk 39 = .ok (.sipush 2520, 3) := by decide +kernel
theorem d_Mo_risk_42 : decode b_Mo_risk 42 = .ok (.iload_n 3, 1) := by decide +kernel
theorem d_Mo_risk_43 : decode b_Mo_risk 43 = .ok (.idiv, 1) := by decide +kernel
theorem d_Mo_risk_44 : decode b_Mo_risk 44 = .ok (.iload_n 2, 1) := by decide +kernel
theorem d_Mo_risk_45 : decode b_Mo_risk 45 = .ok (.imul, 1) := by decide +kernel
theorem d_Mo_risk_46 : decode b_Mo_risk 46 = .ok (.iastore, 1) := by decide +kernel
theorem d_Mo_risk_47 : decode b_Mo_risk 47 = .ok (.iconst 1, 1) := by decide +kernel
theorem d_Mo_risk_48 : decode b_Mo_risk 48 = .ok (.ireturn, 1) := by decide +kernel
theorem d_Mo_tryDraw_0 : decode b_Mo_tryDraw 0 = .ok (.lload_n 1, 1) := by decide +kernel
theorem d_Mo_tryDraw_1 : decode b_Mo_tryDraw 1 = .ok (.lstore 4, 2) := by decide +kernel
theorem d_Mo_tryDraw_3 : decode b_Mo_tryDraw 3 = .ok (.aload_n 0, 1) := by decide +kernel
theorem d_Mo_tryDraw_4 : decode b_Mo_tryDraw 4 = .ok (.iconst 0, 1) := by decide +kernel
theorem d_Mo_tryDraw_5 : decode b_Mo_tryDraw 5 = .ok (.putfield 130, 3) := by decide +kernel
theorem d_Mo_tryDraw_8 : decode b_Mo_tryDraw 8 = .ok (.iconst 0, 1) := by decide +kernel
theorem d_Mo_tryDraw_9 : decode b_Mo_tryDraw 9 = .ok (.istore 6, 2) := by decide +kernel
theorem d_Mo_tryDraw_11 : decode b_Mo_tryDraw 11 = .ok (.iconst 0, 1) := by decide +kernel
theorem d_Mo_tryDraw_12 : decode b_Mo_tryDraw 12 = .ok (.istore 7, 2) := by decide +kernel
theorem d_Mo_tryDraw_14 : decode b_Mo_tryDraw 14 = .ok (.iload 7, 2) := by decide +kernel
theorem d_Mo_tryDraw_16 : decode b_Mo_tryDraw 16 = .ok (.aload_n 0, 1) := by decide +kernel
theorem d_Mo_tryDraw_17 : decode b_Mo_tryDraw 17 = .ok (.getfield 7, 3) := by decide +kernel
theorem d_Mo_tryDraw_20 : decode b_Mo_tryDraw 20 = .ok (.iconst 0, 1) := by decide +kernel
theorem d_Mo_tryDraw_21 : decode b_Mo_tryDraw 21 = .ok (.iaload, 1) := by decide +kernel
theorem d_Mo_tryDraw_22 : decode b_Mo_tryDraw 22 = .ok (.if_icmp .ge 34, 3) := by decide +kernel
theorem d_Mo_tryDraw_25 : decode b_Mo_tryDraw 25 = .ok (.aload_n 0, 1) := by decide +kernel
theorem d_Mo_tryDraw_26 : decode b_Mo_tryDraw 26 = .ok (.getfield 57, 3) := by decide +kernel
theorem d_Mo_tryDraw_29 : decode b_Mo_tryDraw 29 = .ok (.iload 7, 2) := by decide +kernel
theorem d_Mo_tryDraw_31 : decode b_Mo_tryDraw 31 = .ok (.iconst 0, 1) := by decide +kernel
theorem d_Mo_tryDraw_32 : decode b_Mo_tryDraw 32 = .ok (.bastore, 1) := by decide +kernel
theorem d_Mo_tryDraw_33 : decode b_Mo_tryDraw 33 = .ok (.iload 6, 2) := by decide +kernel
theorem d_Mo_tryDraw_35 : decode b_Mo_tryDraw 35 = .ok (.aload_n 0, 1) := by decide +kernel
theorem d_Mo_tryDraw_36 : decode b_Mo_tryDraw 36 = .ok (.getfield 48, 3) := by decide +kernel
theorem d_Mo_tryDraw_39 : decode b_Mo_tryDraw 39 = .ok (.aload_n 0, 1) := by decide +kernel
theorem d_Mo_tryDraw_40 : decode b_Mo_tryDraw 40 = .ok (.getfield 13, 3) := by decide +kernel
theorem d_Mo_tryDraw_43 : decode b_Mo_tryDraw 43 = .ok (.iload 7, 2) := by decide +kernel
theorem d_Mo_tryDraw_45 : decode b_Mo_tryDraw 45 = .ok (.iaload, 1) := by decide +kernel
theorem d_Mo_tryDraw_46 : decode b_Mo_tryDraw 46 = .ok (.iaload, 1) := by decide +kernel
theorem d_Mo_tryDraw_47 : decode b_Mo_tryDraw 47 = .ok (.iadd, 1) := by decide +kernel
theorem d_Mo_tryDraw_48 : decode b_Mo_tryDraw 48 = .ok (.istore 6, 2) := by decide +kernel
theorem d_Mo_tryDraw_50 : decode b_Mo_tryDraw 50 = .ok (.iinc 7 1, 3) := by decide +kernel
theorem d_Mo_tryDraw_53 : decode b_Mo_tryDraw 53 = .ok (.goto (-39), 3) := by decide +kernel
theorem d_Mo_tryDraw_56 : decode b_Mo_tryDraw 56 = .ok (.aload_n 0, 1) := by decide +kernel
theorem d_Mo_tryDraw_57 : decode b_Mo_tryDraw 57 = .ok (.getfield 130, 3) := by decide +kernel
theorem d_Mo_tryDraw_60 : decode b_Mo_tryDraw 60 = .ok (.iload_n 3, 1) := by decide +kernel
theorem d_Mo_tryDraw_61 : decode b_Mo_tryDraw 61 = .ok (.if_icmp .ge 150, 3) := by decide +kernel
theorem d_Mo_tryDraw_64 : decode b_Mo_tryDraw 64 = .ok (.iload 6, 2) := by decide +kernel
theorem d_Mo_tryDraw_66 : decode b_Mo_tryDraw 66 = .ok (.ifCond .le 145, 3) := by decide +kernel
theorem d_Mo_tryDraw_69 : decode b_Mo_tryDraw 69 = .ok (.lload 4, 2) := by decide +kernel
theorem d_Mo_tryDraw_71 : decode b_Mo_tryDraw 71 = .ok (.ldc2_w 133, 3) := by decide +kernel
theorem d_Mo_tryDraw_74 : decode b_Mo_tryDraw 74 = .ok (.lmul, 1) := by decide +kernel
theorem d_Mo_tryDraw_75 : decode b_Mo_tryDraw 75 = .ok (.ldc2_w 135, 3) := by decide +kernel
theorem d_Mo_tryDraw_78 : decode b_Mo_tryDraw 78 = .ok (.ladd, 1) := by decide +kernel
theorem d_Mo_tryDraw_79 : decode b_Mo_tryDraw 79 = .ok (.lstore 4, 2) := by decide +kernel
theorem d_Mo_tryDraw_81 : decode b_Mo_tryDraw 81 = .ok (.lload 4, 2) := by decide +kernel
theorem d_Mo_tryDraw_83 : decode b_Mo_tryDraw 83 = .ok (.bipush 33, 2) := by decide +kernel
theorem d_Mo_tryDraw_85 : decode b_Mo_tryDraw 85 = .ok (.lushr, 1) := by decide +kernel
theorem d_Mo_tryDraw_86 : decode b_Mo_tryDraw 86 = .ok (.iload 6, 2) := by decide +kernel
theorem d_Mo_tryDraw_88 : decode b_Mo_tryDraw 88 = .ok (.i2l, 1) := by decide +kernel
theorem d_Mo_tryDraw_89 : decode b_Mo_tryDraw 89 = .ok (.lrem, 1) := by decide +kernel
theorem d_Mo_tryDraw_90 : decode b_Mo_tryDraw 90 = .ok (.lstore 7, 2) := by decide +kernel
theorem d_Mo_tryDraw_92 : decode b_Mo_tryDraw 92 = .ok (.iconst 0, 1) := by decide +kernel
theorem d_Mo_tryDraw_93 : decode b_Mo_tryDraw 93 = .ok (.istore 9, 2) := by decide +kernel
theorem d_Mo_tryDraw_95 : decode b_Mo_tryDraw 95 = .ok (.aload_n 0, 1) := by decide +kernel
theorem d_Mo_tryDraw_96 : decode b_Mo_tryDraw 96 = .ok (.getfield 57, 3) := by decide +kernel
theorem d_Mo_tryDraw_99 : decode b_Mo_tryDraw 99 = .ok (.iload 9, 2) := by decide +kernel
theorem d_Mo_tryDraw_101 : decode b_Mo_tryDraw 101 = .ok (.baload, 1) := by decide +kernel
theorem d_Mo_tryDraw_102 : decode b_Mo_tryDraw 102 = .ok (.ifCond .ne 22, 3) := by decide +kernel
theorem d_Mo_tryDraw_105 : decode b_Mo_tryDraw 105 = .ok (.lload 7, 2) := by decide +kernel
theorem d_Mo_tryDraw_107 : decode b_Mo_tryDraw 107 = .ok (.aload_n 0, 1) := by decide +kernel
theorem d_Mo_tryDraw_108 : decode b_Mo_tryDraw 108 = .ok (.getfield 48, 3) := by decide +kernel
theorem d_Mo_tryDraw_111 : decode b_Mo_tryDraw 111 = .ok (.aload_n 0, 1) := by decide +kernel
theorem d_Mo_tryDraw_112 : decode b_Mo_tryDraw 112 = .ok (.getfield 13, 3) := by decide +kernel
theorem d_Mo_tryDraw_115 : decode b_Mo_tryDraw 115 = .ok (.iload 9, 2) := by decide +kernel
theorem d_Mo_tryDraw_117 : decode b_Mo_tryDraw 117 = .ok (.iaload, 1) := by decide +kernel
theorem d_Mo_tryDraw_118 : decode b_Mo_tryDraw 118 = .ok (.iaload, 1) := by decide +kernel
theorem d_Mo_tryDraw_119 : decode b_Mo_tryDraw 119 = .ok (.i2l, 1) := by decide +kernel
theorem d_Mo_tryDraw_120 : decode b_Mo_tryDraw 120 = .ok (.lcmp, 1) := by decide +kernel
theorem d_Mo_tryDraw_121 : decode b_Mo_tryDraw 121 = .ok (.ifCond .lt 41, 3) := by decide +kernel
theorem d_Mo_tryDraw_124 : decode b_Mo_tryDraw 124 = .ok (.lload 7, 2) := by decide +kernel
theorem d_Mo_tryDraw_126 : decode b_Mo_tryDraw 126 = .ok (.aload_n 0, 1) := by decide +kernel
theorem d_Mo_tryDraw_127 : decode b_Mo_tryDraw 127 = .ok (.getfield 57, 3) := by decide +kernel
theorem d_Mo_tryDraw_130 : decode b_Mo_tryDraw 130 = .ok (.iload 9, 2) := by decide +kernel
theorem d_Mo_tryDraw_132 : decode b_Mo_tryDraw 132 = .ok (.baload, 1) := by decide +kernel
theorem d_Mo_tryDraw_133 : decode b_Mo_tryDraw 133 = .ok (.ifCond .eq 7, 3) := by decide +kernel
theorem d_Mo_tryDraw_136 : decode b_Mo_tryDraw 136 = .ok (.lconst 0, 1) := by decide +kernel
theorem d_Mo_tryDraw_137 : decode b_Mo_tryDraw 137 = .ok (.goto 16, 3) := by decide +kernel
theorem d_Mo_tryDraw_140 : decode b_Mo_tryDraw 140 = .ok (.aload_n 0, 1) := by decide +kernel
theorem d_Mo_tryDraw_141 : decode b_Mo_tryDraw 141 = .ok (.getfield 48, 3) := by decide +kernel
theorem d_Mo_tryDraw_144 : decode b_Mo_tryDraw 144 = .ok (.aload_n 0, 1) := by decide +kernel
theorem d_Mo_tryDraw_145 : decode b_Mo_tryDraw 145 = .ok (.getfield 13, 3) := by decide +kernel
theorem d_Mo_tryDraw_148 : decode b_Mo_tryDraw 148 = .ok (.iload 9, 2) := by decide +kernel
theorem d_Mo_tryDraw_150 : decode b_Mo_tryDraw 150 = .ok (.iaload, 1) := by decide +kernel
theorem d_Mo_tryDraw_151 : decode b_Mo_tryDraw 151 = .ok (.iaload, 1) := by decide +kernel
theorem d_Mo_tryDraw_152 : decode b_Mo_tryDraw 152 = .ok (.i2l, 1) := by decide +kernel
theorem d_Mo_tryDraw_153 : decode b_Mo_tryDraw 153 = .ok (.lsub, 1) := by decide +kernel
theorem d_Mo_tryDraw_154 : decode b_Mo_tryDraw 154 = .ok (.lstore 7, 2) := by decide +kernel
theorem d_Mo_tryDraw_156 : decode b_Mo_tryDraw 156 = .ok (.iinc 9 1, 3) := by decide +kernel
theorem d_Mo_tryDraw_159 : decode b_Mo_tryDraw 159 = .ok (.goto (-64), 3) := by decide +kernel
theorem d_Mo_tryDraw_162 : decode b_Mo_tryDraw 162 = .ok (.aload_n 0, 1) := by decide +kernel
theorem d_Mo_tryDraw_163 : decode b_Mo_tryDraw 163 = .ok (.getfield 57, 3) := by decide +kernel
theorem d_Mo_tryDraw_166 : decode b_Mo_tryDraw 166 = .ok (.iload 9, 2) := by decide +kernel
theorem d_Mo_tryDraw_168 : decode b_Mo_tryDraw 168 = .ok (.iconst 1, 1) := by decide +kernel
theorem d_Mo_tryDraw_169 : decode b_Mo_tryDraw 169 = .ok (.bastore, 1) := by decide +kernel
theorem d_Mo_tryDraw_170 : decode b_Mo_tryDraw 170 = .ok (.iload 6, 2) := by decide +kernel
theorem d_Mo_tryDraw_172 : decode b_Mo_tryDraw 172 = .ok (.aload_n 0, 1) := by decide +kernel
theorem d_Mo_tryDraw_173 : decode b_Mo_tryDraw 173 = .ok (.getfield 48, 3) := by decide +kernel
theorem d_Mo_tryDraw_176 : decode b_Mo_tryDraw 176 = .ok (.aload_n 0, 1) := by decide +kernel
theorem d_Mo_tryDraw_177 : decode b_Mo_tryDraw 177 = .ok (.getfield 13, 3) := by decide +kernel
theorem d_Mo_tryDraw_180 : decode b_Mo_tryDraw 180 = .ok (.iload 9, 2) := by decide +kernel
theorem d_Mo_tryDraw_182 : decode b_Mo_tryDraw 182 = .ok (.iaload, 1) := by decide +kernel
theorem d_Mo_tryDraw_183 : decode b_Mo_tryDraw 183 = .ok (.iaload, 1) := by decide +kernel
theorem d_Mo_tryDraw_184 : decode b_Mo_tryDraw 184 = .ok (.isub, 1) := by decide +kernel
theorem d_Mo_tryDraw_185 : decode b_Mo_tryDraw 185 = .ok (.istore 6, 2) := by decide +kernel
theorem d_Mo_tryDraw_187 : decode b_Mo_tryDraw 187 = .ok (.aload_n 0, 1) := by decide +kernel
theorem d_Mo_tryDraw_188 : decode b_Mo_tryDraw 188 = .ok (.getfield 54, 3) := by decide +kernel
theorem d_Mo_tryDraw_191 : decode b_Mo_tryDraw 191 = .ok (.aload_n 0, 1) := by decide +kernel
theorem d_Mo_tryDraw_192 : decode b_Mo_tryDraw 192 = .ok (.getfield 130, 3) := by decide +kernel
theorem d_Mo_tryDraw_195 : decode b_Mo_tryDraw 195 = .ok (.iload 9, 2) := by decide +kernel
theorem d_Mo_tryDraw_197 : decode b_Mo_tryDraw 197 = .ok (.iastore, 1) := by decide +kernel
theorem d_Mo_tryDraw_198 : decode b_Mo_tryDraw 198 = .ok (.aload_n 0, 1) := by decide +kernel
theorem d_Mo_tryDraw_199 : decode b_Mo_tryDraw 199 = .ok (.dup, 1) := by decide +kernel
theorem d_Mo_tryDraw_200 : decode b_Mo_tryDraw 200 = .ok (.getfield 130, 3) := by decide +kernel
theorem d_Mo_tryDraw_203 : decode b_Mo_tryDraw 203 = .ok (.iconst 1, 1) := by decide +kernel
theorem d_Mo_tryDraw_204 : decode b_Mo_tryDraw 204 = .ok (.iadd, 1) := by decide +kernel
theorem d_Mo_tryDraw_205 : decode b_Mo_tryDraw 205 = .ok (.putfield 130, 3) := by decide +kernel
theorem d_Mo_tryDraw_208 : decode b_Mo_tryDraw 208 = .ok (.goto (-152), 3) := by decide +kernel
theorem d_Mo_tryDraw_211 : decode b_Mo_tryDraw 211 = .ok (.return_, 1) := by decide +kernel
theorem d_Mo_draw_0 : decode b_Mo_draw 0 = .ok (.aload_n 0, 1) := by decide +kernel
theorem d_Mo_draw_1 : decode b_Mo_draw 1 = .ok (.iconst 0, 1) := by decide +kernel
theorem d_Mo_draw_2 : decode b_Mo_draw 2 = .ok (.putfield 79, 3) := by decide +kernel
theorem d_Mo_draw_5 : decode b_Mo_draw 5 = .ok (.iload_n 1, 1) := by decide +kernel
theorem d_Mo_draw_6 : decode b_Mo_draw 6 = .ok (.ifCond .lt 13, 3) := by decide +kernel
theorem d_Mo_draw_9 : decode b_Mo_draw 9 = .ok (.iload_n 1, 1) := by decide +kernel
theorem d_Mo_draw_10 : decode b_Mo_draw 10 = .ok (.aload_n 0, 1) := by decide +kernel
theorem d_Mo_draw_11 : decode b_Mo_draw 11 = .ok (.getfield 7, 3) := by decide +kernel
theorem d_Mo_draw_14 : decode b_Mo_draw 14 = .ok (.iconst 0, 1) := by decide +kernel
theorem d_Mo_draw_15 : decode b_Mo_draw 15 = .ok (.iaload, 1) := by decide +kernel
theorem d_Mo_draw_16 : decode b_Mo_draw 16 = .ok (.if_icmp .le 5, 3) := by decide +kernel
theorem d_Mo_draw_19 : decode b_Mo_draw 19 = .ok (.iconst (-1), 1) := by decide +kernel
theorem d_Mo_draw_20 : decode b_Mo_draw 20 = .ok (.ireturn, 1) := by decide +kernel
theorem d_Mo_draw_21 : decode b_Mo_draw 21 = .ok (.aload_n 0, 1) := by decide +kernel
theorem d_Mo_draw_22 : decode b_Mo_draw 22 = .ok (.aload_n 0, 1) := by decide +kernel
theorem d_Mo_draw_23 : decode b_Mo_draw 23 = .ok (.getfield 75, 3) := by decide +kernel
theorem d_Mo_draw_26 : decode b_Mo_draw 26 = .ok (.iload_n 1, 1) := by decide +kernel
theorem d_Mo_draw_27 : decode b_Mo_draw 27 = .ok (.invokevirtual 137, 3) := by decide +kernel
theorem d_Mo_draw_30 : decode b_Mo_draw 30 = .ok (.aload_n 0, 1) := by decide +kernel
theorem d_Mo_draw_31 : decode b_Mo_draw 31 = .ok (.iload_n 1, 1) := by decide +kernel
theorem d_Mo_draw_32 : decode b_Mo_draw 32 = .ok (.putfield 141, 3) := by decide +kernel
theorem d_Mo_draw_35 : decode b_Mo_draw 35 = .ok (.aload_n 0, 1) := by decide +kernel
theorem d_Mo_draw_36 : decode b_Mo_draw 36 = .ok (.aload_n 0, 1) := by decide +kernel
theorem d_Mo_draw_37 : decode b_Mo_draw 37 = .ok (.getfield 130, 3) := by decide +kernel
theorem d_Mo_draw_40 : decode b_Mo_draw 40 = .ok (.putfield 144, 3) := by decide +kernel
theorem d_Mo_draw_43 : decode b_Mo_draw 43 = .ok (.iconst 0, 1) := by decide +kernel
theorem d_Mo_draw_44 : decode b_Mo_draw 44 = .ok (.istore_n 2, 1) := by decide +kernel
theorem d_Mo_draw_45 : decode b_Mo_draw 45 = .ok (.iload_n 2, 1) := by decide +kernel
theorem d_Mo_draw_46 : decode b_Mo_draw 46 = .ok (.aload_n 0, 1) := by decide +kernel
theorem d_Mo_draw_47 : decode b_Mo_draw 47 = .ok (.getfield 130, 3) := by decide +kernel
theorem d_Mo_draw_50 : decode b_Mo_draw 50 = .ok (.if_icmp .ge 21, 3) := by decide +kernel
theorem d_Mo_draw_53 : decode b_Mo_draw 53 = .ok (.aload_n 0, 1) := by decide +kernel
theorem d_Mo_draw_54 : decode b_Mo_draw 54 = .ok (.getfield 51, 3) := by decide +kernel
theorem d_Mo_draw_57 : decode b_Mo_draw 57 = .ok (.iload_n 2, 1) := by decide +kernel
theorem d_Mo_draw_58 : decode b_Mo_draw 58 = .ok (.aload_n 0, 1) := by decide +kernel
theorem d_Mo_draw_59 : decode b_Mo_draw 59 = .ok (.getfield 54, 3) := by decide +kernel
theorem d_Mo_draw_62 : decode b_Mo_draw 62 = .ok (.iload_n 2, 1) := by decide +kernel
theorem d_Mo_draw_63 : decode b_Mo_draw 63 = .ok (.iaload, 1) := by decide +kernel
theorem d_Mo_draw_64 : decode b_Mo_draw 64 = .ok (.iastore, 1) := by decide +kernel
theorem d_Mo_draw_65 : decode b_Mo_draw 65 = .ok (.iinc 2 1, 3) := by decide +kernel
theorem d_Mo_draw_68 : decode b_Mo_draw 68 = .ok (.goto (-23), 3) := by decide +kernel
theorem d_Mo_draw_71 : decode b_Mo_draw 71 = .ok (.aload_n 0, 1) := by decide +kernel
theorem d_Mo_draw_72 : decode b_Mo_draw 72 = .ok (.getfield 144, 3) := by decide +kernel
theorem d_Mo_draw_75 : decode b_Mo_draw 75 = .ok (.ireturn, 1) := by decide +kernel
theorem d_Mo_drawn_0 : decode b_Mo_drawn 0 = .ok (.aload_n 0, 1) := by decide +kernel
theorem d_Mo_drawn_1 : decode b_Mo_drawn 1 = .ok (.iconst 0, 1) := by decide +kernel
theorem d_Mo_drawn_2 : decode b_Mo_drawn 2 = .ok (.putfield 79, 3) := by decide +kernel
theorem d_Mo_drawn_5 : decode b_Mo_drawn 5 = .ok (.iload_n 1, 1) := by decide +kernel
theorem d_Mo_drawn_6 : decode b_Mo_drawn 6 = .ok (.ifCond .lt 20, 3) := by decide +kernel
theorem d_Mo_drawn_9 : decode b_Mo_drawn 9 = .ok (.iload_n 1, 1) := by decide +kernel
theorem d_Mo_drawn_10 : decode b_Mo_drawn 10 = .ok (.aload_n 0, 1) := by decide +kernel
theorem d_Mo_drawn_11 : decode b_Mo_drawn 11 = .ok (.getfield 144, 3) := by decide +kernel
theorem d_Mo_drawn_14 : decode b_Mo_drawn 14 = .ok (.if_icmp .ge 12, 3) := by decide +kernel
theorem d_Mo_drawn_17 : decode b_Mo_drawn 17 = .ok (.aload_n 0, 1) := by decide +kernel
theorem d_Mo_drawn_18 : decode b_Mo_drawn 18 = .ok (.getfield 51, 3) := by decide +kernel
theorem d_Mo_drawn_21 : decode b_Mo_drawn 21 = .ok (.iload_n 1, 1) := by decide +kernel
theorem d_Mo_drawn_22 : decode b_Mo_drawn 22 = .ok (.iaload, 1) := by decide +kernel
theorem d_Mo_drawn_23 : decode b_Mo_drawn 23 = .ok (.goto 4, 3) := by decide +kernel
theorem d_Mo_drawn_26 : decode b_Mo_drawn 26 = .ok (.iconst (-1), 1) := by decide +kernel
theorem d_Mo_drawn_27 : decode b_Mo_drawn 27 = .ok (.ireturn, 1) := by decide +kernel
theorem d_Mo_same_0 : decode b_Mo_same 0 = .ok (.aload_n 0, 1) := by decide +kernel
theorem d_Mo_same_1 : decode b_Mo_same 1 = .ok (.iconst 0, 1) := by decide +kernel
theorem d_Mo_same_2 : decode b_Mo_same 2 = .ok (.putfield 79, 3) := by decide +kernel
theorem d_Mo_same_5 : decode b_Mo_same 5 = .ok (.aload_n 0, 1) := by decide +kernel
theorem d_Mo_same_6 : decode b_Mo_same 6 = .ok (.lload_n 1, 1) := by decide +kernel
theorem d_Mo_same_7 : decode b_Mo_same 7 = .ok (.aload_n 0, 1) := by decide +kernel
theorem d_Mo_same_8 : decode b_Mo_same 8 = .ok (.getfield 141, 3) := by decide +kernel
theorem d_Mo_same_11 : decode b_Mo_same 11 = .ok (.invokevirtual 137, 3) := by decide +kernel
theorem d_Mo_same_14 : decode b_Mo_same 14 = .ok (.aload_n 0, 1) := by decide +kernel
theorem d_Mo_same_15 : decode b_Mo_same 15 = .ok (.getfield 130, 3) := by decide +kernel
theorem d_Mo_same_18 : decode b_Mo_same 18 = .ok (.aload_n 0, 1) := by decide +kernel
theorem d_Mo_same_19 : decode b_Mo_same 19 = .ok (.getfield 144, 3) := by decide +kernel
theorem d_Mo_same_22 : decode b_Mo_same 22 = .ok (.if_icmp .ne 7, 3) := by decide +kernel
theorem d_Mo_same_25 : decode b_Mo_same 25 = .ok (.iconst 1, 1) := by decide +kernel
theorem d_Mo_same_26 : decode b_Mo_same 26 = .ok (.goto 4, 3) := by decide +kernel
theorem d_Mo_same_29 : decode b_Mo_same 29 = .ok (.iconst 0, 1) := by decide +kernel
theorem d_Mo_same_30 : decode b_Mo_same 30 = .ok (.istore_n 3, 1) := by decide +kernel
theorem d_Mo_same_31 : decode b_Mo_same 31 = .ok (.iconst 0, 1) := by decide +kernel
theorem d_Mo_same_32 : decode b_Mo_same 32 = .ok (.istore 4, 2) := by decide +kernel
theorem d_Mo_same_34 : decode b_Mo_same 34 = .ok (.iload 4, 2) := by decide +kernel
theorem d_Mo_same_36 : decode b_Mo_same 36 = .ok (.aload_n 0, 1) := by decide +kernel
theorem d_Mo_same_37 : decode b_Mo_same 37 = .ok (.getfield 144, 3) := by decide +kernel
theorem d_Mo_same_40 : decode b_Mo_same 40 = .ok (.if_icmp .ge 36, 3) := by decide +kernel
theorem d_Mo_same_43 : decode b_Mo_same 43 = .ok (.iload_n 3, 1) := by decide +kernel
theorem d_Mo_same_44 : decode b_Mo_same 44 = .ok (.ifCond .eq 32, 3) := by decide +kernel
theorem d_Mo_same_47 : decode b_Mo_same 47 = .ok (.aload_n 0, 1) := by decide +kernel
theorem d_Mo_same_48 : decode b_Mo_same 48 = .ok (.getfield 54, 3) := by decide +kernel
theorem d_Mo_same_51 : decode b_Mo_same 51 = .ok (.iload 4, 2) := by decide +kernel
theorem d_Mo_same_53 : decode b_Mo_same 53 = .ok (.iaload, 1) := by decide +kernel
theorem d_Mo_same_54 : decode b_Mo_same 54 = .ok (.aload_n 0, 1) := by decide +kernel
theorem d_Mo_same_55 : decode b_Mo_same 55 = .ok (.getfield 51, 3) := by decide +kernel
theorem d_Mo_same_58 : decode b_Mo_same 58 = .ok (.iload 4, 2) := by decide +kernel
theorem d_Mo_same_60 : decode b_Mo_same 60 = .ok (.iaload, 1) := by decide +kernel
theorem d_Mo_same_61 : decode b_Mo_same 61 = .ok (.if_icmp .ne 7, 3) := by decide +kernel
theorem d_Mo_same_64 : decode b_Mo_same 64 = .ok (.iconst 1, 1) := by decide +kernel
theorem d_Mo_same_65 : decode b_Mo_same 65 = .ok (.goto 4, 3) := by decide +kernel
theorem d_Mo_same_68 : decode b_Mo_same 68 = .ok (.iconst 0, 1) := by decide +kernel
theorem d_Mo_same_69 : decode b_Mo_same 69 = .ok (.istore_n 3, 1) := by decide +kernel
theorem d_Mo_same_70 : decode b_Mo_same 70 = .ok (.iinc 4 1, 3) := by decide +kernel
theorem d_Mo_same_73 : decode b_Mo_same 73 = .ok (.goto (-39), 3) := by decide +kernel
theorem d_Mo_same_76 : decode b_Mo_same 76 = .ok (.iload_n 3, 1) := by decide +kernel
theorem d_Mo_same_77 : decode b_Mo_same 77 = .ok (.ireturn, 1) := by decide +kernel
theorem d_Mo_missed_0 : decode b_Mo_missed 0 = .ok (.aload_n 0, 1) := by decide +kernel
theorem d_Mo_missed_1 : decode b_Mo_missed 1 = .ok (.iconst 0, 1) := by decide +kernel
theorem d_Mo_missed_2 : decode b_Mo_missed 2 = .ok (.putfield 79, 3) := by decide +kernel
theorem d_Mo_missed_5 : decode b_Mo_missed 5 = .ok (.aload_n 0, 1) := by decide +kernel
theorem d_Mo_missed_6 : decode b_Mo_missed 6 = .ok (.getfield 7, 3) := by decide +kernel
theorem d_Mo_missed_9 : decode b_Mo_missed 9 = .ok (.iconst 0, 1) := by decide +kernel
theorem d_Mo_missed_10 : decode b_Mo_missed 10 = .ok (.iaload, 1) := by decide +kernel
theorem d_Mo_missed_11 : decode b_Mo_missed 11 = .ok (.istore 4, 2) := by decide +kernel
theorem d_Mo_missed_13 : decode b_Mo_missed 13 = .ok (.iload_n 1, 1) := by decide +kernel
theorem d_Mo_missed_14 : decode b_Mo_missed 14 = .ok (.ifCond .lt 28, 3) := by decide +kernel
theorem d_Mo_missed_17 : decode b_Mo_missed 17 = .ok (.iload_n 1, 1) := by decide +kernel
theorem d_Mo_missed_18 : decode b_Mo_missed 18 = .ok (.iload 4, 2) := by decide +kernel
theorem d_Mo_missed_20 : decode b_Mo_missed 20 = .ok (.if_icmp .gt 22, 3) := by decide +kernel
theorem d_Mo_missed_23 : decode b_Mo_missed 23 = .ok (.iload_n 2, 1) := by decide +kernel
theorem d_Mo_missed_24 : decode b_Mo_missed 24 = .ok (.ifCond .lt 18, 3) := by decide +kernel
theorem d_Mo_missed_27 : decode b_Mo_missed 27 = .ok (.iload_n 2, 1) := by decide +kernel
theorem d_Mo_missed_28 : decode b_Mo_missed 28 = .ok (.iload 4, 2) := by decide +kernel
theorem d_Mo_missed_30 : decode b_Mo_missed 30 = .ok (.if_icmp .gt 12, 3) := by decide +kernel
theorem d_Mo_missed_33 : decode b_Mo_missed 33 = .ok (.iload_n 3, 1) := by decide +kernel
theorem d_Mo_missed_34 : decode b_Mo_missed 34 = .ok (.ifCond .lt 8, 3) := by decide +kernel
theorem d_Mo_missed_37 : decode b_Mo_missed 37 = .ok (.iload_n 3, 1) := by decide +kernel
theorem d_Mo_missed_38 : decode b_Mo_missed 38 = .ok (.iconst 1, 1) := by decide +kernel
theorem d_Mo_missed_39 : decode b_Mo_missed 39 = .ok (.if_icmp .le 7, 3) := by decide +kernel
theorem d_Mo_missed_42 : decode b_Mo_missed 42 = .ok (.ldc2_w 124, 3) := by decide +kernel
theorem d_Mo_missed_45 : decode b_Mo_missed 45 = .ok (.lreturn, 1) := by decide +kernel
theorem d_Mo_missed_46 : decode b_Mo_missed 46 = .ok (.aload_n 0, 1) := by decide +kernel
theorem d_Mo_missed_47 : decode b_Mo_missed 47 = .ok (.getfield 60, 3) := by decide +kernel
theorem d_Mo_missed_50 : decode b_Mo_missed 50 = .ok (.bipush 31, 2) := by decide +kernel
theorem d_Mo_missed_52 : decode b_Mo_missed 52 = .ok (.iload 4, 2) := by decide +kernel
theorem d_Mo_missed_54 : decode b_Mo_missed 54 = .ok (.iload_n 2, 1) := by decide +kernel
theorem d_Mo_missed_55 : decode b_Mo_missed 55 = .ok (.isub, 1) := by decide +kernel
theorem d_Mo_missed_56 : decode b_Mo_missed 56 = .ok (.imul, 1) := by decide +kernel
theorem d_Mo_missed_57 : decode b_Mo_missed 57 = .ok (.iload_n 1, 1) := by decide +kernel
theorem d_Mo_missed_58 : decode b_Mo_missed 58 = .ok (.iadd, 1) := by decide +kernel
theorem d_Mo_missed_59 : decode b_Mo_missed 59 = .ok (.laload, 1) := by decide +kernel
theorem d_Mo_missed_60 : decode b_Mo_missed 60 = .ok (.lstore 5, 2) := by decide +kernel
theorem d_Mo_missed_62 : decode b_Mo_missed 62 = .ok (.aload_n 0, 1) := by decide +kernel
theorem d_Mo_missed_63 : decode b_Mo_missed 63 = .ok (.getfield 60, 3) := by decide +kernel
theorem d_Mo_missed_66 : decode b_Mo_missed 66 = .ok (.bipush 31, 2) := by decide +kernel
theorem d_Mo_missed_68 : decode b_Mo_missed 68 = .ok (.iload 4, 2) := by decide +kernel
theorem d_Mo_missed_70 : decode b_Mo_missed 70 = .ok (.imul, 1) := by decide +kernel
theorem d_Mo_missed_71 : decode b_Mo_missed 71 = .ok (.iload_n 1, 1) := by decide +kernel
theorem d_Mo_missed_72 : decode b_Mo_missed 72 = .ok (.iadd, 1) := by decide +kernel
theorem d_Mo_missed_73 : decode b_Mo_missed 73 = .ok (.laload, 1) := by decide +kernel
theorem d_Mo_missed_74 : decode b_Mo_missed 74 = .ok (.lstore 7, 2) := by decide +kernel
theorem d_Mo_missed_76 : decode b_Mo_missed 76 = .ok (.iload_n 1, 1) := by decide +kernel
theorem d_Mo_missed_77 : decode b_Mo_missed 77 = .ok (.iload 4, 2) := by decide +kernel
theorem d_Mo_missed_79 : decode b_Mo_missed 79 = .ok (.iload_n 2, 1) := by decide +kernel
theorem d_Mo_missed_80 : decode b_Mo_missed 80 = .ok (.isub, 1) := by decide +kernel
theorem d_Mo_missed_81 : decode b_Mo_missed 81 = .ok (.if_icmp .le 6, 3) := by decide +kernel
theorem d_Mo_missed_84 : decode b_Mo_missed 84 = .ok (.iload_n 3, 1) := by decide +kernel
theorem d_Mo_missed_85 : decode b_Mo_missed 85 = .ok (.i2l, 1) := by decide +kernel
theorem d_Mo_missed_86 : decode b_Mo_missed 86 = .ok (.lreturn, 1) := by decide +kernel
theorem d_Mo_missed_87 : decode b_Mo_missed 87 = .ok (.lload 7, 2) := by decide +kernel
theorem d_Mo_missed_89 : decode b_Mo_missed 89 = .ok (.lstore 9, 2) := by decide +kernel
theorem d_Mo_missed_91 : decode b_Mo_missed 91 = .ok (.lload 5, 2) := by decide +kernel
theorem d_Mo_missed_93 : decode b_Mo_missed 93 = .ok (.lstore 11, 2) := by decide +kernel
theorem d_Mo_missed_95 : decode b_Mo_missed 95 = .ok (.lload 11, 2) := by decide +kernel
theorem d_Mo_missed_97 : decode b_Mo_missed 97 = .ok (.lconst 0, 1) := by decide +kernel
theorem d_Mo_missed_98 : decode b_Mo_missed 98 = .ok (.lcmp, 1) := by decide +kernel
theorem d_Mo_missed_99 : decode b_Mo_missed 99 = .ok (.ifCond .le 21, 3) := by decide +kernel
theorem d_Mo_missed_102 : decode b_Mo_missed 102 = .ok (.lload 9, 2) := by decide +kernel
theorem d_Mo_missed_104 : decode b_Mo_missed 104 = .ok (.lload 11, 2) := by decide +kernel
theorem d_Mo_missed_106 : decode b_Mo_missed 106 = .ok (.lrem, 1) := by decide +kernel
theorem d_Mo_missed_107 : decode b_Mo_missed 107 = .ok (.lstore 13, 2) := by decide +kernel
theorem d_Mo_missed_109 : decode b_Mo_missed 109 = .ok (.lload 11, 2) := by decide +kernel
theorem d_Mo_missed_111 : decode b_Mo_missed 111 = .ok (.lstore 9, 2) := by decide +kernel
theorem d_Mo_missed_113 : decode b_Mo_missed 113 = .ok (.lload 13, 2) := by decide +kernel
theorem d_Mo_missed_115 : decode b_Mo_missed 115 = .ok (.lstore 11, 2) := by decide +kernel
theorem d_Mo_missed_117 : decode b_Mo_missed 117 = .ok (.goto (-22), 3) := by decide +kernel
theorem d_Mo_missed_120 : decode b_Mo_missed 120 = .ok (.iload_n 3, 1) := by decide +kernel
theorem d_Mo_missed_121 : decode b_Mo_missed 121 = .ok (.ifCond .ne 11, 3) := by decide +kernel
theorem d_Mo_missed_124 : decode b_Mo_missed 124 = .ok (.lload 5, 2) := by decide +kernel
theorem d_Mo_missed_126 : decode b_Mo_missed 126 = .ok (.lload 9, 2) := by decide +kernel
theorem d_Mo_missed_128 : decode b_Mo_missed 128 = .ok (.ldiv, 1) := by decide +kernel
theorem d_Mo_missed_129 : decode b_Mo_missed 129 = .ok (.goto 8, 3) := by decide +kernel
theorem d_Mo_missed_132 : decode b_Mo_missed 132 = .ok (.lload 7, 2) := by decide +kernel
theorem d_Mo_missed_134 : decode b_Mo_missed 134 = .ok (.lload 9, 2) := by decide +kernel
theorem d_Mo_missed_136 : decode b_Mo_missed 136 = .ok (.ldiv, 1) := by decide +kernel
theorem d_Mo_missed_137 : decode b_Mo_missed 137 = .ok (.lreturn, 1) := by decide +kernel
theorem d_Mo_camera_0 : decode b_Mo_camera 0 = .ok (.aload_n 0, 1) := by decide +kernel
theorem d_Mo_camera_1 : decode b_Mo_camera 1 = .ok (.iconst 0, 1) := by decide +kernel
theorem d_Mo_camera_2 : decode b_Mo_camera 2 = .ok (.putfield 79, 3) := by decide +kernel
theorem d_Mo_camera_5 : decode b_Mo_camera 5 = .ok (.iconst 0, 1) := by decide +kernel
theorem d_Mo_camera_6 : decode b_Mo_camera 6 = .ok (.istore_n 3, 1) := by decide +kernel
theorem d_Mo_camera_7 : decode b_Mo_camera 7 = .ok (.iload_n 3, 1) := by decide +kernel
theorem d_Mo_camera_8 : decode b_Mo_camera 8 = .ok (.aload_n 0, 1) := by decide +kernel
theorem d_Mo_camera_9 : decode b_Mo_camera 9 = .ok (.getfield 7, 3) := by decide +kernel
theorem d_Mo_camera_12 : decode b_Mo_camera 12 = .ok (.iconst 0, 1) := by decide +kernel
theorem d_Mo_camera_13 : decode b_Mo_camera 13 = .ok (.iaload, 1) := by decide +kernel
theorem d_Mo_camera_14 : decode b_Mo_camera 14 = .ok (.if_icmp .ge 16, 3) := by decide +kernel
theorem d_Mo_camera_17 : decode b_Mo_camera 17 = .ok (.aload_n 0, 1) := by decide +kernel
theorem d_Mo_camera_18 : decode b_Mo_camera 18 = .ok (.getfield 63, 3) := by decide +kernel
theorem d_Mo_camera_21 : decode b_Mo_camera 21 = .ok (.iload_n 3, 1) := by decide +kernel
theorem d_Mo_camera_22 : decode b_Mo_camera 22 = .ok (.iconst 0, 1) := by decide +kernel
theorem d_Mo_camera_23 : decode b_Mo_camera 23 = .ok (.bastore, 1) := by decide +kernel
theorem d_Mo_camera_24 : decode b_Mo_camera 24 = .ok (.iinc 3 1, 3) := by decide +kernel
theorem d_Mo_camera_27 : decode b_Mo_camera 27 = .ok (.goto (-20), 3) := by decide +kernel
theorem d_Mo_camera_30 : decode b_Mo_camera 30 = .ok (.iload_n 2, 1) := by decide +kernel
theorem d_Mo_camera_31 : decode b_Mo_camera 31 = .ok (.i2l, 1) := by decide +kernel
theorem d_Mo_camera_32 : decode b_Mo_camera 32 = .ok (.lstore_n 3, 1) := by decide +kernel
theorem d_Mo_camera_33 : decode b_Mo_camera 33 = .ok (.iconst 0, 1) := by decide +kernel
theorem d_Mo_camera_34 : decode b_Mo_camera 34 = .ok (.istore 5, 2) := by decide +kernel
theorem d_Mo_camera_36 : decode b_Mo_camera 36 = .ok (.iconst 1, 1) := by decide +kernel
theorem d_Mo_camera_37 : decode b_Mo_camera 37 = .ok (.istore 6, 2) := by decide +kernel
theorem d_Mo_camera_39 : decode b_Mo_camera 39 = .ok (.iload 6, 2) := by decide +kernel
theorem d_Mo_camera_41 : decode b_Mo_camera 41 = .ok (.ifCond .eq 164, 3) := by decide +kernel
theorem d_Mo_camera_44 : decode b_Mo_camera 44 = .ok (.iconst (-1), 1) := by decide +kernel
theorem d_Mo_camera_45 : decode b_Mo_camera 45 = .ok (.istore 7, 2) := by decide +kernel
theorem d_Mo_camera_47 : decode b_Mo_camera 47 = .ok (.iconst 0, 1) := by decide +kernel
theorem d_Mo_camera_48 : decode b_Mo_camera 48 = .ok (.istore 8, 2) := by decide +kernel
theorem d_Mo_camera_50 : decode b_Mo_camera 50 = .ok (.iload 8, 2) := by decide +kernel
theorem d_Mo_camera_52 : decode b_Mo_camera 52 = .ok (.aload_n 0, 1) := by decide +kernel
theorem d_Mo_camera_53 : decode b_Mo_camera 53 = .ok (.getfield 7, 3) := by decide +kernel
theorem d_Mo_camera_56 : decode b_Mo_camera 56 = .ok (.iconst 0, 1) := by decide +kernel
theorem d_Mo_camera_57 : decode b_Mo_camera 57 = .ok (.iaload, 1) := by decide +kernel
theorem d_Mo_camera_58 : decode b_Mo_camera 58 = .ok (.if_icmp .ge 74, 3) := by decide +kernel
theorem d_Mo_camera_61 : decode b_Mo_camera 61 = .ok (.aload_n 0, 1) := by decide +kernel
theorem d_Mo_camera_62 : decode b_Mo_camera 62 = .ok (.getfield 63, 3) := by decide +kernel
theorem d_Mo_camera_65 : decode b_Mo_camera 65 = .ok (.iload 8, 2) := by decide +kernel
theorem d_Mo_camera_67 : decode b_Mo_camera 67 = .ok (.baload, 1) := by decide +kernel
theorem d_Mo_camera_68 : decode b_Mo_camera 68 = .ok (.ifCond .ne 18, 3) := by decide +kernel
theorem d_Mo_camera_71 : decode b_Mo_camera 71 = .ok (.aload_n 0, 1) := by decide +kernel
theorem d_Mo_camera_72 : decode b_Mo_camera 72 = .ok (.getfield 13, 3) := by decide +kernel
theorem d_Mo_camera_75 : decode b_Mo_camera 75 = .ok (.iload 8, 2) := by decide +kernel
theorem d_Mo_camera_77 : decode b_Mo_camera 77 = .ok (.iaload, 1) := by decide +kernel
theorem d_Mo_camera_78 : decode b_Mo_camera 78 = .ok (.iload_n 1, 1) := by decide +kernel
theorem d_Mo_camera_79 : decode b_Mo_camera 79 = .ok (.if_icmp .ne 7, 3) := by decide +kernel
theorem d_Mo_camera_82 : decode b_Mo_camera 82 = .ok (.iconst 1, 1) := by decide +kernel
theorem d_Mo_camera_83 : decode b_Mo_camera 83 = .ok (.goto 4, 3) := by decide +kernel
theorem d_Mo_camera_86 : decode b_Mo_camera 86 = .ok (.iconst 0, 1) := by decide +kernel
theorem d_Mo_camera_87 : decode b_Mo_camera 87 = .ok (.istore 9, 2) := by decide +kernel
theorem d_Mo_camera_89 : decode b_Mo_camera 89 = .ok (.iload 9, 2) := by decide +kernel
theorem d_Mo_camera_91 : decode b_Mo_camera 91 = .ok (.ifCond .eq 31, 3) := by decide +kernel
theorem d_Mo_camera_94 : decode b_Mo_camera 94 = .ok (.iload 7, 2) := by decide +kernel
theorem d_Mo_camera_96 : decode b_Mo_camera 96 = .ok (.ifCond .lt 21, 3) := by decide +kernel
theorem d_Mo_camera_99 : decode b_Mo_camera 99 = .ok (.aload_n 0, 1) := by decide +kernel
theorem d_Mo_camera_100 : decode b_Mo_camera 100 = .ok (.getfield 22, 3) := by decide +kernel
theorem d_Mo_camera_103 : decode b_Mo_camera 103 = .ok (.iload 8, 2) := by decide +kernel
theorem d_Mo_camera_105 : decode b_Mo_camera 105 = .ok (.laload, 1) := by decide +kernel
theorem d_Mo_camera_106 : decode b_Mo_camera 106 = .ok (.aload_n 0, 1) := by decide +kernel
theorem d_Mo_camera_107 : decode b_Mo_camera 107 = .ok (.getfield 22, 3) := by decide +kernel
theorem d_Mo_camera_110 : decode b_Mo_camera 110 = .ok (.iload 7, 2) := by decide +kernel
theorem d_Mo_camera_112 : decode b_Mo_camera 112 = .ok (.laload, 1) := by decide +kernel
theorem d_Mo_camera_113 : decode b_Mo_camera 113 = .ok (.lcmp, 1) := by decide +kernel
theorem d_Mo_camera_114 : decode b_Mo_camera 114 = .ok (.ifCond .ge 8, 3) := by decide +kernel
theorem d_Mo_camera_117 : decode b_Mo_camera 117 = .ok (.iload 8, 2) := by decide +kernel
theorem d_Mo_camera_119 : decode b_Mo_camera 119 = .ok (.goto 5, 3) := by decide +kernel
theorem d_Mo_camera_122 : decode b_Mo_camera 122 = .ok (.iload 7, 2) := by decide +kernel
theorem d_Mo_camera_124 : decode b_Mo_camera 124 = .ok (.istore 7, 2) := by decide +kernel
theorem d_Mo_camera_126 : decode b_Mo_camera 126 = .ok (.iinc 8 1, 3) := by decide +kernel
theorem d_Mo_camera_129 : decode b_Mo_camera 129 = .ok (.goto (-79), 3) := by decide +kernel
theorem d_Mo_camera_132 : decode b_Mo_camera 132 = .ok (.iload 7, 2) := by decide +kernel
theorem d_Mo_camera_134 : decode b_Mo_camera 134 = .ok (.ifCond .ge 7, 3) := by decide +kernel
theorem d_Mo_camera_137 : decode b_Mo_camera 137 = .ok (.lconst 0, 1) := by decide +kernel
theorem d_Mo_camera_138 : decode b_Mo_camera 138 = .ok (.goto 22, 3) := by decide +kernel
theorem d_Mo_camera_141 : decode b_Mo_camera 141 = .ok (.ldc2_w 147, 3) := by decide +kernel
theorem d_Mo_camera_144 : decode b_Mo_camera 144 = .ok (.aload_n 0, 1) := by decide +kernel
theorem d_Mo_camera_145 : decode b_Mo_camera 145 = .ok (.getfield 22, 3) := by decide +kernel
theorem d_Mo_camera_148 : decode b_Mo_camera 148 = .ok (.iload 7, 2) := by decide +kernel
theorem d_Mo_camera_150 : decode b_Mo_camera 150 = .ok (.laload, 1) := by decide +kernel
theorem d_Mo_camera_151 : decode b_Mo_camera 151 = .ok (.ldc2_w 149, 3) := by decide +kernel
theorem d_Mo_camera_154 : decode b_Mo_camera 154 = .ok (.ladd, 1) := by decide +kernel
theorem d_Mo_camera_155 : decode b_Mo_camera 155 = .ok (.ldc2_w 87, 3) := by decide +kernel
theorem d_Mo_camera_158 : decode b_Mo_camera 158 = .ok (.ldiv, 1) := by decide +kernel
theorem d_Mo_camera_159 : decode b_Mo_camera 159 = .ok (.ladd, 1) := by decide +kernel
theorem d_Mo_camera_160 : decode b_Mo_camera 160 = .ok (.lstore 8, 2) := by decide +kernel
theorem d_Mo_camera_162 : decode b_Mo_camera 162 = .ok (.iload 7, 2) := by decide +kernel
theorem d_Mo_camera_164 : decode b_Mo_camera 164 = .ok (.ifCond .lt 14, 3) := by decide +kernel
theorem d_Mo_camera_167 : decode b_Mo_camera 167 = .ok (.lload 8, 2) := by decide +kernel
theorem d_Mo_camera_169 : decode b_Mo_camera 169 = .ok (.lload_n 3, 1) := by decide +kernel
theorem d_Mo_camera_170 : decode b_Mo_camera 170 = .ok (.lcmp, 1) := by decide +kernel
theorem d_Mo_camera_171 : decode b_Mo_camera 171 = .ok (.ifCond .gt 7, 3) := by decide +kernel
theorem d_Mo_camera_174 : decode b_Mo_camera 174 = .ok (.iconst 1, 1) := by decide +kernel
theorem d_Mo_camera_175 : decode b_Mo_camera 175 = .ok (.goto 4, 3) := by decide +kernel
theorem d_Mo_camera_178 : decode b_Mo_camera 178 = .ok (.iconst 0, 1) := by decide +kernel
theorem d_Mo_camera_179 : decode b_Mo_camera 179 = .ok (.istore 6, 2) := by decide +kernel
theorem d_Mo_camera_181 : decode b_Mo_camera 181 = .ok (.iload 6, 2) := by decide +kernel
theorem d_Mo_camera_183 : decode b_Mo_camera 183 = .ok (.ifCond .eq 19, 3) := by decide +kernel
theorem d_Mo_camera_186 : decode b_Mo_camera 186 = .ok (.aload_n 0, 1) := by decide +kernel
theorem d_Mo_camera_187 : decode b_Mo_camera 187 = .ok (.getfield 63, 3) := by decide +kernel
theorem d_Mo_camera_190 : decode b_Mo_camera 190 = .ok (.iload 7, 2) := by decide +kernel
theorem d_Mo_camera_192 : decode b_Mo_camera 192 = .ok (.iconst 1, 1) := by decide +kernel
theorem d_Mo_camera_193 : decode b_Mo_camera 193 = .ok (.bastore, 1) := by decide +kernel
theorem d_Mo_camera_194 : decode b_Mo_camera 194 = .ok (.lload_n 3, 1) := by decide +kernel
theorem d_Mo_camera_195 : decode b_Mo_camera 195 = .ok (.lload 8, 2) := by decide +kernel
theorem d_Mo_camera_197 : decode b_Mo_camera 197 = .ok (.lsub, 1) := by decide +kernel
theorem d_Mo_camera_198 : decode b_Mo_camera 198 = .ok (.lstore_n 3, 1) := by decide +kernel
theorem d_Mo_camera_199 : decode b_Mo_camera 199 = .ok (.iinc 5 1, 3) := by decide +kernel
theorem d_Mo_camera_202 : decode b_Mo_camera 202 = .ok (.goto (-163), 3) := by decide +kernel
theorem d_Mo_camera_205 : decode b_Mo_camera 205 = .ok (.iload 5, 2) := by decide +kernel
theorem d_Mo_camera_207 : decode b_Mo_camera 207 = .ok (.ireturn, 1) := by decide +kernel
theorem d_Mo_next_0 : decode b_Mo_next 0 = .ok (.iload_n 1, 1) := by decide +kernel
theorem d_Mo_next_1 : decode b_Mo_next 1 = .ok (.tableswitch 62 0 2 #[27, 40, 51], 27) := by decide +kernel
theorem d_Mo_next_28 : decode b_Mo_next 28 = .ok (.iload_n 0, 1) := by decide +kernel
theorem d_Mo_next_29 : decode b_Mo_next 29 = .ok (.iconst 3, 1) := by decide +kernel
theorem d_Mo_next_30 : decode b_Mo_next 30 = .ok (.if_icmp .ge 9, 3) := by decide +kernel
theorem d_Mo_next_33 : decode b_Mo_next 33 = .ok (.iload_n 0, 1) := by decide +kernel
theorem d_Mo_next_34 : decode b_Mo_next 34 = .ok (.iconst 1, 1) := by decide +kernel
theorem d_Mo_next_35 : decode b_Mo_next 35 = .ok (.iadd, 1) := by decide +kernel
theorem d_Mo_next_36 : decode b_Mo_next 36 = .ok (.goto 4, 3) := by decide +kernel
theorem d_Mo_next_39 : decode b_Mo_next 39 = .ok (.iconst (-1), 1) := by decide +kernel
theorem d_Mo_next_40 : decode b_Mo_next 40 = .ok (.ireturn, 1) := by decide +kernel
theorem d_Mo_next_41 : decode b_Mo_next 41 = .ok (.iload_n 0, 1) := by decide +kernel
theorem d_Mo_next_42 : decode b_Mo_next 42 = .ok (.iconst 2, 1) := by decide +kernel
theorem d_Mo_next_43 : decode b_Mo_next 43 = .ok (.if_icmp .ne 7, 3) := by decide +kernel
theorem d_Mo_next_46 : decode b_Mo_next 46 = .ok (.iconst 1, 1) := by decide +kernel
theorem d_Mo_next_47 : decode b_Mo_next 47 = .ok (.goto 4, 3) := by decide +kernel
theorem d_Mo_next_50 : decode b_Mo_next 50 = .ok (.iconst (-1), 1) := by decide +kernel
theorem d_Mo_next_51 : decode b_Mo_next 51 = .ok (.ireturn, 1) := by decide +kernel
theorem d_Mo_next_52 : decode b_Mo_next 52 = .ok (.iload_n 0, 1) := by decide +kernel
theorem d_Mo_next_53 : decode b_Mo_next 53 = .ok (.iconst 3, 1) := by decide +kernel
theorem d_Mo_next_54 : decode b_Mo_next 54 = .ok (.if_icmp .ne 7, 3) := by decide +kernel
theorem d_Mo_next_57 : decode b_Mo_next 57 = .ok (.iconst 2, 1) := by decide +kernel
theorem d_Mo_next_58 : decode b_Mo_next 58 = .ok (.goto 4, 3) := by decide +kernel
theorem d_Mo_next_61 : decode b_Mo_next 61 = .ok (.iconst (-1), 1) := by decide +kernel
theorem d_Mo_next_62 : decode b_Mo_next 62 = .ok (.ireturn, 1) := by decide +kernel
theorem d_Mo_next_63 : decode b_Mo_next 63 = .ok (.iload_n 0, 1) := by decide +kernel
theorem d_Mo_next_64 : decode b_Mo_next 64 = .ok (.iconst 1, 1) := by decide +kernel
theorem d_Mo_next_65 : decode b_Mo_next 65 = .ok (.if_icmp .ne 7, 3) := by decide +kernel
theorem d_Mo_next_68 : decode b_Mo_next 68 = .ok (.iconst 0, 1) := by decide +kernel
theorem d_Mo_next_69 : decode b_Mo_next 69 = .ok (.goto 4, 3) := by decide +kernel
theorem d_Mo_next_72 : decode b_Mo_next 72 = .ok (.iconst (-1), 1) := by decide +kernel
theorem d_Mo_next_73 : decode b_Mo_next 73 = .ok (.ireturn, 1) := by decide +kernel
theorem d_Mo_act_0 : decode b_Mo_act 0 = .ok (.aload_n 0, 1) := by decide +kernel
theorem d_Mo_act_1 : decode b_Mo_act 1 = .ok (.iconst 0, 1) := by decide +kernel
theorem d_Mo_act_2 : decode b_Mo_act 2 = .ok (.putfield 79, 3) := by decide +kernel
theorem d_Mo_act_5 : decode b_Mo_act 5 = .ok (.iload_n 1, 1) := by decide +kernel
theorem d_Mo_act_6 : decode b_Mo_act 6 = .ok (.invokestatic 83, 3) := by decide +kernel
theorem d_Mo_act_9 : decode b_Mo_act 9 = .ok (.ifCond .eq 32, 3) := by decide +kernel
theorem d_Mo_act_12 : decode b_Mo_act 12 = .ok (.iload_n 2, 1) := by decide +kernel
theorem d_Mo_act_13 : decode b_Mo_act 13 = .ok (.ifCond .lt 28, 3) := by decide +kernel
theorem d_Mo_act_16 : decode b_Mo_act 16 = .ok (.iload_n 2, 1) := by decide +kernel
theorem d_Mo_act_17 : decode b_Mo_act 17 = .ok (.iconst 3, 1) := by decide +kernel
theorem d_Mo_act_18 : decode b_Mo_act 18 = .ok (.if_icmp .gt 23, 3) := by decide +kernel
theorem d_Mo_act_21 : decode b_Mo_act 21 = .ok (.iload_n 3, 1) := by decide +kernel
theorem d_Mo_act_22 : decode b_Mo_act 22 = .ok (.ifCond .lt 19, 3) := by decide +kernel
theorem d_Mo_act_25 : decode b_Mo_act 25 = .ok (.iload_n 3, 1) := by decide +kernel
theorem d_Mo_act_26 : decode b_Mo_act 26 = .ok (.bipush 99, 2) := by decide +kernel
theorem d_Mo_act_28 : decode b_Mo_act 28 = .ok (.if_icmp .gt 13, 3) := by decide +kernel
theorem d_Mo_act_31 : decode b_Mo_act 31 = .ok (.aload_n 0, 1) := by decide +kernel
theorem d_Mo_act_32 : decode b_Mo_act 32 = .ok (.getfield 69, 3) := by decide +kernel
theorem d_Mo_act_35 : decode b_Mo_act 35 = .ok (.iload_n 1, 1) := by decide +kernel
theorem d_Mo_act_36 : decode b_Mo_act 36 = .ok (.iaload, 1) := by decide +kernel
theorem d_Mo_act_37 : decode b_Mo_act 37 = .ok (.iload_n 3, 1) := by decide +kernel
theorem d_Mo_act_38 : decode b_Mo_act 38 = .ok (.if_icmp .ne 5, 3) := by decide +kernel
theorem d_Mo_act_41 : decode b_Mo_act 41 = .ok (.iconst (-1), 1) := by decide +kernel
theorem d_Mo_act_42 : decode b_Mo_act 42 = .ok (.ireturn, 1) := by decide +kernel
theorem d_Mo_act_43 : decode b_Mo_act 43 = .ok (.aload_n 0, 1) := by decide +kernel
theorem d_Mo_act_44 : decode b_Mo_act 44 = .ok (.getfield 66, 3) := by decide +kernel
theorem d_Mo_act_47 : decode b_Mo_act 47 = .ok (.iload_n 1, 1) := by decide +kernel
theorem d_Mo_act_48 : decode b_Mo_act 48 = .ok (.iaload, 1) := by decide +kernel
theorem d_Mo_act_49 : decode b_Mo_act 49 = .ok (.iload_n 2, 1) := by decide +kernel
theorem d_Mo_act_50 : decode b_Mo_act 50 = .ok (.invokestatic 151, 3) := by decide +kernel
theorem d_Mo_act_53 : decode b_Mo_act 53 = .ok (.istore 4, 2) := by decide +kernel
theorem d_Mo_act_55 : decode b_Mo_act 55 = .ok (.iload 4, 2) := by decide +kernel
theorem d_Mo_act_57 : decode b_Mo_act 57 = .ok (.ifCond .ge 5, 3) := by decide +kernel
theorem d_Mo_act_60 : decode b_Mo_act 60 = .ok (.iconst (-1), 1) := by decide +kernel
theorem d_Mo_act_61 : decode b_Mo_act 61 = .ok (.ireturn, 1) := by decide +kernel
theorem d_Mo_act_62 : decode b_Mo_act 62 = .ok (.aload_n 0, 1) := by decide +kernel
theorem d_Mo_act_63 : decode b_Mo_act 63 = .ok (.getfield 66, 3) := by decide +kernel
theorem d_Mo_act_66 : decode b_Mo_act 66 = .ok (.iload_n 1, 1) := by decide +kernel
theorem d_Mo_act_67 : decode b_Mo_act 67 = .ok (.iload 4, 2) := by decide +kernel
theorem d_Mo_act_69 : decode b_Mo_act 69 = .ok (.iastore, 1) := by decide +kernel
theorem d_Mo_act_70 : decode b_Mo_act 70 = .ok (.aload_n 0, 1) := by decide +kernel
theorem d_Mo_act_71 : decode b_Mo_act 71 = .ok (.getfield 69, 3) := by decide +kernel
theorem d_Mo_act_74 : decode b_Mo_act 74 = .ok (.iload_n 1, 1) := by decide +kernel
theorem d_Mo_act_75 : decode b_Mo_act 75 = .ok (.iload_n 3, 1) := by decide +kernel
theorem d_Mo_act_76 : decode b_Mo_act 76 = .ok (.iastore, 1) := by decide +kernel
theorem d_Mo_act_77 : decode b_Mo_act 77 = .ok (.aload_n 0, 1) := by decide +kernel
theorem d_Mo_act_78 : decode b_Mo_act 78 = .ok (.getfield 72, 3) := by decide +kernel
theorem d_Mo_act_81 : decode b_Mo_act 81 = .ok (.iload_n 1, 1) := by decide +kernel
theorem d_Mo_act_82 : decode b_Mo_act 82 = .ok (.dup2, 1) := by decide +kernel
theorem d_Mo_act_83 : decode b_Mo_act 83 = .ok (.iaload, 1) := by decide +kernel
theorem d_Mo_act_84 : decode b_Mo_act 84 = .ok (.iload_n 2, 1) := by decide +kernel
theorem d_Mo_act_85 : decode b_Mo_act 85 = .ok (.ifCond .ne 7, 3) := by decide +kernel
theorem d_Mo_act_88 : decode b_Mo_act 88 = .ok (.iconst 1, 1) := by decide +kernel
theorem d_Mo_act_89 : decode b_Mo_act 89 = .ok (.goto 4, 3) := by decide +kernel
theorem d_Mo_act_92 : decode b_Mo_act 92 = .ok (.iconst 0, 1) := by decide +kernel
theorem d_Mo_act_93 : decode b_Mo_act 93 = .ok (.iadd, 1) := by decide +kernel
theorem d_Mo_act_94 : decode b_Mo_act 94 = .ok (.iastore, 1) := by decide +kernel
theorem d_Mo_act_95 : decode b_Mo_act 95 = .ok (.iload 4, 2) := by decide +kernel
theorem d_Mo_act_97 : decode b_Mo_act 97 = .ok (.ireturn, 1) := by decide +kernel
theorem d_Mo_state_0 : decode b_Mo_state 0 = .ok (.aload_n 0, 1) := by decide +kernel
theorem d_Mo_state_1 : decode b_Mo_state 1 = .ok (.iconst 0, 1) := by decide +kernel
theorem d_Mo_state_2 : decode b_Mo_state 2 = .ok (.putfield 79, 3) := by decide +kernel
theorem d_Mo_state_5 : decode b_Mo_state 5 = .ok (.iload_n 1, 1) := by decide +kernel
theorem d_Mo_state_6 : decode b_Mo_state 6 = .ok (.invokestatic 83, 3) := by decide +kernel
theorem d_Mo_state_9 : decode b_Mo_state 9 = .ok (.ifCond .eq 12, 3) := by decide +kernel
theorem d_Mo_state_12 : decode b_Mo_state 12 = .ok (.aload_n 0, 1) := by decide +kernel
theorem d_Mo_state_13 : decode b_Mo_state 13 = .ok (.getfield 66, 3) := by decide +kernel
theorem d_Mo_state_16 : decode b_Mo_state 16 = .ok (.iload_n 1, 1) := by decide +kernel
theorem d_Mo_state_17 : decode b_Mo_state 17 = .ok (.iaload, 1) := by decide +kernel
theorem d_Mo_state_18 : decode b_Mo_state 18 = .ok (.goto 4, 3) := by decide +kernel
theorem d_Mo_state_21 : decode b_Mo_state 21 = .ok (.iconst (-1), 1) := by decide +kernel
theorem d_Mo_state_22 : decode b_Mo_state 22 = .ok (.ireturn, 1) := by decide +kernel
theorem d_Mo_repeated_0 : decode b_Mo_repeated 0 = .ok (.aload_n 0, 1) := by decide +kernel
theorem d_Mo_repeated_1 : decode b_Mo_repeated 1 = .ok (.iconst 0, 1) := by decide +kernel
theorem d_Mo_repeated_2 : decode b_Mo_repeated 2 = .ok (.putfield 79, 3) := by decide +kernel
theorem d_Mo_repeated_5 : decode b_Mo_repeated 5 = .ok (.iload_n 1, 1) := by decide +kernel
theorem d_Mo_repeated_6 : decode b_Mo_repeated 6 = .ok (.invokestatic 83, 3) := by decide +kernel
theorem d_Mo_repeated_9 : decode b_Mo_repeated 9 = .ok (.ifCond .eq 12, 3) := by decide +kernel
theorem d_Mo_repeated_12 : decode b_Mo_repeated 12 = .ok (.aload_n 0, 1) := by decide +kernel
theorem d_Mo_repeated_13 : decode b_Mo_repeated 13 = .ok (.getfield 72, 3) := by decide +kernel
theorem d_Mo_repeated_16 : decode b_Mo_repeated 16 = .ok (.iload_n 1, 1) := by decide +kernel
theorem d_Mo_repeated_17 : decode b_Mo_repeated 17 = .ok (.iaload, 1) := by decide +kernel
theorem d_Mo_repeated_18 : decode b_Mo_repeated 18 = .ok (.goto 4, 3) := by decide +kernel
theorem d_Mo_repeated_21 : decode b_Mo_repeated 21 = .ok (.iconst (-1), 1) := by decide +kernel
theorem d_Mo_repeated_22 : decode b_Mo_repeated 22 = .ok (.ireturn, 1) := by decide +kernel
