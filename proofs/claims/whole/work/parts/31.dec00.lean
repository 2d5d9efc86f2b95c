theorem d_Lw_cell_0 : decode b_Lw_cell 0 = .ok (.iload_n 1, 1) := by decide +kernel
theorem d_Lw_cell_1 : decode b_Lw_cell 1 = .ok (.aload_n 0, 1) := by decide +kernel
theorem d_Lw_cell_2 : decode b_Lw_cell 2 = .ok (.arraylength, 1) := by decide +kernel
theorem d_Lw_cell_3 : decode b_Lw_cell 3 = .ok (.if_icmp .ge 9, 3) := by decide +kernel
theorem d_Lw_cell_6 : decode b_Lw_cell 6 = .ok (.aload_n 0, 1) := by decide +kernel
theorem d_Lw_cell_7 : decode b_Lw_cell 7 = .ok (.iload_n 1, 1) := by decide +kernel
theorem d_Lw_cell_8 : decode b_Lw_cell 8 = .ok (.iaload, 1) := by decide +kernel
theorem d_Lw_cell_9 : decode b_Lw_cell 9 = .ok (.goto 4, 3) := by decide +kernel
theorem d_Lw_cell_12 : decode b_Lw_cell 12 = .ok (.iconst 0, 1) := by decide +kernel
theorem d_Lw_cell_13 : decode b_Lw_cell 13 = .ok (.ireturn, 1) := by decide +kernel
theorem d_Lw_pageAt_0 : decode b_Lw_pageAt 0 = .ok (.aload_n 2, 1) := by decide +kernel
theorem d_Lw_pageAt_1 : decode b_Lw_pageAt 1 = .ok (.iconst 0, 1) := by decide +kernel
theorem d_Lw_pageAt_2 : decode b_Lw_pageAt 2 = .ok (.aload_n 0, 1) := by decide +kernel
theorem d_Lw_pageAt_3 : decode b_Lw_pageAt 3 = .ok (.iload_n 1, 1) := by decide +kernel
theorem d_Lw_pageAt_4 : decode b_Lw_pageAt 4 = .ok (.invokevirtual 7, 3) := by decide +kernel
theorem d_Lw_pageAt_7 : decode b_Lw_pageAt 7 = .ok (.lastore, 1) := by decide +kernel
theorem d_Lw_pageAt_8 : decode b_Lw_pageAt 8 = .ok (.goto 6, 3) := by decide +kernel
theorem d_Lw_pageAt_11 : decode b_Lw_pageAt 11 = .ok (.astore_n 3, 1) := by decide +kernel
theorem d_Lw_pageAt_12 : decode b_Lw_pageAt 12 = .ok (.iconst 1, 1) := by decide +kernel
theorem d_Lw_pageAt_13 : decode b_Lw_pageAt 13 = .ok (.ireturn, 1) := by decide +kernel
theorem d_Lw_pageAt_14 : decode b_Lw_pageAt 14 = .ok (.iconst 0, 1) := by decide +kernel
theorem d_Lw_pageAt_15 : decode b_Lw_pageAt 15 = .ok (.ireturn, 1) := by decide +kernel
theorem d_Lw_law_0 : decode b_Lw_law 0 = .ok (.new 8, 3) := by decide +kernel
theorem d_Lw_law_3 : decode b_Lw_law 3 = .ok (.dup, 1) := by decide +kernel
theorem d_Lw_law_4 : decode b_Lw_law 4 = .ok (.aload_n 0, 1) := by decide +kernel
theorem d_Lw_law_5 : decode b_Lw_law 5 = .ok (.iconst 0, 1) := by decide +kernel
theorem d_Lw_law_6 : decode b_Lw_law 6 = .ok (.invokestatic 15, 3) := by decide +kernel
theorem d_Lw_law_9 : decode b_Lw_law 9 = .ok (.i2l, 1) := by decide +kernel
theorem d_Lw_law_10 : decode b_Lw_law 10 = .ok (.invokespecial 21, 3) := by decide +kernel
theorem d_Lw_law_13 : decode b_Lw_law 13 = .ok (.astore_n 1, 1) := by decide +kernel
theorem d_Lw_law_14 : decode b_Lw_law 14 = .ok (.new 24, 3) := by decide +kernel
theorem d_Lw_law_17 : decode b_Lw_law 17 = .ok (.dup, 1) := by decide +kernel
theorem d_Lw_law_18 : decode b_Lw_law 18 = .ok (.aload_n 0, 1) := by decide +kernel
theorem d_Lw_law_19 : decode b_Lw_law 19 = .ok (.iconst 0, 1) := by decide +kernel
theorem d_Lw_law_20 : decode b_Lw_law 20 = .ok (.invokestatic 15, 3) := by decide +kernel
theorem d_Lw_law_23 : decode b_Lw_law 23 = .ok (.i2l, 1) := by decide +kernel
theorem d_Lw_law_24 : decode b_Lw_law 24 = .ok (.invokespecial 26, 3) := by decide +kernel
theorem d_Lw_law_27 : decode b_Lw_law 27 = .ok (.astore_n 2, 1) := by decide +kernel
theorem d_Lw_law_28 : decode b_Lw_law 28 = .ok (.iconst 1, 1) := by decide +kernel
theorem d_Lw_law_29 : decode b_Lw_law 29 = .ok (.newarray .long, 2) := by decide +kernel
theorem d_Lw_law_31 : decode b_Lw_law 31 = .ok (.astore_n 3, 1) := by decide +kernel
theorem d_Lw_law_32 : decode b_Lw_law 32 = .ok (.iconst 1, 1) := by decide +kernel
theorem d_Lw_law_33 : decode b_Lw_law 33 = .ok (.istore 4, 2) := by decide +kernel
theorem d_Lw_law_35 : decode b_Lw_law 35 = .ok (.iload 4, 2) := by decide +kernel
theorem d_Lw_law_37 : decode b_Lw_law 37 = .ok (.aload_n 0, 1) := by decide +kernel
theorem d_Lw_law_38 : decode b_Lw_law 38 = .ok (.arraylength, 1) := by decide +kernel
theorem d_Lw_law_39 : decode b_Lw_law 39 = .ok (.bipush 6, 2) := by decide +kernel
theorem d_Lw_law_41 : decode b_Lw_law 41 = .ok (.isub, 1) := by decide +kernel
theorem d_Lw_law_42 : decode b_Lw_law 42 = .ok (.if_icmp .gt 1068, 3) := by decide +kernel
theorem d_Lw_law_45 : decode b_Lw_law 45 = .ok (.aload_n 0, 1) := by decide +kernel
theorem d_Lw_law_46 : decode b_Lw_law 46 = .ok (.iload 4, 2) := by decide +kernel
theorem d_Lw_law_48 : decode b_Lw_law 48 = .ok (.iaload, 1) := by decide +kernel
theorem d_Lw_law_49 : decode b_Lw_law 49 = .ok (.bipush 31, 2) := by decide +kernel
theorem d_Lw_law_51 : decode b_Lw_law 51 = .ok (.iand, 1) := by decide +kernel
theorem d_Lw_law_52 : decode b_Lw_law 52 = .ok (.tableswitch 1052 0 21 #[104, 197, 290, 303, 328, 353, 379, 416, 471, 497, 566, 647, 673, 710, 759, 784, 809, 866, 916, 953, 1002, 1027], 104) := by decide +kernel
theorem d_Lw_law_156 : decode b_Lw_law 156 = .ok (.aload_n 1, 1) := by decide +kernel
theorem d_Lw_law_157 : decode b_Lw_law 157 = .ok (.aload_n 0, 1) := by decide +kernel
theorem d_Lw_law_158 : decode b_Lw_law 158 = .ok (.iload 4, 2) := by decide +kernel
theorem d_Lw_law_160 : decode b_Lw_law 160 = .ok (.iconst 1, 1) := by decide +kernel
theorem d_Lw_law_161 : decode b_Lw_law 161 = .ok (.iadd, 1) := by decide +kernel
theorem d_Lw_law_162 : decode b_Lw_law 162 = .ok (.iaload, 1) := by decide +kernel
theorem d_Lw_law_163 : decode b_Lw_law 163 = .ok (.aload_n 0, 1) := by decide +kernel
theorem d_Lw_law_164 : decode b_Lw_law 164 = .ok (.iload 4, 2) := by decide +kernel
theorem d_Lw_law_166 : decode b_Lw_law 166 = .ok (.iconst 2, 1) := by decide +kernel
theorem d_Lw_law_167 : decode b_Lw_law 167 = .ok (.iadd, 1) := by decide +kernel
theorem d_Lw_law_168 : decode b_Lw_law 168 = .ok (.iaload, 1) := by decide +kernel
theorem d_Lw_law_169 : decode b_Lw_law 169 = .ok (.aload_n 0, 1) := by decide +kernel
theorem d_Lw_law_170 : decode b_Lw_law 170 = .ok (.iload 4, 2) := by decide +kernel
theorem d_Lw_law_172 : decode b_Lw_law 172 = .ok (.iconst 3, 1) := by decide +kernel
theorem d_Lw_law_173 : decode b_Lw_law 173 = .ok (.iadd, 1) := by decide +kernel
theorem d_Lw_law_174 : decode b_Lw_law 174 = .ok (.iaload, 1) := by decide +kernel
theorem d_Lw_law_175 : decode b_Lw_law 175 = .ok (.aload_n 0, 1) := by decide +kernel
theorem d_Lw_law_176 : decode b_Lw_law 176 = .ok (.iload 4, 2) := by decide +kernel
theorem d_Lw_law_178 : decode b_Lw_law 178 = .ok (.iconst 4, 1) := by decide +kernel
theorem d_Lw_law_179 : decode b_Lw_law 179 = .ok (.iadd, 1) := by decide +kernel
theorem d_Lw_law_180 : decode b_Lw_law 180 = .ok (.iaload, 1) := by decide +kernel
theorem d_Lw_law_181 : decode b_Lw_law 181 = .ok (.i2l, 1) := by decide +kernel
theorem d_Lw_law_182 : decode b_Lw_law 182 = .ok (.bipush 32, 2) := by decide +kernel
theorem d_Lw_law_184 : decode b_Lw_law 184 = .ok (.lshl, 1) := by decide +kernel
theorem d_Lw_law_185 : decode b_Lw_law 185 = .ok (.aload_n 0, 1) := by decide +kernel
theorem d_Lw_law_186 : decode b_Lw_law 186 = .ok (.iload 4, 2) := by decide +kernel
theorem d_Lw_law_188 : decode b_Lw_law 188 = .ok (.iconst 5, 1) := by decide +kernel
theorem d_Lw_law_189 : decode b_Lw_law 189 = .ok (.iadd, 1) := by decide +kernel
theorem d_Lw_law_190 : decode b_Lw_law 190 = .ok (.iaload, 1) := by decide +kernel
theorem d_Lw_law_191 : decode b_Lw_law 191 = .ok (.i2l, 1) := by decide +kernel
theorem d_Lw_law_192 : decode b_Lw_law 192 = .ok (.ldc2_w 27, 3) := by decide +kernel
theorem d_Lw_law_195 : decode b_Lw_law 195 = .ok (.land, 1) := by decide +kernel
theorem d_Lw_law_196 : decode b_Lw_law 196 = .ok (.lor, 1) := by decide +kernel
theorem d_Lw_law_197 : decode b_Lw_law 197 = .ok (.invokevirtual 29, 3) := by decide +kernel
theorem d_Lw_law_200 : decode b_Lw_law 200 = .ok (.aload_n 2, 1) := by decide +kernel
theorem d_Lw_law_201 : decode b_Lw_law 201 = .ok (.aload_n 0, 1) := by decide +kernel
theorem d_Lw_law_202 : decode b_Lw_law 202 = .ok (.iload 4, 2) := by decide +kernel
theorem d_Lw_law_204 : decode b_Lw_law 204 = .ok (.iconst 1, 1) := by decide +kernel
theorem d_Lw_law_205 : decode b_Lw_law 205 = .ok (.iadd, 1) := by decide +kernel
theorem d_Lw_law_206 : decode b_Lw_law 206 = .ok (.iaload, 1) := by decide +kernel
theorem d_Lw_law_207 : decode b_Lw_law 207 = .ok (.aload_n 0, 1) := by decide +kernel
theorem d_Lw_law_208 : decode b_Lw_law 208 = .ok (.iload 4, 2) := by decide +kernel
theorem d_Lw_law_210 : decode b_Lw_law 210 = .ok (.iconst 2, 1) := by decide +kernel
theorem d_Lw_law_211 : decode b_Lw_law 211 = .ok (.iadd, 1) := by decide +kernel
theorem d_Lw_law_212 : decode b_Lw_law 212 = .ok (.iaload, 1) := by decide +kernel
theorem d_Lw_law_213 : decode b_Lw_law 213 = .ok (.aload_n 0, 1) := by decide +kernel
theorem d_Lw_law_214 : decode b_Lw_law 214 = .ok (.iload 4, 2) := by decide +kernel
theorem d_Lw_law_216 : decode b_Lw_law 216 = .ok (.iconst 3, 1) := by decide +kernel
theorem d_Lw_law_217 : decode b_Lw_law 217 = .ok (.iadd, 1) := by decide +kernel
theorem d_Lw_law_218 : decode b_Lw_law 218 = .ok (.iaload, 1) := by decide +kernel
theorem d_Lw_law_219 : decode b_Lw_law 219 = .ok (.aload_n 0, 1) := by decide +kernel
theorem d_Lw_law_220 : decode b_Lw_law 220 = .ok (.iload 4, 2) := by decide +kernel
theorem d_Lw_law_222 : decode b_Lw_law 222 = .ok (.iconst 4, 1) := by decide +kernel
theorem d_Lw_law_223 : decode b_Lw_law 223 = .ok (.iadd, 1) := by decide +kernel
theorem d_Lw_law_224 : decode b_Lw_law 224 = .ok (.iaload, 1) := by decide +kernel
theorem d_Lw_law_225 : decode b_Lw_law 225 = .ok (.i2l, 1) := by decide +kernel
theorem d_Lw_law_226 : decode b_Lw_law 226 = .ok (.bipush 32, 2) := by decide +kernel
theorem d_Lw_law_228 : decode b_Lw_law 228 = .ok (.lshl, 1) := by decide +kernel
theorem d_Lw_law_229 : decode b_Lw_law 229 = .ok (.aload_n 0, 1) := by decide +kernel
theorem d_Lw_law_230 : decode b_Lw_law 230 = .ok (.iload 4, 2) := by decide +kernel
theorem d_Lw_law_232 : decode b_Lw_law 232 = .ok (.iconst 5, 1) := by decide +kernel
theorem d_Lw_law_233 : decode b_Lw_law 233 = .ok (.iadd, 1) := by decide +kernel
theorem d_Lw_law_234 : decode b_Lw_law 234 = .ok (.iaload, 1) := by decide +kernel
theorem d_Lw_law_235 : decode b_Lw_law 235 = .ok (.i2l, 1) := by decide +kernel
theorem d_Lw_law_236 : decode b_Lw_law 236 = .ok (.ldc2_w 27, 3) := by decide +kernel
theorem d_Lw_law_239 : decode b_Lw_law 239 = .ok (.land, 1) := by decide +kernel
theorem d_Lw_law_240 : decode b_Lw_law 240 = .ok (.lor, 1) := by decide +kernel
theorem d_Lw_law_241 : decode b_Lw_law 241 = .ok (.invokevirtual 33, 3) := by decide +kernel
theorem d_Lw_law_244 : decode b_Lw_law 244 = .ok (.if_icmp .eq 860, 3) := by decide +kernel
theorem d_Lw_law_247 : decode b_Lw_law 247 = .ok (.iconst 0, 1) := by decide +kernel
