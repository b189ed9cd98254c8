theorem d_L_law_0 : decode code 0 = .ok (.new 8, 3) := by decide +kernel
theorem d_L_law_3 : decode code 3 = .ok (.dup, 1) := by decide +kernel
theorem d_L_law_4 : decode code 4 = .ok (.aload_n 0, 1) := by decide +kernel
theorem d_L_law_5 : decode code 5 = .ok (.iconst 0, 1) := by decide +kernel
theorem d_L_law_6 : decode code 6 = .ok (.invokestatic 60, 3) := by decide +kernel
theorem d_L_law_9 : decode code 9 = .ok (.invokespecial 66, 3) := by decide +kernel
theorem d_L_law_12 : decode code 12 = .ok (.astore_n 1, 1) := by decide +kernel
theorem d_L_law_13 : decode code 13 = .ok (.new 68, 3) := by decide +kernel
theorem d_L_law_16 : decode code 16 = .ok (.dup, 1) := by decide +kernel
theorem d_L_law_17 : decode code 17 = .ok (.aload_n 0, 1) := by decide +kernel
theorem d_L_law_18 : decode code 18 = .ok (.iconst 0, 1) := by decide +kernel
theorem d_L_law_19 : decode code 19 = .ok (.invokestatic 60, 3) := by decide +kernel
theorem d_L_law_22 : decode code 22 = .ok (.invokespecial 70, 3) := by decide +kernel
theorem d_L_law_25 : decode code 25 = .ok (.astore_n 2, 1) := by decide +kernel
theorem d_L_law_26 : decode code 26 = .ok (.iconst 1, 1) := by decide +kernel
theorem d_L_law_27 : decode code 27 = .ok (.newarray .long, 2) := by decide +kernel
theorem d_L_law_29 : decode code 29 = .ok (.astore_n 3, 1) := by decide +kernel
theorem d_L_law_30 : decode code 30 = .ok (.iconst 1, 1) := by decide +kernel
theorem d_L_law_31 : decode code 31 = .ok (.istore 4, 2) := by decide +kernel
theorem d_L_law_33 : decode code 33 = .ok (.iload 4, 2) := by decide +kernel
theorem d_L_law_35 : decode code 35 = .ok (.aload_n 0, 1) := by decide +kernel
theorem d_L_law_36 : decode code 36 = .ok (.arraylength, 1) := by decide +kernel
theorem d_L_law_37 : decode code 37 = .ok (.iconst 3, 1) := by decide +kernel
theorem d_L_law_38 : decode code 38 = .ok (.isub, 1) := by decide +kernel
theorem d_L_law_39 : decode code 39 = .ok (.if_icmp .gt 965, 3) := by decide +kernel
theorem d_L_law_42 : decode code 42 = .ok (.aload_n 0, 1) := by decide +kernel
theorem d_L_law_43 : decode code 43 = .ok (.iload 4, 2) := by decide +kernel
theorem d_L_law_45 : decode code 45 = .ok (.iaload, 1) := by decide +kernel
theorem d_L_law_46 : decode code 46 = .ok (.bipush 31, 2) := by decide +kernel
theorem d_L_law_48 : decode code 48 = .ok (.iand, 1) := by decide +kernel
theorem d_L_law_49 : decode code 49 = .ok (.tableswitch 949 0 16 #[83, 151, 207, 263, 319, 344, 357, 370, 445, 536, 604, 695, 731, 787, 800, 868, 924], 83) := by decide +kernel
theorem d_L_law_132 : decode code 132 = .ok (.aload_n 1, 1) := by decide +kernel
theorem d_L_law_133 : decode code 133 = .ok (.aload_n 0, 1) := by decide +kernel
theorem d_L_law_134 : decode code 134 = .ok (.iload 4, 2) := by decide +kernel
theorem d_L_law_136 : decode code 136 = .ok (.iconst 1, 1) := by decide +kernel
theorem d_L_law_137 : decode code 137 = .ok (.iadd, 1) := by decide +kernel
theorem d_L_law_138 : decode code 138 = .ok (.iaload, 1) := by decide +kernel
theorem d_L_law_139 : decode code 139 = .ok (.aload_n 0, 1) := by decide +kernel
theorem d_L_law_140 : decode code 140 = .ok (.iload 4, 2) := by decide +kernel
theorem d_L_law_142 : decode code 142 = .ok (.iconst 2, 1) := by decide +kernel
theorem d_L_law_143 : decode code 143 = .ok (.iadd, 1) := by decide +kernel
theorem d_L_law_144 : decode code 144 = .ok (.iaload, 1) := by decide +kernel
theorem d_L_law_145 : decode code 145 = .ok (.aload_n 3, 1) := by decide +kernel
theorem d_L_law_146 : decode code 146 = .ok (.invokestatic 71, 3) := by decide +kernel
theorem d_L_law_149 : decode code 149 = .ok (.istore 5, 2) := by decide +kernel
theorem d_L_law_151 : decode code 151 = .ok (.aload_n 2, 1) := by decide +kernel
theorem d_L_law_152 : decode code 152 = .ok (.aload_n 0, 1) := by decide +kernel
theorem d_L_law_153 : decode code 153 = .ok (.iload 4, 2) := by decide +kernel
theorem d_L_law_155 : decode code 155 = .ok (.iconst 1, 1) := by decide +kernel
theorem d_L_law_156 : decode code 156 = .ok (.iadd, 1) := by decide +kernel
theorem d_L_law_157 : decode code 157 = .ok (.iaload, 1) := by decide +kernel
theorem d_L_law_158 : decode code 158 = .ok (.aload_n 0, 1) := by decide +kernel
theorem d_L_law_159 : decode code 159 = .ok (.iload 4, 2) := by decide +kernel
theorem d_L_law_161 : decode code 161 = .ok (.iconst 2, 1) := by decide +kernel
theorem d_L_law_162 : decode code 162 = .ok (.iadd, 1) := by decide +kernel
theorem d_L_law_163 : decode code 163 = .ok (.iaload, 1) := by decide +kernel
theorem d_L_law_164 : decode code 164 = .ok (.invokevirtual 74, 3) := by decide +kernel
theorem d_L_law_167 : decode code 167 = .ok (.istore 6, 2) := by decide +kernel
theorem d_L_law_169 : decode code 169 = .ok (.aload_n 2, 1) := by decide +kernel
theorem d_L_law_170 : decode code 170 = .ok (.invokevirtual 75, 3) := by decide +kernel
theorem d_L_law_173 : decode code 173 = .ok (.iload 5, 2) := by decide +kernel
theorem d_L_law_175 : decode code 175 = .ok (.if_icmp .eq 5, 3) := by decide +kernel
theorem d_L_law_178 : decode code 178 = .ok (.iconst 0, 1) := by decide +kernel
theorem d_L_law_179 : decode code 179 = .ok (.ireturn, 1) := by decide +kernel
theorem d_L_law_180 : decode code 180 = .ok (.iload 5, 2) := by decide +kernel
theorem d_L_law_182 : decode code 182 = .ok (.ifCond .ne 15, 3) := by decide +kernel
theorem d_L_law_185 : decode code 185 = .ok (.aload_n 3, 1) := by decide +kernel
theorem d_L_law_186 : decode code 186 = .ok (.iconst 0, 1) := by decide +kernel
theorem d_L_law_187 : decode code 187 = .ok (.laload, 1) := by decide +kernel
theorem d_L_law_188 : decode code 188 = .ok (.iload 6, 2) := by decide +kernel
theorem d_L_law_190 : decode code 190 = .ok (.i2l, 1) := by decide +kernel
theorem d_L_law_191 : decode code 191 = .ok (.lcmp, 1) := by decide +kernel
theorem d_L_law_192 : decode code 192 = .ok (.ifCond .eq 5, 3) := by decide +kernel
theorem d_L_law_195 : decode code 195 = .ok (.iconst 0, 1) := by decide +kernel
theorem d_L_law_196 : decode code 196 = .ok (.ireturn, 1) := by decide +kernel
theorem d_L_law_197 : decode code 197 = .ok (.goto 801, 3) := by decide +kernel
theorem d_L_law_200 : decode code 200 = .ok (.aload_n 1, 1) := by decide +kernel
theorem d_L_law_201 : decode code 201 = .ok (.aload_n 0, 1) := by decide +kernel
theorem d_L_law_202 : decode code 202 = .ok (.iload 4, 2) := by decide +kernel
theorem d_L_law_204 : decode code 204 = .ok (.iconst 1, 1) := by decide +kernel
theorem d_L_law_205 : decode code 205 = .ok (.iadd, 1) := by decide +kernel
theorem d_L_law_206 : decode code 206 = .ok (.iaload, 1) := by decide +kernel
theorem d_L_law_207 : decode code 207 = .ok (.aload_n 3, 1) := by decide +kernel
theorem d_L_law_208 : decode code 208 = .ok (.invokestatic 79, 3) := by decide +kernel
theorem d_L_law_211 : decode code 211 = .ok (.istore 5, 2) := by decide +kernel
theorem d_L_law_213 : decode code 213 = .ok (.aload_n 2, 1) := by decide +kernel
theorem d_L_law_214 : decode code 214 = .ok (.aload_n 0, 1) := by decide +kernel
theorem d_L_law_215 : decode code 215 = .ok (.iload 4, 2) := by decide +kernel
theorem d_L_law_217 : decode code 217 = .ok (.iconst 1, 1) := by decide +kernel
theorem d_L_law_218 : decode code 218 = .ok (.iadd, 1) := by decide +kernel
theorem d_L_law_219 : decode code 219 = .ok (.iaload, 1) := by decide +kernel
theorem d_L_law_220 : decode code 220 = .ok (.invokevirtual 82, 3) := by decide +kernel
theorem d_L_law_223 : decode code 223 = .ok (.istore 6, 2) := by decide +kernel
theorem d_L_law_225 : decode code 225 = .ok (.aload_n 2, 1) := by decide +kernel
theorem d_L_law_226 : decode code 226 = .ok (.invokevirtual 75, 3) := by decide +kernel
theorem d_L_law_229 : decode code 229 = .ok (.iload 5, 2) := by decide +kernel
theorem d_L_law_231 : decode code 231 = .ok (.if_icmp .eq 5, 3) := by decide +kernel
theorem d_L_law_234 : decode code 234 = .ok (.iconst 0, 1) := by decide +kernel
theorem d_L_law_235 : decode code 235 = .ok (.ireturn, 1) := by decide +kernel
theorem d_L_law_236 : decode code 236 = .ok (.iload 5, 2) := by decide +kernel
theorem d_L_law_238 : decode code 238 = .ok (.ifCond .ne 15, 3) := by decide +kernel
theorem d_L_law_241 : decode code 241 = .ok (.aload_n 3, 1) := by decide +kernel
theorem d_L_law_242 : decode code 242 = .ok (.iconst 0, 1) := by decide +kernel
theorem d_L_law_243 : decode code 243 = .ok (.laload, 1) := by decide +kernel
theorem d_L_law_244 : decode code 244 = .ok (.iload 6, 2) := by decide +kernel
theorem d_L_law_246 : decode code 246 = .ok (.i2l, 1) := by decide +kernel
theorem d_L_law_247 : decode code 247 = .ok (.lcmp, 1) := by decide +kernel
theorem d_L_law_248 : decode code 248 = .ok (.ifCond .eq 5, 3) := by decide +kernel
theorem d_L_law_251 : decode code 251 = .ok (.iconst 0, 1) := by decide +kernel
theorem d_L_law_252 : decode code 252 = .ok (.ireturn, 1) := by decide +kernel
theorem d_L_law_253 : decode code 253 = .ok (.goto 745, 3) := by decide +kernel
theorem d_L_law_256 : decode code 256 = .ok (.aload_n 1, 1) := by decide +kernel
theorem d_L_law_257 : decode code 257 = .ok (.aload_n 0, 1) := by decide +kernel
theorem d_L_law_258 : decode code 258 = .ok (.iload 4, 2) := by decide +kernel
theorem d_L_law_260 : decode code 260 = .ok (.iconst 1, 1) := by decide +kernel
theorem d_L_law_261 : decode code 261 = .ok (.iadd, 1) := by decide +kernel
theorem d_L_law_262 : decode code 262 = .ok (.iaload, 1) := by decide +kernel
theorem d_L_law_263 : decode code 263 = .ok (.aload_n 3, 1) := by decide +kernel
theorem d_L_law_264 : decode code 264 = .ok (.invokestatic 83, 3) := by decide +kernel
theorem d_L_law_267 : decode code 267 = .ok (.istore 5, 2) := by decide +kernel
theorem d_L_law_269 : decode code 269 = .ok (.aload_n 2, 1) := by decide +kernel
theorem d_L_law_270 : decode code 270 = .ok (.aload_n 0, 1) := by decide +kernel
theorem d_L_law_271 : decode code 271 = .ok (.iload 4, 2) := by decide +kernel
theorem d_L_law_273 : decode code 273 = .ok (.iconst 1, 1) := by decide +kernel
theorem d_L_law_274 : decode code 274 = .ok (.iadd, 1) := by decide +kernel
theorem d_L_law_275 : decode code 275 = .ok (.iaload, 1) := by decide +kernel
theorem d_L_law_276 : decode code 276 = .ok (.invokevirtual 85, 3) := by decide +kernel
theorem d_L_law_279 : decode code 279 = .ok (.istore 6, 2) := by decide +kernel
theorem d_L_law_281 : decode code 281 = .ok (.aload_n 2, 1) := by decide +kernel
theorem d_L_law_282 : decode code 282 = .ok (.invokevirtual 75, 3) := by decide +kernel
theorem d_L_law_285 : decode code 285 = .ok (.iload 5, 2) := by decide +kernel
theorem d_L_law_287 : decode code 287 = .ok (.if_icmp .eq 5, 3) := by decide +kernel
theorem d_L_law_290 : decode code 290 = .ok (.iconst 0, 1) := by decide +kernel
theorem d_L_law_291 : decode code 291 = .ok (.ireturn, 1) := by decide +kernel
theorem d_L_law_292 : decode code 292 = .ok (.iload 5, 2) := by decide +kernel
theorem d_L_law_294 : decode code 294 = .ok (.ifCond .ne 15, 3) := by decide +kernel
theorem d_L_law_297 : decode code 297 = .ok (.aload_n 3, 1) := by decide +kernel
theorem d_L_law_298 : decode code 298 = .ok (.iconst 0, 1) := by decide +kernel
theorem d_L_law_299 : decode code 299 = .ok (.laload, 1) := by decide +kernel
theorem d_L_law_300 : decode code 300 = .ok (.iload 6, 2) := by decide +kernel
theorem d_L_law_302 : decode code 302 = .ok (.i2l, 1) := by decide +kernel
theorem d_L_law_303 : decode code 303 = .ok (.lcmp, 1) := by decide +kernel
theorem d_L_law_304 : decode code 304 = .ok (.ifCond .eq 5, 3) := by decide +kernel
theorem d_L_law_307 : decode code 307 = .ok (.iconst 0, 1) := by decide +kernel
theorem d_L_law_308 : decode code 308 = .ok (.ireturn, 1) := by decide +kernel
theorem d_L_law_309 : decode code 309 = .ok (.goto 689, 3) := by decide +kernel
theorem d_L_law_312 : decode code 312 = .ok (.aload_n 1, 1) := by decide +kernel
theorem d_L_law_313 : decode code 313 = .ok (.aload_n 0, 1) := by decide +kernel
theorem d_L_law_314 : decode code 314 = .ok (.iload 4, 2) := by decide +kernel
theorem d_L_law_316 : decode code 316 = .ok (.iconst 1, 1) := by decide +kernel
