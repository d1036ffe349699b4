/-! The law's instructions (made by program) -/
theorem dd_Lw_law_0 : decode bb_Lw_law 0 = .ok (.new 7, 3) := by decide +kernel
theorem dd_Lw_law_3 : decode bb_Lw_law 3 = .ok (.dup, 1) := by decide +kernel
theorem dd_Lw_law_4 : decode bb_Lw_law 4 = .ok (.aload_n 0, 1) := by decide +kernel
theorem dd_Lw_law_5 : decode bb_Lw_law 5 = .ok (.iconst 0, 1) := by decide +kernel
theorem dd_Lw_law_6 : decode bb_Lw_law 6 = .ok (.invokestatic 9, 3) := by decide +kernel
theorem dd_Lw_law_9 : decode bb_Lw_law 9 = .ok (.invokespecial 15, 3) := by decide +kernel
theorem dd_Lw_law_12 : decode bb_Lw_law 12 = .ok (.astore_n 1, 1) := by decide +kernel
theorem dd_Lw_law_13 : decode bb_Lw_law 13 = .ok (.new 18, 3) := by decide +kernel
theorem dd_Lw_law_16 : decode bb_Lw_law 16 = .ok (.dup, 1) := by decide +kernel
theorem dd_Lw_law_17 : decode bb_Lw_law 17 = .ok (.aload_n 0, 1) := by decide +kernel
theorem dd_Lw_law_18 : decode bb_Lw_law 18 = .ok (.iconst 0, 1) := by decide +kernel
theorem dd_Lw_law_19 : decode bb_Lw_law 19 = .ok (.invokestatic 9, 3) := by decide +kernel
theorem dd_Lw_law_22 : decode bb_Lw_law 22 = .ok (.invokespecial 20, 3) := by decide +kernel
theorem dd_Lw_law_25 : decode bb_Lw_law 25 = .ok (.astore_n 2, 1) := by decide +kernel
theorem dd_Lw_law_26 : decode bb_Lw_law 26 = .ok (.iconst 1, 1) := by decide +kernel
theorem dd_Lw_law_27 : decode bb_Lw_law 27 = .ok (.istore_n 3, 1) := by decide +kernel
theorem dd_Lw_law_28 : decode bb_Lw_law 28 = .ok (.iload_n 3, 1) := by decide +kernel
theorem dd_Lw_law_29 : decode bb_Lw_law 29 = .ok (.aload_n 0, 1) := by decide +kernel
theorem dd_Lw_law_30 : decode bb_Lw_law 30 = .ok (.arraylength, 1) := by decide +kernel
theorem dd_Lw_law_31 : decode bb_Lw_law 31 = .ok (.bipush 6, 2) := by decide +kernel
theorem dd_Lw_law_33 : decode bb_Lw_law 33 = .ok (.isub, 1) := by decide +kernel
theorem dd_Lw_law_34 : decode bb_Lw_law 34 = .ok (.if_icmp .gt 718, 3) := by decide +kernel
theorem dd_Lw_law_37 : decode bb_Lw_law 37 = .ok (.aload_n 0, 1) := by decide +kernel
theorem dd_Lw_law_38 : decode bb_Lw_law 38 = .ok (.iload_n 3, 1) := by decide +kernel
theorem dd_Lw_law_39 : decode bb_Lw_law 39 = .ok (.iaload, 1) := by decide +kernel
theorem dd_Lw_law_40 : decode bb_Lw_law 40 = .ok (.bipush 31, 2) := by decide +kernel
theorem dd_Lw_law_42 : decode bb_Lw_law 42 = .ok (.iand, 1) := by decide +kernel
theorem dd_Lw_law_43 : decode bb_Lw_law 43 = .ok (.tableswitch 703 0 19 #[93, 156, 179, 212, 225, 248, 271, 294, 317, 340, 373, 416, 439, 472, 495, 528, 561, 594, 627, 660], 93) := by decide +kernel
theorem dd_Lw_law_136 : decode bb_Lw_law 136 = .ok (.aload_n 1, 1) := by decide +kernel
theorem dd_Lw_law_137 : decode bb_Lw_law 137 = .ok (.aload_n 0, 1) := by decide +kernel
theorem dd_Lw_law_138 : decode bb_Lw_law 138 = .ok (.iload_n 3, 1) := by decide +kernel
theorem dd_Lw_law_139 : decode bb_Lw_law 139 = .ok (.iconst 1, 1) := by decide +kernel
theorem dd_Lw_law_140 : decode bb_Lw_law 140 = .ok (.iadd, 1) := by decide +kernel
theorem dd_Lw_law_141 : decode bb_Lw_law 141 = .ok (.iaload, 1) := by decide +kernel
theorem dd_Lw_law_142 : decode bb_Lw_law 142 = .ok (.aload_n 0, 1) := by decide +kernel
theorem dd_Lw_law_143 : decode bb_Lw_law 143 = .ok (.iload_n 3, 1) := by decide +kernel
theorem dd_Lw_law_144 : decode bb_Lw_law 144 = .ok (.iconst 2, 1) := by decide +kernel
theorem dd_Lw_law_145 : decode bb_Lw_law 145 = .ok (.iadd, 1) := by decide +kernel
theorem dd_Lw_law_146 : decode bb_Lw_law 146 = .ok (.iaload, 1) := by decide +kernel
theorem dd_Lw_law_147 : decode bb_Lw_law 147 = .ok (.aload_n 0, 1) := by decide +kernel
theorem dd_Lw_law_148 : decode bb_Lw_law 148 = .ok (.iload_n 3, 1) := by decide +kernel
theorem dd_Lw_law_149 : decode bb_Lw_law 149 = .ok (.iconst 3, 1) := by decide +kernel
theorem dd_Lw_law_150 : decode bb_Lw_law 150 = .ok (.iadd, 1) := by decide +kernel
theorem dd_Lw_law_151 : decode bb_Lw_law 151 = .ok (.iaload, 1) := by decide +kernel
theorem dd_Lw_law_152 : decode bb_Lw_law 152 = .ok (.aload_n 0, 1) := by decide +kernel
theorem dd_Lw_law_153 : decode bb_Lw_law 153 = .ok (.iload_n 3, 1) := by decide +kernel
theorem dd_Lw_law_154 : decode bb_Lw_law 154 = .ok (.iconst 4, 1) := by decide +kernel
theorem dd_Lw_law_155 : decode bb_Lw_law 155 = .ok (.iadd, 1) := by decide +kernel
theorem dd_Lw_law_156 : decode bb_Lw_law 156 = .ok (.iaload, 1) := by decide +kernel
theorem dd_Lw_law_157 : decode bb_Lw_law 157 = .ok (.aload_n 0, 1) := by decide +kernel
theorem dd_Lw_law_158 : decode bb_Lw_law 158 = .ok (.iload_n 3, 1) := by decide +kernel
theorem dd_Lw_law_159 : decode bb_Lw_law 159 = .ok (.iconst 5, 1) := by decide +kernel
theorem dd_Lw_law_160 : decode bb_Lw_law 160 = .ok (.iadd, 1) := by decide +kernel
theorem dd_Lw_law_161 : decode bb_Lw_law 161 = .ok (.iaload, 1) := by decide +kernel
theorem dd_Lw_law_162 : decode bb_Lw_law 162 = .ok (.invokevirtual 21, 3) := by decide +kernel
theorem dd_Lw_law_165 : decode bb_Lw_law 165 = .ok (.aload_n 2, 1) := by decide +kernel
theorem dd_Lw_law_166 : decode bb_Lw_law 166 = .ok (.aload_n 0, 1) := by decide +kernel
theorem dd_Lw_law_167 : decode bb_Lw_law 167 = .ok (.iload_n 3, 1) := by decide +kernel
theorem dd_Lw_law_168 : decode bb_Lw_law 168 = .ok (.iconst 1, 1) := by decide +kernel
theorem dd_Lw_law_169 : decode bb_Lw_law 169 = .ok (.iadd, 1) := by decide +kernel
theorem dd_Lw_law_170 : decode bb_Lw_law 170 = .ok (.iaload, 1) := by decide +kernel
theorem dd_Lw_law_171 : decode bb_Lw_law 171 = .ok (.aload_n 0, 1) := by decide +kernel
theorem dd_Lw_law_172 : decode bb_Lw_law 172 = .ok (.iload_n 3, 1) := by decide +kernel
theorem dd_Lw_law_173 : decode bb_Lw_law 173 = .ok (.iconst 2, 1) := by decide +kernel
theorem dd_Lw_law_174 : decode bb_Lw_law 174 = .ok (.iadd, 1) := by decide +kernel
theorem dd_Lw_law_175 : decode bb_Lw_law 175 = .ok (.iaload, 1) := by decide +kernel
theorem dd_Lw_law_176 : decode bb_Lw_law 176 = .ok (.aload_n 0, 1) := by decide +kernel
theorem dd_Lw_law_177 : decode bb_Lw_law 177 = .ok (.iload_n 3, 1) := by decide +kernel
theorem dd_Lw_law_178 : decode bb_Lw_law 178 = .ok (.iconst 3, 1) := by decide +kernel
theorem dd_Lw_law_179 : decode bb_Lw_law 179 = .ok (.iadd, 1) := by decide +kernel
theorem dd_Lw_law_180 : decode bb_Lw_law 180 = .ok (.iaload, 1) := by decide +kernel
theorem dd_Lw_law_181 : decode bb_Lw_law 181 = .ok (.aload_n 0, 1) := by decide +kernel
theorem dd_Lw_law_182 : decode bb_Lw_law 182 = .ok (.iload_n 3, 1) := by decide +kernel
theorem dd_Lw_law_183 : decode bb_Lw_law 183 = .ok (.iconst 4, 1) := by decide +kernel
theorem dd_Lw_law_184 : decode bb_Lw_law 184 = .ok (.iadd, 1) := by decide +kernel
theorem dd_Lw_law_185 : decode bb_Lw_law 185 = .ok (.iaload, 1) := by decide +kernel
theorem dd_Lw_law_186 : decode bb_Lw_law 186 = .ok (.aload_n 0, 1) := by decide +kernel
theorem dd_Lw_law_187 : decode bb_Lw_law 187 = .ok (.iload_n 3, 1) := by decide +kernel
theorem dd_Lw_law_188 : decode bb_Lw_law 188 = .ok (.iconst 5, 1) := by decide +kernel
theorem dd_Lw_law_189 : decode bb_Lw_law 189 = .ok (.iadd, 1) := by decide +kernel
theorem dd_Lw_law_190 : decode bb_Lw_law 190 = .ok (.iaload, 1) := by decide +kernel
theorem dd_Lw_law_191 : decode bb_Lw_law 191 = .ok (.invokevirtual 25, 3) := by decide +kernel
theorem dd_Lw_law_194 : decode bb_Lw_law 194 = .ok (.if_icmp .eq 552, 3) := by decide +kernel
theorem dd_Lw_law_197 : decode bb_Lw_law 197 = .ok (.iconst 0, 1) := by decide +kernel
theorem dd_Lw_law_198 : decode bb_Lw_law 198 = .ok (.ireturn, 1) := by decide +kernel
theorem dd_Lw_law_199 : decode bb_Lw_law 199 = .ok (.aload_n 1, 1) := by decide +kernel
theorem dd_Lw_law_200 : decode bb_Lw_law 200 = .ok (.aload_n 0, 1) := by decide +kernel
theorem dd_Lw_law_201 : decode bb_Lw_law 201 = .ok (.iload_n 3, 1) := by decide +kernel
theorem dd_Lw_law_202 : decode bb_Lw_law 202 = .ok (.iconst 1, 1) := by decide +kernel
theorem dd_Lw_law_203 : decode bb_Lw_law 203 = .ok (.iadd, 1) := by decide +kernel
theorem dd_Lw_law_204 : decode bb_Lw_law 204 = .ok (.iaload, 1) := by decide +kernel
theorem dd_Lw_law_205 : decode bb_Lw_law 205 = .ok (.invokevirtual 26, 3) := by decide +kernel
theorem dd_Lw_law_208 : decode bb_Lw_law 208 = .ok (.aload_n 2, 1) := by decide +kernel
theorem dd_Lw_law_209 : decode bb_Lw_law 209 = .ok (.aload_n 0, 1) := by decide +kernel
theorem dd_Lw_law_210 : decode bb_Lw_law 210 = .ok (.iload_n 3, 1) := by decide +kernel
theorem dd_Lw_law_211 : decode bb_Lw_law 211 = .ok (.iconst 1, 1) := by decide +kernel
theorem dd_Lw_law_212 : decode bb_Lw_law 212 = .ok (.iadd, 1) := by decide +kernel
theorem dd_Lw_law_213 : decode bb_Lw_law 213 = .ok (.iaload, 1) := by decide +kernel
theorem dd_Lw_law_214 : decode bb_Lw_law 214 = .ok (.invokevirtual 30, 3) := by decide +kernel
theorem dd_Lw_law_217 : decode bb_Lw_law 217 = .ok (.if_icmp .eq 529, 3) := by decide +kernel
theorem dd_Lw_law_220 : decode bb_Lw_law 220 = .ok (.iconst 0, 1) := by decide +kernel
theorem dd_Lw_law_221 : decode bb_Lw_law 221 = .ok (.ireturn, 1) := by decide +kernel
theorem dd_Lw_law_222 : decode bb_Lw_law 222 = .ok (.aload_n 1, 1) := by decide +kernel
theorem dd_Lw_law_223 : decode bb_Lw_law 223 = .ok (.aload_n 0, 1) := by decide +kernel
theorem dd_Lw_law_224 : decode bb_Lw_law 224 = .ok (.iload_n 3, 1) := by decide +kernel
theorem dd_Lw_law_225 : decode bb_Lw_law 225 = .ok (.iconst 1, 1) := by decide +kernel
theorem dd_Lw_law_226 : decode bb_Lw_law 226 = .ok (.iadd, 1) := by decide +kernel
theorem dd_Lw_law_227 : decode bb_Lw_law 227 = .ok (.iaload, 1) := by decide +kernel
theorem dd_Lw_law_228 : decode bb_Lw_law 228 = .ok (.aload_n 0, 1) := by decide +kernel
theorem dd_Lw_law_229 : decode bb_Lw_law 229 = .ok (.iload_n 3, 1) := by decide +kernel
theorem dd_Lw_law_230 : decode bb_Lw_law 230 = .ok (.iconst 2, 1) := by decide +kernel
theorem dd_Lw_law_231 : decode bb_Lw_law 231 = .ok (.iadd, 1) := by decide +kernel
theorem dd_Lw_law_232 : decode bb_Lw_law 232 = .ok (.iaload, 1) := by decide +kernel
theorem dd_Lw_law_233 : decode bb_Lw_law 233 = .ok (.invokevirtual 31, 3) := by decide +kernel
theorem dd_Lw_law_236 : decode bb_Lw_law 236 = .ok (.aload_n 2, 1) := by decide +kernel
theorem dd_Lw_law_237 : decode bb_Lw_law 237 = .ok (.aload_n 0, 1) := by decide +kernel
theorem dd_Lw_law_238 : decode bb_Lw_law 238 = .ok (.iload_n 3, 1) := by decide +kernel
theorem dd_Lw_law_239 : decode bb_Lw_law 239 = .ok (.iconst 1, 1) := by decide +kernel
theorem dd_Lw_law_240 : decode bb_Lw_law 240 = .ok (.iadd, 1) := by decide +kernel
theorem dd_Lw_law_241 : decode bb_Lw_law 241 = .ok (.iaload, 1) := by decide +kernel
theorem dd_Lw_law_242 : decode bb_Lw_law 242 = .ok (.aload_n 0, 1) := by decide +kernel
theorem dd_Lw_law_243 : decode bb_Lw_law 243 = .ok (.iload_n 3, 1) := by decide +kernel
theorem dd_Lw_law_244 : decode bb_Lw_law 244 = .ok (.iconst 2, 1) := by decide +kernel
theorem dd_Lw_law_245 : decode bb_Lw_law 245 = .ok (.iadd, 1) := by decide +kernel
theorem dd_Lw_law_246 : decode bb_Lw_law 246 = .ok (.iaload, 1) := by decide +kernel
theorem dd_Lw_law_247 : decode bb_Lw_law 247 = .ok (.invokevirtual 35, 3) := by decide +kernel
theorem dd_Lw_law_250 : decode bb_Lw_law 250 = .ok (.if_icmp .eq 496, 3) := by decide +kernel
theorem dd_Lw_law_253 : decode bb_Lw_law 253 = .ok (.iconst 0, 1) := by decide +kernel
theorem dd_Lw_law_254 : decode bb_Lw_law 254 = .ok (.ireturn, 1) := by decide +kernel
theorem dd_Lw_law_255 : decode bb_Lw_law 255 = .ok (.aload_n 1, 1) := by decide +kernel
theorem dd_Lw_law_256 : decode bb_Lw_law 256 = .ok (.invokevirtual 36, 3) := by decide +kernel
theorem dd_Lw_law_259 : decode bb_Lw_law 259 = .ok (.aload_n 2, 1) := by decide +kernel
theorem dd_Lw_law_260 : decode bb_Lw_law 260 = .ok (.invokevirtual 40, 3) := by decide +kernel
theorem dd_Lw_law_263 : decode bb_Lw_law 263 = .ok (.if_icmp .eq 483, 3) := by decide +kernel
theorem dd_Lw_law_266 : decode bb_Lw_law 266 = .ok (.iconst 0, 1) := by decide +kernel
theorem dd_Lw_law_267 : decode bb_Lw_law 267 = .ok (.ireturn, 1) := by decide +kernel
theorem dd_Lw_law_268 : decode bb_Lw_law 268 = .ok (.aload_n 1, 1) := by decide +kernel
theorem dd_Lw_law_269 : decode bb_Lw_law 269 = .ok (.aload_n 0, 1) := by decide +kernel
theorem dd_Lw_law_270 : decode bb_Lw_law 270 = .ok (.iload_n 3, 1) := by decide +kernel
theorem dd_Lw_law_271 : decode bb_Lw_law 271 = .ok (.iconst 1, 1) := by decide +kernel
theorem dd_Lw_law_272 : decode bb_Lw_law 272 = .ok (.iadd, 1) := by decide +kernel
theorem dd_Lw_law_273 : decode bb_Lw_law 273 = .ok (.iaload, 1) := by decide +kernel
theorem dd_Lw_law_274 : decode bb_Lw_law 274 = .ok (.invokevirtual 41, 3) := by decide +kernel
theorem dd_Lw_law_277 : decode bb_Lw_law 277 = .ok (.aload_n 2, 1) := by decide +kernel
theorem dd_Lw_law_278 : decode bb_Lw_law 278 = .ok (.aload_n 0, 1) := by decide +kernel
theorem dd_Lw_law_279 : decode bb_Lw_law 279 = .ok (.iload_n 3, 1) := by decide +kernel
theorem dd_Lw_law_280 : decode bb_Lw_law 280 = .ok (.iconst 1, 1) := by decide +kernel
theorem dd_Lw_law_281 : decode bb_Lw_law 281 = .ok (.iadd, 1) := by decide +kernel
theorem dd_Lw_law_282 : decode bb_Lw_law 282 = .ok (.iaload, 1) := by decide +kernel
theorem dd_Lw_law_283 : decode bb_Lw_law 283 = .ok (.invokevirtual 44, 3) := by decide +kernel
theorem dd_Lw_law_286 : decode bb_Lw_law 286 = .ok (.if_icmp .eq 460, 3) := by decide +kernel
theorem dd_Lw_law_289 : decode bb_Lw_law 289 = .ok (.iconst 0, 1) := by decide +kernel
theorem dd_Lw_law_290 : decode bb_Lw_law 290 = .ok (.ireturn, 1) := by decide +kernel
theorem dd_Lw_law_291 : decode bb_Lw_law 291 = .ok (.aload_n 1, 1) := by decide +kernel
theorem dd_Lw_law_292 : decode bb_Lw_law 292 = .ok (.aload_n 0, 1) := by decide +kernel
theorem dd_Lw_law_293 : decode bb_Lw_law 293 = .ok (.iload_n 3, 1) := by decide +kernel
theorem dd_Lw_law_294 : decode bb_Lw_law 294 = .ok (.iconst 1, 1) := by decide +kernel
theorem dd_Lw_law_295 : decode bb_Lw_law 295 = .ok (.iadd, 1) := by decide +kernel
theorem dd_Lw_law_296 : decode bb_Lw_law 296 = .ok (.iaload, 1) := by decide +kernel
theorem dd_Lw_law_297 : decode bb_Lw_law 297 = .ok (.invokevirtual 45, 3) := by decide +kernel
theorem dd_Lw_law_300 : decode bb_Lw_law 300 = .ok (.aload_n 2, 1) := by decide +kernel
theorem dd_Lw_law_301 : decode bb_Lw_law 301 = .ok (.aload_n 0, 1) := by decide +kernel
theorem dd_Lw_law_302 : decode bb_Lw_law 302 = .ok (.iload_n 3, 1) := by decide +kernel
theorem dd_Lw_law_303 : decode bb_Lw_law 303 = .ok (.iconst 1, 1) := by decide +kernel
theorem dd_Lw_law_304 : decode bb_Lw_law 304 = .ok (.iadd, 1) := by decide +kernel
theorem dd_Lw_law_305 : decode bb_Lw_law 305 = .ok (.iaload, 1) := by decide +kernel
theorem dd_Lw_law_306 : decode bb_Lw_law 306 = .ok (.invokevirtual 49, 3) := by decide +kernel
theorem dd_Lw_law_309 : decode bb_Lw_law 309 = .ok (.if_icmp .eq 437, 3) := by decide +kernel
theorem dd_Lw_law_312 : decode bb_Lw_law 312 = .ok (.iconst 0, 1) := by decide +kernel
theorem dd_Lw_law_313 : decode bb_Lw_law 313 = .ok (.ireturn, 1) := by decide +kernel
theorem dd_Lw_law_314 : decode bb_Lw_law 314 = .ok (.aload_n 1, 1) := by decide +kernel
theorem dd_Lw_law_315 : decode bb_Lw_law 315 = .ok (.aload_n 0, 1) := by decide +kernel
theorem dd_Lw_law_316 : decode bb_Lw_law 316 = .ok (.iload_n 3, 1) := by decide +kernel
theorem dd_Lw_law_317 : decode bb_Lw_law 317 = .ok (.iconst 1, 1) := by decide +kernel
theorem dd_Lw_law_318 : decode bb_Lw_law 318 = .ok (.iadd, 1) := by decide +kernel
theorem dd_Lw_law_319 : decode bb_Lw_law 319 = .ok (.iaload, 1) := by decide +kernel
theorem dd_Lw_law_320 : decode bb_Lw_law 320 = .ok (.invokevirtual 50, 3) := by decide +kernel
theorem dd_Lw_law_323 : decode bb_Lw_law 323 = .ok (.aload_n 2, 1) := by decide +kernel
theorem dd_Lw_law_324 : decode bb_Lw_law 324 = .ok (.aload_n 0, 1) := by decide +kernel
theorem dd_Lw_law_325 : decode bb_Lw_law 325 = .ok (.iload_n 3, 1) := by decide +kernel
