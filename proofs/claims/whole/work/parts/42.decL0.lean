theorem d_L_law_0 : decode code 0 = .ok (.new 7, 3) := by decide +kernel
theorem d_L_law_3 : decode code 3 = .ok (.dup, 1) := by decide +kernel
theorem d_L_law_4 : decode code 4 = .ok (.invokespecial 9, 3) := by decide +kernel
theorem d_L_law_7 : decode code 7 = .ok (.astore_n 1, 1) := by decide +kernel
theorem d_L_law_8 : decode code 8 = .ok (.new 10, 3) := by decide +kernel
theorem d_L_law_11 : decode code 11 = .ok (.dup, 1) := by decide +kernel
theorem d_L_law_12 : decode code 12 = .ok (.invokespecial 12, 3) := by decide +kernel
theorem d_L_law_15 : decode code 15 = .ok (.astore_n 2, 1) := by decide +kernel
theorem d_L_law_16 : decode code 16 = .ok (.iconst 0, 1) := by decide +kernel
theorem d_L_law_17 : decode code 17 = .ok (.istore_n 3, 1) := by decide +kernel
theorem d_L_law_18 : decode code 18 = .ok (.iload_n 3, 1) := by decide +kernel
theorem d_L_law_19 : decode code 19 = .ok (.aload_n 0, 1) := by decide +kernel
theorem d_L_law_20 : decode code 20 = .ok (.arraylength, 1) := by decide +kernel
theorem d_L_law_21 : decode code 21 = .ok (.iconst 5, 1) := by decide +kernel
theorem d_L_law_22 : decode code 22 = .ok (.isub, 1) := by decide +kernel
theorem d_L_law_23 : decode code 23 = .ok (.if_icmp .gt 1034, 3) := by decide +kernel
theorem d_L_law_26 : decode code 26 = .ok (.aload_n 0, 1) := by decide +kernel
theorem d_L_law_27 : decode code 27 = .ok (.iload_n 3, 1) := by decide +kernel
theorem d_L_law_28 : decode code 28 = .ok (.iaload, 1) := by decide +kernel
theorem d_L_law_29 : decode code 29 = .ok (.bipush 31, 2) := by decide +kernel
theorem d_L_law_31 : decode code 31 = .ok (.iand, 1) := by decide +kernel
theorem d_L_law_32 : decode code 32 = .ok (.tableswitch 1019 0 17 #[88, 161, 230, 299, 368, 437, 490, 543, 602, 645, 704, 747, 832, 865, 898, 922, 946, 996], 88) := by decide +kernel
theorem d_L_law_120 : decode code 120 = .ok (.aload_n 1, 1) := by decide +kernel
theorem d_L_law_121 : decode code 121 = .ok (.aload_n 0, 1) := by decide +kernel
theorem d_L_law_122 : decode code 122 = .ok (.iload_n 3, 1) := by decide +kernel
theorem d_L_law_123 : decode code 123 = .ok (.iconst 1, 1) := by decide +kernel
theorem d_L_law_124 : decode code 124 = .ok (.iadd, 1) := by decide +kernel
theorem d_L_law_125 : decode code 125 = .ok (.iaload, 1) := by decide +kernel
theorem d_L_law_126 : decode code 126 = .ok (.aload_n 0, 1) := by decide +kernel
theorem d_L_law_127 : decode code 127 = .ok (.iload_n 3, 1) := by decide +kernel
theorem d_L_law_128 : decode code 128 = .ok (.iconst 2, 1) := by decide +kernel
theorem d_L_law_129 : decode code 129 = .ok (.iadd, 1) := by decide +kernel
theorem d_L_law_130 : decode code 130 = .ok (.iaload, 1) := by decide +kernel
theorem d_L_law_131 : decode code 131 = .ok (.i2l, 1) := by decide +kernel
theorem d_L_law_132 : decode code 132 = .ok (.bipush 32, 2) := by decide +kernel
theorem d_L_law_134 : decode code 134 = .ok (.lshl, 1) := by decide +kernel
theorem d_L_law_135 : decode code 135 = .ok (.aload_n 0, 1) := by decide +kernel
theorem d_L_law_136 : decode code 136 = .ok (.iload_n 3, 1) := by decide +kernel
theorem d_L_law_137 : decode code 137 = .ok (.iconst 3, 1) := by decide +kernel
theorem d_L_law_138 : decode code 138 = .ok (.iadd, 1) := by decide +kernel
theorem d_L_law_139 : decode code 139 = .ok (.iaload, 1) := by decide +kernel
theorem d_L_law_140 : decode code 140 = .ok (.i2l, 1) := by decide +kernel
theorem d_L_law_141 : decode code 141 = .ok (.ldc2_w 13, 3) := by decide +kernel
theorem d_L_law_144 : decode code 144 = .ok (.land, 1) := by decide +kernel
theorem d_L_law_145 : decode code 145 = .ok (.lor, 1) := by decide +kernel
theorem d_L_law_146 : decode code 146 = .ok (.aload_n 0, 1) := by decide +kernel
theorem d_L_law_147 : decode code 147 = .ok (.iload_n 3, 1) := by decide +kernel
theorem d_L_law_148 : decode code 148 = .ok (.iconst 4, 1) := by decide +kernel
theorem d_L_law_149 : decode code 149 = .ok (.iadd, 1) := by decide +kernel
theorem d_L_law_150 : decode code 150 = .ok (.iaload, 1) := by decide +kernel
theorem d_L_law_151 : decode code 151 = .ok (.invokevirtual 15, 3) := by decide +kernel
theorem d_L_law_154 : decode code 154 = .ok (.aload_n 2, 1) := by decide +kernel
theorem d_L_law_155 : decode code 155 = .ok (.aload_n 0, 1) := by decide +kernel
theorem d_L_law_156 : decode code 156 = .ok (.iload_n 3, 1) := by decide +kernel
theorem d_L_law_157 : decode code 157 = .ok (.iconst 1, 1) := by decide +kernel
theorem d_L_law_158 : decode code 158 = .ok (.iadd, 1) := by decide +kernel
theorem d_L_law_159 : decode code 159 = .ok (.iaload, 1) := by decide +kernel
theorem d_L_law_160 : decode code 160 = .ok (.aload_n 0, 1) := by decide +kernel
theorem d_L_law_161 : decode code 161 = .ok (.iload_n 3, 1) := by decide +kernel
theorem d_L_law_162 : decode code 162 = .ok (.iconst 2, 1) := by decide +kernel
theorem d_L_law_163 : decode code 163 = .ok (.iadd, 1) := by decide +kernel
theorem d_L_law_164 : decode code 164 = .ok (.iaload, 1) := by decide +kernel
theorem d_L_law_165 : decode code 165 = .ok (.i2l, 1) := by decide +kernel
theorem d_L_law_166 : decode code 166 = .ok (.bipush 32, 2) := by decide +kernel
theorem d_L_law_168 : decode code 168 = .ok (.lshl, 1) := by decide +kernel
theorem d_L_law_169 : decode code 169 = .ok (.aload_n 0, 1) := by decide +kernel
theorem d_L_law_170 : decode code 170 = .ok (.iload_n 3, 1) := by decide +kernel
theorem d_L_law_171 : decode code 171 = .ok (.iconst 3, 1) := by decide +kernel
theorem d_L_law_172 : decode code 172 = .ok (.iadd, 1) := by decide +kernel
theorem d_L_law_173 : decode code 173 = .ok (.iaload, 1) := by decide +kernel
theorem d_L_law_174 : decode code 174 = .ok (.i2l, 1) := by decide +kernel
theorem d_L_law_175 : decode code 175 = .ok (.ldc2_w 13, 3) := by decide +kernel
theorem d_L_law_178 : decode code 178 = .ok (.land, 1) := by decide +kernel
theorem d_L_law_179 : decode code 179 = .ok (.lor, 1) := by decide +kernel
theorem d_L_law_180 : decode code 180 = .ok (.aload_n 0, 1) := by decide +kernel
theorem d_L_law_181 : decode code 181 = .ok (.iload_n 3, 1) := by decide +kernel
theorem d_L_law_182 : decode code 182 = .ok (.iconst 4, 1) := by decide +kernel
theorem d_L_law_183 : decode code 183 = .ok (.iadd, 1) := by decide +kernel
theorem d_L_law_184 : decode code 184 = .ok (.iaload, 1) := by decide +kernel
theorem d_L_law_185 : decode code 185 = .ok (.invokevirtual 19, 3) := by decide +kernel
theorem d_L_law_188 : decode code 188 = .ok (.if_icmp .eq 863, 3) := by decide +kernel
theorem d_L_law_191 : decode code 191 = .ok (.iconst 0, 1) := by decide +kernel
theorem d_L_law_192 : decode code 192 = .ok (.ireturn, 1) := by decide +kernel
theorem d_L_law_193 : decode code 193 = .ok (.aload_n 1, 1) := by decide +kernel
theorem d_L_law_194 : decode code 194 = .ok (.aload_n 0, 1) := by decide +kernel
theorem d_L_law_195 : decode code 195 = .ok (.iload_n 3, 1) := by decide +kernel
theorem d_L_law_196 : decode code 196 = .ok (.iconst 1, 1) := by decide +kernel
theorem d_L_law_197 : decode code 197 = .ok (.iadd, 1) := by decide +kernel
theorem d_L_law_198 : decode code 198 = .ok (.iaload, 1) := by decide +kernel
theorem d_L_law_199 : decode code 199 = .ok (.aload_n 0, 1) := by decide +kernel
theorem d_L_law_200 : decode code 200 = .ok (.iload_n 3, 1) := by decide +kernel
theorem d_L_law_201 : decode code 201 = .ok (.iconst 2, 1) := by decide +kernel
theorem d_L_law_202 : decode code 202 = .ok (.iadd, 1) := by decide +kernel
theorem d_L_law_203 : decode code 203 = .ok (.iaload, 1) := by decide +kernel
theorem d_L_law_204 : decode code 204 = .ok (.aload_n 0, 1) := by decide +kernel
theorem d_L_law_205 : decode code 205 = .ok (.iload_n 3, 1) := by decide +kernel
theorem d_L_law_206 : decode code 206 = .ok (.iconst 3, 1) := by decide +kernel
theorem d_L_law_207 : decode code 207 = .ok (.iadd, 1) := by decide +kernel
theorem d_L_law_208 : decode code 208 = .ok (.iaload, 1) := by decide +kernel
theorem d_L_law_209 : decode code 209 = .ok (.aload_n 0, 1) := by decide +kernel
theorem d_L_law_210 : decode code 210 = .ok (.iload_n 3, 1) := by decide +kernel
theorem d_L_law_211 : decode code 211 = .ok (.iconst 4, 1) := by decide +kernel
theorem d_L_law_212 : decode code 212 = .ok (.iadd, 1) := by decide +kernel
theorem d_L_law_213 : decode code 213 = .ok (.iaload, 1) := by decide +kernel
theorem d_L_law_214 : decode code 214 = .ok (.ifCond .eq 7, 3) := by decide +kernel
theorem d_L_law_217 : decode code 217 = .ok (.iconst 1, 1) := by decide +kernel
theorem d_L_law_218 : decode code 218 = .ok (.goto 4, 3) := by decide +kernel
theorem d_L_law_221 : decode code 221 = .ok (.iconst 0, 1) := by decide +kernel
theorem d_L_law_222 : decode code 222 = .ok (.invokevirtual 20, 3) := by decide +kernel
theorem d_L_law_225 : decode code 225 = .ok (.aload_n 2, 1) := by decide +kernel
theorem d_L_law_226 : decode code 226 = .ok (.aload_n 0, 1) := by decide +kernel
theorem d_L_law_227 : decode code 227 = .ok (.iload_n 3, 1) := by decide +kernel
theorem d_L_law_228 : decode code 228 = .ok (.iconst 1, 1) := by decide +kernel
theorem d_L_law_229 : decode code 229 = .ok (.iadd, 1) := by decide +kernel
theorem d_L_law_230 : decode code 230 = .ok (.iaload, 1) := by decide +kernel
theorem d_L_law_231 : decode code 231 = .ok (.aload_n 0, 1) := by decide +kernel
theorem d_L_law_232 : decode code 232 = .ok (.iload_n 3, 1) := by decide +kernel
theorem d_L_law_233 : decode code 233 = .ok (.iconst 2, 1) := by decide +kernel
theorem d_L_law_234 : decode code 234 = .ok (.iadd, 1) := by decide +kernel
theorem d_L_law_235 : decode code 235 = .ok (.iaload, 1) := by decide +kernel
theorem d_L_law_236 : decode code 236 = .ok (.aload_n 0, 1) := by decide +kernel
theorem d_L_law_237 : decode code 237 = .ok (.iload_n 3, 1) := by decide +kernel
theorem d_L_law_238 : decode code 238 = .ok (.iconst 3, 1) := by decide +kernel
theorem d_L_law_239 : decode code 239 = .ok (.iadd, 1) := by decide +kernel
theorem d_L_law_240 : decode code 240 = .ok (.iaload, 1) := by decide +kernel
theorem d_L_law_241 : decode code 241 = .ok (.aload_n 0, 1) := by decide +kernel
theorem d_L_law_242 : decode code 242 = .ok (.iload_n 3, 1) := by decide +kernel
theorem d_L_law_243 : decode code 243 = .ok (.iconst 4, 1) := by decide +kernel
theorem d_L_law_244 : decode code 244 = .ok (.iadd, 1) := by decide +kernel
theorem d_L_law_245 : decode code 245 = .ok (.iaload, 1) := by decide +kernel
theorem d_L_law_246 : decode code 246 = .ok (.ifCond .eq 7, 3) := by decide +kernel
theorem d_L_law_249 : decode code 249 = .ok (.iconst 1, 1) := by decide +kernel
theorem d_L_law_250 : decode code 250 = .ok (.goto 4, 3) := by decide +kernel
theorem d_L_law_253 : decode code 253 = .ok (.iconst 0, 1) := by decide +kernel
theorem d_L_law_254 : decode code 254 = .ok (.invokevirtual 24, 3) := by decide +kernel
theorem d_L_law_257 : decode code 257 = .ok (.if_icmp .eq 794, 3) := by decide +kernel
theorem d_L_law_260 : decode code 260 = .ok (.iconst 0, 1) := by decide +kernel
theorem d_L_law_261 : decode code 261 = .ok (.ireturn, 1) := by decide +kernel
theorem d_L_law_262 : decode code 262 = .ok (.aload_n 1, 1) := by decide +kernel
theorem d_L_law_263 : decode code 263 = .ok (.aload_n 0, 1) := by decide +kernel
theorem d_L_law_264 : decode code 264 = .ok (.iload_n 3, 1) := by decide +kernel
theorem d_L_law_265 : decode code 265 = .ok (.iconst 1, 1) := by decide +kernel
theorem d_L_law_266 : decode code 266 = .ok (.iadd, 1) := by decide +kernel
theorem d_L_law_267 : decode code 267 = .ok (.iaload, 1) := by decide +kernel
theorem d_L_law_268 : decode code 268 = .ok (.aload_n 0, 1) := by decide +kernel
theorem d_L_law_269 : decode code 269 = .ok (.iload_n 3, 1) := by decide +kernel
theorem d_L_law_270 : decode code 270 = .ok (.iconst 2, 1) := by decide +kernel
theorem d_L_law_271 : decode code 271 = .ok (.iadd, 1) := by decide +kernel
theorem d_L_law_272 : decode code 272 = .ok (.iaload, 1) := by decide +kernel
theorem d_L_law_273 : decode code 273 = .ok (.aload_n 0, 1) := by decide +kernel
theorem d_L_law_274 : decode code 274 = .ok (.iload_n 3, 1) := by decide +kernel
theorem d_L_law_275 : decode code 275 = .ok (.iconst 3, 1) := by decide +kernel
theorem d_L_law_276 : decode code 276 = .ok (.iadd, 1) := by decide +kernel
theorem d_L_law_277 : decode code 277 = .ok (.iaload, 1) := by decide +kernel
theorem d_L_law_278 : decode code 278 = .ok (.aload_n 0, 1) := by decide +kernel
theorem d_L_law_279 : decode code 279 = .ok (.iload_n 3, 1) := by decide +kernel
theorem d_L_law_280 : decode code 280 = .ok (.iconst 4, 1) := by decide +kernel
theorem d_L_law_281 : decode code 281 = .ok (.iadd, 1) := by decide +kernel
theorem d_L_law_282 : decode code 282 = .ok (.iaload, 1) := by decide +kernel
theorem d_L_law_283 : decode code 283 = .ok (.ifCond .eq 7, 3) := by decide +kernel
theorem d_L_law_286 : decode code 286 = .ok (.iconst 1, 1) := by decide +kernel
theorem d_L_law_287 : decode code 287 = .ok (.goto 4, 3) := by decide +kernel
theorem d_L_law_290 : decode code 290 = .ok (.iconst 0, 1) := by decide +kernel
theorem d_L_law_291 : decode code 291 = .ok (.invokevirtual 25, 3) := by decide +kernel
theorem d_L_law_294 : decode code 294 = .ok (.aload_n 2, 1) := by decide +kernel
theorem d_L_law_295 : decode code 295 = .ok (.aload_n 0, 1) := by decide +kernel
theorem d_L_law_296 : decode code 296 = .ok (.iload_n 3, 1) := by decide +kernel
theorem d_L_law_297 : decode code 297 = .ok (.iconst 1, 1) := by decide +kernel
theorem d_L_law_298 : decode code 298 = .ok (.iadd, 1) := by decide +kernel
theorem d_L_law_299 : decode code 299 = .ok (.iaload, 1) := by decide +kernel
theorem d_L_law_300 : decode code 300 = .ok (.aload_n 0, 1) := by decide +kernel
theorem d_L_law_301 : decode code 301 = .ok (.iload_n 3, 1) := by decide +kernel
theorem d_L_law_302 : decode code 302 = .ok (.iconst 2, 1) := by decide +kernel
theorem d_L_law_303 : decode code 303 = .ok (.iadd, 1) := by decide +kernel
theorem d_L_law_304 : decode code 304 = .ok (.iaload, 1) := by decide +kernel
theorem d_L_law_305 : decode code 305 = .ok (.aload_n 0, 1) := by decide +kernel
theorem d_L_law_306 : decode code 306 = .ok (.iload_n 3, 1) := by decide +kernel
theorem d_L_law_307 : decode code 307 = .ok (.iconst 3, 1) := by decide +kernel
theorem d_L_law_308 : decode code 308 = .ok (.iadd, 1) := by decide +kernel
theorem d_L_law_309 : decode code 309 = .ok (.iaload, 1) := by decide +kernel
theorem d_L_law_310 : decode code 310 = .ok (.aload_n 0, 1) := by decide +kernel
theorem d_L_law_311 : decode code 311 = .ok (.iload_n 3, 1) := by decide +kernel
theorem d_L_law_312 : decode code 312 = .ok (.iconst 4, 1) := by decide +kernel
theorem d_L_law_313 : decode code 313 = .ok (.iadd, 1) := by decide +kernel
theorem d_L_law_314 : decode code 314 = .ok (.iaload, 1) := by decide +kernel
theorem d_L_law_315 : decode code 315 = .ok (.ifCond .eq 7, 3) := by decide +kernel
theorem d_L_law_318 : decode code 318 = .ok (.iconst 1, 1) := by decide +kernel
theorem d_L_law_319 : decode code 319 = .ok (.goto 4, 3) := by decide +kernel
theorem d_L_law_322 : decode code 322 = .ok (.iconst 0, 1) := by decide +kernel
theorem d_L_law_323 : decode code 323 = .ok (.invokevirtual 28, 3) := by decide +kernel
theorem d_L_law_326 : decode code 326 = .ok (.if_icmp .eq 725, 3) := by decide +kernel
theorem d_L_law_329 : decode code 329 = .ok (.iconst 0, 1) := by decide +kernel
theorem d_L_law_330 : decode code 330 = .ok (.ireturn, 1) := by decide +kernel
theorem d_L_law_331 : decode code 331 = .ok (.aload_n 1, 1) := by decide +kernel
theorem d_L_law_332 : decode code 332 = .ok (.aload_n 0, 1) := by decide +kernel
theorem d_L_law_333 : decode code 333 = .ok (.iload_n 3, 1) := by decide +kernel
theorem d_L_law_334 : decode code 334 = .ok (.iconst 1, 1) := by decide +kernel
theorem d_L_law_335 : decode code 335 = .ok (.iadd, 1) := by decide +kernel
theorem d_L_law_336 : decode code 336 = .ok (.iaload, 1) := by decide +kernel
theorem d_L_law_337 : decode code 337 = .ok (.aload_n 0, 1) := by decide +kernel
