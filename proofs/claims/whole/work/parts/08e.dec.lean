theorem dX11_readsItem_71 : decode cX11_readsItem 71 = .ok (.ifCond .eq 38, 3) := by decide +kernel
theorem dX11_readsItem_74 : decode cX11_readsItem 74 = .ok (.aload_n 0, 1) := by decide +kernel
theorem dX11_readsItem_75 : decode cX11_readsItem 75 = .ok (.getfield 31, 3) := by decide +kernel
theorem dX11_readsItem_78 : decode cX11_readsItem 78 = .ok (.iconst 1, 1) := by decide +kernel
theorem dX11_readsItem_79 : decode cX11_readsItem 79 = .ok (.iaload, 1) := by decide +kernel
theorem dX11_readsItem_80 : decode cX11_readsItem 80 = .ok (.iconst 1, 1) := by decide +kernel
theorem dX11_readsItem_81 : decode cX11_readsItem 81 = .ok (.iconst 5, 1) := by decide +kernel
theorem dX11_readsItem_82 : decode cX11_readsItem 82 = .ok (.invokestatic 61, 3) := by decide +kernel
theorem dX11_readsItem_85 : decode cX11_readsItem 85 = .ok (.ifCond .eq 24, 3) := by decide +kernel
theorem dX11_readsItem_88 : decode cX11_readsItem 88 = .ok (.aload_n 0, 1) := by decide +kernel
theorem dX11_readsItem_89 : decode cX11_readsItem 89 = .ok (.getfield 31, 3) := by decide +kernel
theorem dX11_readsItem_92 : decode cX11_readsItem 92 = .ok (.iconst 2, 1) := by decide +kernel
theorem dX11_readsItem_93 : decode cX11_readsItem 93 = .ok (.iaload, 1) := by decide +kernel
theorem dX11_readsItem_94 : decode cX11_readsItem 94 = .ok (.iconst 3, 1) := by decide +kernel
theorem dX11_readsItem_95 : decode cX11_readsItem 95 = .ok (.if_icmp .gt 14, 3) := by decide +kernel
theorem dX11_readsItem_98 : decode cX11_readsItem 98 = .ok (.aload_n 0, 1) := by decide +kernel
theorem dX11_readsItem_99 : decode cX11_readsItem 99 = .ok (.getfield 31, 3) := by decide +kernel
theorem dX11_readsItem_102 : decode cX11_readsItem 102 = .ok (.iconst 3, 1) := by decide +kernel
theorem dX11_readsItem_103 : decode cX11_readsItem 103 = .ok (.iaload, 1) := by decide +kernel
theorem dX11_readsItem_104 : decode cX11_readsItem 104 = .ok (.bipush 40, 2) := by decide +kernel
theorem dX11_readsItem_106 : decode cX11_readsItem 106 = .ok (.if_icmp .le 5, 3) := by decide +kernel
theorem dX11_readsItem_109 : decode cX11_readsItem 109 = .ok (.iconst 0, 1) := by decide +kernel
theorem dX11_readsItem_110 : decode cX11_readsItem 110 = .ok (.ireturn, 1) := by decide +kernel
theorem dX11_readsItem_111 : decode cX11_readsItem 111 = .ok (.iconst 0, 1) := by decide +kernel
theorem dX11_readsItem_112 : decode cX11_readsItem 112 = .ok (.istore_n 2, 1) := by decide +kernel
theorem dX11_readsItem_113 : decode cX11_readsItem 113 = .ok (.iload_n 2, 1) := by decide +kernel
theorem dX11_readsItem_114 : decode cX11_readsItem 114 = .ok (.aload_n 0, 1) := by decide +kernel
theorem dX11_readsItem_115 : decode cX11_readsItem 115 = .ok (.getfield 16, 3) := by decide +kernel
theorem dX11_readsItem_118 : decode cX11_readsItem 118 = .ok (.iconst 0, 1) := by decide +kernel
theorem dX11_readsItem_119 : decode cX11_readsItem 119 = .ok (.iaload, 1) := by decide +kernel
theorem dX11_readsItem_120 : decode cX11_readsItem 120 = .ok (.if_icmp .ge 28, 3) := by decide +kernel
theorem dX11_readsItem_123 : decode cX11_readsItem 123 = .ok (.aload_n 0, 1) := by decide +kernel
theorem dX11_readsItem_124 : decode cX11_readsItem 124 = .ok (.getfield 16, 3) := by decide +kernel
theorem dX11_readsItem_127 : decode cX11_readsItem 127 = .ok (.iconst 5, 1) := by decide +kernel
theorem dX11_readsItem_128 : decode cX11_readsItem 128 = .ok (.iload_n 2, 1) := by decide +kernel
theorem dX11_readsItem_129 : decode cX11_readsItem 129 = .ok (.iadd, 1) := by decide +kernel
theorem dX11_readsItem_130 : decode cX11_readsItem 130 = .ok (.iaload, 1) := by decide +kernel
theorem dX11_readsItem_131 : decode cX11_readsItem 131 = .ok (.aload_n 0, 1) := by decide +kernel
theorem dX11_readsItem_132 : decode cX11_readsItem 132 = .ok (.getfield 31, 3) := by decide +kernel
theorem dX11_readsItem_135 : decode cX11_readsItem 135 = .ok (.iconst 0, 1) := by decide +kernel
theorem dX11_readsItem_136 : decode cX11_readsItem 136 = .ok (.iaload, 1) := by decide +kernel
theorem dX11_readsItem_137 : decode cX11_readsItem 137 = .ok (.if_icmp .ne 5, 3) := by decide +kernel
theorem dX11_readsItem_140 : decode cX11_readsItem 140 = .ok (.iconst 0, 1) := by decide +kernel
theorem dX11_readsItem_141 : decode cX11_readsItem 141 = .ok (.ireturn, 1) := by decide +kernel
theorem dX11_readsItem_142 : decode cX11_readsItem 142 = .ok (.iinc 2 1, 3) := by decide +kernel
theorem dX11_readsItem_145 : decode cX11_readsItem 145 = .ok (.goto (-32), 3) := by decide +kernel
theorem dX11_readsItem_148 : decode cX11_readsItem 148 = .ok (.aload_n 0, 1) := by decide +kernel
theorem dX11_readsItem_149 : decode cX11_readsItem 149 = .ok (.aload_n 0, 1) := by decide +kernel
theorem dX11_readsItem_150 : decode cX11_readsItem 150 = .ok (.getfield 31, 3) := by decide +kernel
theorem dX11_readsItem_153 : decode cX11_readsItem 153 = .ok (.iconst 0, 1) := by decide +kernel
theorem dX11_readsItem_154 : decode cX11_readsItem 154 = .ok (.iaload, 1) := by decide +kernel
theorem dX11_readsItem_155 : decode cX11_readsItem 155 = .ok (.aload_n 0, 1) := by decide +kernel
theorem dX11_readsItem_156 : decode cX11_readsItem 156 = .ok (.getfield 31, 3) := by decide +kernel
theorem dX11_readsItem_159 : decode cX11_readsItem 159 = .ok (.iconst 1, 1) := by decide +kernel
theorem dX11_readsItem_160 : decode cX11_readsItem 160 = .ok (.iaload, 1) := by decide +kernel
theorem dX11_readsItem_161 : decode cX11_readsItem 161 = .ok (.aload_n 0, 1) := by decide +kernel
theorem dX11_readsItem_162 : decode cX11_readsItem 162 = .ok (.getfield 31, 3) := by decide +kernel
theorem dX11_readsItem_165 : decode cX11_readsItem 165 = .ok (.iconst 2, 1) := by decide +kernel
theorem dX11_readsItem_166 : decode cX11_readsItem 166 = .ok (.iaload, 1) := by decide +kernel
theorem dX11_readsItem_167 : decode cX11_readsItem 167 = .ok (.aload_n 0, 1) := by decide +kernel
theorem dX11_readsItem_168 : decode cX11_readsItem 168 = .ok (.getfield 31, 3) := by decide +kernel
theorem dX11_readsItem_171 : decode cX11_readsItem 171 = .ok (.iconst 3, 1) := by decide +kernel
theorem dX11_readsItem_172 : decode cX11_readsItem 172 = .ok (.iaload, 1) := by decide +kernel
theorem dX11_readsItem_173 : decode cX11_readsItem 173 = .ok (.invokevirtual 46, 3) := by decide +kernel
theorem dX11_readsItem_176 : decode cX11_readsItem 176 = .ok (.iconst 1, 1) := by decide +kernel
theorem dX11_readsItem_177 : decode cX11_readsItem 177 = .ok (.ireturn, 1) := by decide +kernel
theorem dX11_readsItem_178 : decode cX11_readsItem 178 = .ok (.aload_n 0, 1) := by decide +kernel
theorem dX11_readsItem_179 : decode cX11_readsItem 179 = .ok (.iconst 2, 1) := by decide +kernel
theorem dX11_readsItem_180 : decode cX11_readsItem 180 = .ok (.invokevirtual 84, 3) := by decide +kernel
theorem dX11_readsItem_183 : decode cX11_readsItem 183 = .ok (.ifCond .eq 36, 3) := by decide +kernel
theorem dX11_readsItem_186 : decode cX11_readsItem 186 = .ok (.aload_n 0, 1) := by decide +kernel
theorem dX11_readsItem_187 : decode cX11_readsItem 187 = .ok (.getfield 16, 3) := by decide +kernel
theorem dX11_readsItem_190 : decode cX11_readsItem 190 = .ok (.iconst 1, 1) := by decide +kernel
theorem dX11_readsItem_191 : decode cX11_readsItem 191 = .ok (.iaload, 1) := by decide +kernel
theorem dX11_readsItem_192 : decode cX11_readsItem 192 = .ok (.bipush 8, 2) := by decide +kernel
theorem dX11_readsItem_194 : decode cX11_readsItem 194 = .ok (.if_icmp .eq 25, 3) := by decide +kernel
theorem dX11_readsItem_197 : decode cX11_readsItem 197 = .ok (.aload_n 0, 1) := by decide +kernel
theorem dX11_readsItem_198 : decode cX11_readsItem 198 = .ok (.getfield 31, 3) := by decide +kernel
theorem dX11_readsItem_201 : decode cX11_readsItem 201 = .ok (.iconst 0, 1) := by decide +kernel
theorem dX11_readsItem_202 : decode cX11_readsItem 202 = .ok (.iaload, 1) := by decide +kernel
theorem dX11_readsItem_203 : decode cX11_readsItem 203 = .ok (.invokestatic 87, 3) := by decide +kernel
theorem dX11_readsItem_206 : decode cX11_readsItem 206 = .ok (.ifCond .eq 13, 3) := by decide +kernel
theorem dX11_readsItem_209 : decode cX11_readsItem 209 = .ok (.aload_n 0, 1) := by decide +kernel
theorem dX11_readsItem_210 : decode cX11_readsItem 210 = .ok (.getfield 31, 3) := by decide +kernel
theorem dX11_readsItem_213 : decode cX11_readsItem 213 = .ok (.iconst 1, 1) := by decide +kernel
theorem dX11_readsItem_214 : decode cX11_readsItem 214 = .ok (.iaload, 1) := by decide +kernel
theorem dX11_readsItem_215 : decode cX11_readsItem 215 = .ok (.iconst 3, 1) := by decide +kernel
theorem dX11_readsItem_216 : decode cX11_readsItem 216 = .ok (.if_icmp .le 5, 3) := by decide +kernel
theorem dX11_readsItem_219 : decode cX11_readsItem 219 = .ok (.iconst 0, 1) := by decide +kernel
theorem dX11_readsItem_220 : decode cX11_readsItem 220 = .ok (.ireturn, 1) := by decide +kernel
theorem dX11_readsItem_221 : decode cX11_readsItem 221 = .ok (.aload_n 0, 1) := by decide +kernel
theorem dX11_readsItem_222 : decode cX11_readsItem 222 = .ok (.aload_n 0, 1) := by decide +kernel
theorem dX11_readsItem_223 : decode cX11_readsItem 223 = .ok (.getfield 31, 3) := by decide +kernel
theorem dX11_readsItem_226 : decode cX11_readsItem 226 = .ok (.iconst 0, 1) := by decide +kernel
theorem dX11_readsItem_227 : decode cX11_readsItem 227 = .ok (.iaload, 1) := by decide +kernel
theorem dX11_readsItem_228 : decode cX11_readsItem 228 = .ok (.aload_n 0, 1) := by decide +kernel
theorem dX11_readsItem_229 : decode cX11_readsItem 229 = .ok (.getfield 31, 3) := by decide +kernel
theorem dX11_readsItem_232 : decode cX11_readsItem 232 = .ok (.iconst 1, 1) := by decide +kernel
theorem dX11_readsItem_233 : decode cX11_readsItem 233 = .ok (.iaload, 1) := by decide +kernel
theorem dX11_readsItem_234 : decode cX11_readsItem 234 = .ok (.invokevirtual 50, 3) := by decide +kernel
theorem dX11_readsItem_237 : decode cX11_readsItem 237 = .ok (.iconst 1, 1) := by decide +kernel
theorem dX11_readsItem_238 : decode cX11_readsItem 238 = .ok (.ireturn, 1) := by decide +kernel
theorem dX11_readsItem_239 : decode cX11_readsItem 239 = .ok (.aload_n 0, 1) := by decide +kernel
theorem dX11_readsItem_240 : decode cX11_readsItem 240 = .ok (.iconst 1, 1) := by decide +kernel
theorem dX11_readsItem_241 : decode cX11_readsItem 241 = .ok (.invokevirtual 84, 3) := by decide +kernel
theorem dX11_readsItem_244 : decode cX11_readsItem 244 = .ok (.ifCond .eq 26, 3) := by decide +kernel
theorem dX11_readsItem_247 : decode cX11_readsItem 247 = .ok (.aload_n 0, 1) := by decide +kernel
theorem dX11_readsItem_248 : decode cX11_readsItem 248 = .ok (.getfield 16, 3) := by decide +kernel
theorem dX11_readsItem_251 : decode cX11_readsItem 251 = .ok (.iconst 2, 1) := by decide +kernel
theorem dX11_readsItem_252 : decode cX11_readsItem 252 = .ok (.iaload, 1) := by decide +kernel
theorem dX11_readsItem_253 : decode cX11_readsItem 253 = .ok (.bipush 6, 2) := by decide +kernel
theorem dX11_readsItem_255 : decode cX11_readsItem 255 = .ok (.if_icmp .eq 15, 3) := by decide +kernel
theorem dX11_readsItem_258 : decode cX11_readsItem 258 = .ok (.aload_n 0, 1) := by decide +kernel
theorem dX11_readsItem_259 : decode cX11_readsItem 259 = .ok (.getfield 31, 3) := by decide +kernel
theorem dX11_readsItem_262 : decode cX11_readsItem 262 = .ok (.iconst 0, 1) := by decide +kernel
theorem dX11_readsItem_263 : decode cX11_readsItem 263 = .ok (.iaload, 1) := by decide +kernel
theorem dX11_readsItem_264 : decode cX11_readsItem 264 = .ok (.invokestatic 87, 3) := by decide +kernel
theorem dX11_readsItem_267 : decode cX11_readsItem 267 = .ok (.ifCond .ne 5, 3) := by decide +kernel
theorem dX11_readsItem_270 : decode cX11_readsItem 270 = .ok (.iconst 0, 1) := by decide +kernel
theorem dX11_readsItem_271 : decode cX11_readsItem 271 = .ok (.ireturn, 1) := by decide +kernel
theorem dX11_readsItem_272 : decode cX11_readsItem 272 = .ok (.aload_n 0, 1) := by decide +kernel
theorem dX11_readsItem_273 : decode cX11_readsItem 273 = .ok (.aload_n 0, 1) := by decide +kernel
theorem dX11_readsItem_274 : decode cX11_readsItem 274 = .ok (.getfield 31, 3) := by decide +kernel
theorem dX11_readsItem_277 : decode cX11_readsItem 277 = .ok (.iconst 0, 1) := by decide +kernel
theorem dX11_readsItem_278 : decode cX11_readsItem 278 = .ok (.iaload, 1) := by decide +kernel
theorem dX11_readsItem_279 : decode cX11_readsItem 279 = .ok (.invokevirtual 54, 3) := by decide +kernel
theorem dX11_readsItem_282 : decode cX11_readsItem 282 = .ok (.iconst 1, 1) := by decide +kernel
theorem dX11_readsItem_283 : decode cX11_readsItem 283 = .ok (.ireturn, 1) := by decide +kernel
theorem dX11_readsItem_284 : decode cX11_readsItem 284 = .ok (.aload_n 0, 1) := by decide +kernel
theorem dX11_readsItem_285 : decode cX11_readsItem 285 = .ok (.iconst 2, 1) := by decide +kernel
theorem dX11_readsItem_286 : decode cX11_readsItem 286 = .ok (.invokevirtual 84, 3) := by decide +kernel
theorem dX11_readsItem_289 : decode cX11_readsItem 289 = .ok (.ifCond .eq 25, 3) := by decide +kernel
theorem dX11_readsItem_292 : decode cX11_readsItem 292 = .ok (.aload_n 0, 1) := by decide +kernel
theorem dX11_readsItem_293 : decode cX11_readsItem 293 = .ok (.getfield 31, 3) := by decide +kernel
theorem dX11_readsItem_296 : decode cX11_readsItem 296 = .ok (.iconst 0, 1) := by decide +kernel
theorem dX11_readsItem_297 : decode cX11_readsItem 297 = .ok (.iaload, 1) := by decide +kernel
theorem dX11_readsItem_298 : decode cX11_readsItem 298 = .ok (.bipush 9, 2) := by decide +kernel
theorem dX11_readsItem_300 : decode cX11_readsItem 300 = .ok (.if_icmp .gt 14, 3) := by decide +kernel
theorem dX11_readsItem_303 : decode cX11_readsItem 303 = .ok (.aload_n 0, 1) := by decide +kernel
theorem dX11_readsItem_304 : decode cX11_readsItem 304 = .ok (.getfield 31, 3) := by decide +kernel
theorem dX11_readsItem_307 : decode cX11_readsItem 307 = .ok (.iconst 1, 1) := by decide +kernel
theorem dX11_readsItem_308 : decode cX11_readsItem 308 = .ok (.iaload, 1) := by decide +kernel
theorem dX11_readsItem_309 : decode cX11_readsItem 309 = .ok (.bipush 9, 2) := by decide +kernel
theorem dX11_readsItem_311 : decode cX11_readsItem 311 = .ok (.if_icmp .le 5, 3) := by decide +kernel
theorem dX11_readsItem_314 : decode cX11_readsItem 314 = .ok (.iconst 0, 1) := by decide +kernel
theorem dX11_readsItem_315 : decode cX11_readsItem 315 = .ok (.ireturn, 1) := by decide +kernel
theorem dX11_readsItem_316 : decode cX11_readsItem 316 = .ok (.aload_n 0, 1) := by decide +kernel
theorem dX11_readsItem_317 : decode cX11_readsItem 317 = .ok (.getfield 16, 3) := by decide +kernel
theorem dX11_readsItem_320 : decode cX11_readsItem 320 = .ok (.iconst 3, 1) := by decide +kernel
theorem dX11_readsItem_321 : decode cX11_readsItem 321 = .ok (.aload_n 0, 1) := by decide +kernel
theorem dX11_readsItem_322 : decode cX11_readsItem 322 = .ok (.getfield 31, 3) := by decide +kernel
theorem dX11_readsItem_325 : decode cX11_readsItem 325 = .ok (.iconst 0, 1) := by decide +kernel
theorem dX11_readsItem_326 : decode cX11_readsItem 326 = .ok (.iaload, 1) := by decide +kernel
theorem dX11_readsItem_327 : decode cX11_readsItem 327 = .ok (.iastore, 1) := by decide +kernel
theorem dX11_readsItem_328 : decode cX11_readsItem 328 = .ok (.aload_n 0, 1) := by decide +kernel
theorem dX11_readsItem_329 : decode cX11_readsItem 329 = .ok (.getfield 16, 3) := by decide +kernel
theorem dX11_readsItem_332 : decode cX11_readsItem 332 = .ok (.iconst 4, 1) := by decide +kernel
theorem dX11_readsItem_333 : decode cX11_readsItem 333 = .ok (.aload_n 0, 1) := by decide +kernel
theorem dX11_readsItem_334 : decode cX11_readsItem 334 = .ok (.getfield 31, 3) := by decide +kernel
theorem dX11_readsItem_337 : decode cX11_readsItem 337 = .ok (.iconst 1, 1) := by decide +kernel
theorem dX11_readsItem_338 : decode cX11_readsItem 338 = .ok (.iaload, 1) := by decide +kernel
theorem dX11_readsItem_339 : decode cX11_readsItem 339 = .ok (.iastore, 1) := by decide +kernel
theorem dX11_readsItem_340 : decode cX11_readsItem 340 = .ok (.iconst 1, 1) := by decide +kernel
theorem dX11_readsItem_341 : decode cX11_readsItem 341 = .ok (.ireturn, 1) := by decide +kernel
theorem dX11_readsItem_342 : decode cX11_readsItem 342 = .ok (.iconst 0, 1) := by decide +kernel
theorem dX11_readsItem_343 : decode cX11_readsItem 343 = .ok (.ireturn, 1) := by decide +kernel
theorem dX11_readsAll_0 : decode cX11_readsAll 0 = .ok (.aload_n 0, 1) := by decide +kernel
theorem dX11_readsAll_1 : decode cX11_readsAll 1 = .ok (.invokevirtual 43, 3) := by decide +kernel
theorem dX11_readsAll_4 : decode cX11_readsAll 4 = .ok (.aload_n 0, 1) := by decide +kernel
theorem dX11_readsAll_5 : decode cX11_readsAll 5 = .ok (.iconst 0, 1) := by decide +kernel
theorem dX11_readsAll_6 : decode cX11_readsAll 6 = .ok (.putfield 69, 3) := by decide +kernel
theorem dX11_readsAll_9 : decode cX11_readsAll 9 = .ok (.aload_n 0, 1) := by decide +kernel
theorem dX11_readsAll_10 : decode cX11_readsAll 10 = .ok (.getfield 69, 3) := by decide +kernel
theorem dX11_readsAll_13 : decode cX11_readsAll 13 = .ok (.aload_n 0, 1) := by decide +kernel
theorem dX11_readsAll_14 : decode cX11_readsAll 14 = .ok (.getfield 65, 3) := by decide +kernel
theorem dX11_readsAll_17 : decode cX11_readsAll 17 = .ok (.if_icmp .ge 36, 3) := by decide +kernel
theorem dX11_readsAll_20 : decode cX11_readsAll 20 = .ok (.aload_n 0, 1) := by decide +kernel
theorem dX11_readsAll_21 : decode cX11_readsAll 21 = .ok (.getfield 69, 3) := by decide +kernel
theorem dX11_readsAll_24 : decode cX11_readsAll 24 = .ok (.istore_n 1, 1) := by decide +kernel
theorem dX11_readsAll_25 : decode cX11_readsAll 25 = .ok (.aload_n 0, 1) := by decide +kernel
theorem dX11_readsAll_26 : decode cX11_readsAll 26 = .ok (.dup, 1) := by decide +kernel
theorem dX11_readsAll_27 : decode cX11_readsAll 27 = .ok (.getfield 69, 3) := by decide +kernel
theorem dX11_readsAll_30 : decode cX11_readsAll 30 = .ok (.iconst 1, 1) := by decide +kernel
theorem dX11_readsAll_31 : decode cX11_readsAll 31 = .ok (.iadd, 1) := by decide +kernel
theorem dX11_readsAll_32 : decode cX11_readsAll 32 = .ok (.putfield 69, 3) := by decide +kernel
theorem dX11_readsAll_35 : decode cX11_readsAll 35 = .ok (.aload_n 0, 1) := by decide +kernel
theorem dX11_readsAll_36 : decode cX11_readsAll 36 = .ok (.aload_n 0, 1) := by decide +kernel
theorem dX11_readsAll_37 : decode cX11_readsAll 37 = .ok (.getfield 7, 3) := by decide +kernel
theorem dX11_readsAll_40 : decode cX11_readsAll 40 = .ok (.iload_n 1, 1) := by decide +kernel
theorem dX11_readsAll_41 : decode cX11_readsAll 41 = .ok (.iaload, 1) := by decide +kernel
theorem dX11_readsAll_42 : decode cX11_readsAll 42 = .ok (.invokevirtual 90, 3) := by decide +kernel
theorem dX11_readsAll_45 : decode cX11_readsAll 45 = .ok (.ifCond .ne 5, 3) := by decide +kernel
theorem dX11_readsAll_48 : decode cX11_readsAll 48 = .ok (.iload_n 1, 1) := by decide +kernel
theorem dX11_readsAll_49 : decode cX11_readsAll 49 = .ok (.ireturn, 1) := by decide +kernel
theorem dX11_readsAll_50 : decode cX11_readsAll 50 = .ok (.goto (-41), 3) := by decide +kernel
theorem dX11_readsAll_53 : decode cX11_readsAll 53 = .ok (.bipush (-4), 2) := by decide +kernel
theorem dX11_readsAll_55 : decode cX11_readsAll 55 = .ok (.ireturn, 1) := by decide +kernel
theorem dX11_fault_0 : decode cX11_fault 0 = .ok (.aload_n 0, 1) := by decide +kernel
theorem dX11_fault_1 : decode cX11_fault 1 = .ok (.invokevirtual 93, 3) := by decide +kernel
theorem dX11_fault_4 : decode cX11_fault 4 = .ok (.ireturn, 1) := by decide +kernel
theorem dX11_lays_0 : decode cX11_lays 0 = .ok (.iconst 0, 1) := by decide +kernel
theorem dX11_lays_1 : decode cX11_lays 1 = .ok (.istore_n 1, 1) := by decide +kernel
theorem dX11_lays_2 : decode cX11_lays 2 = .ok (.iload_n 1, 1) := by decide +kernel
theorem dX11_lays_3 : decode cX11_lays 3 = .ok (.bipush 47, 2) := by decide +kernel
theorem dX11_lays_5 : decode cX11_lays 5 = .ok (.if_icmp .ge 21, 3) := by decide +kernel
theorem dX11_lays_8 : decode cX11_lays 8 = .ok (.aload_n 0, 1) := by decide +kernel
theorem dX11_lays_9 : decode cX11_lays 9 = .ok (.getfield 13, 3) := by decide +kernel
theorem dX11_lays_12 : decode cX11_lays 12 = .ok (.iload_n 1, 1) := by decide +kernel
theorem dX11_lays_13 : decode cX11_lays 13 = .ok (.aload_n 0, 1) := by decide +kernel
theorem dX11_lays_14 : decode cX11_lays 14 = .ok (.getfield 16, 3) := by decide +kernel
theorem dX11_lays_17 : decode cX11_lays 17 = .ok (.iload_n 1, 1) := by decide +kernel
theorem dX11_lays_18 : decode cX11_lays 18 = .ok (.iaload, 1) := by decide +kernel
theorem dX11_lays_19 : decode cX11_lays 19 = .ok (.iastore, 1) := by decide +kernel
theorem dX11_lays_20 : decode cX11_lays 20 = .ok (.iinc 1 1, 3) := by decide +kernel
theorem dX11_lays_23 : decode cX11_lays 23 = .ok (.goto (-21), 3) := by decide +kernel
theorem dX11_lays_26 : decode cX11_lays 26 = .ok (.iconst 0, 1) := by decide +kernel
theorem dX11_lays_27 : decode cX11_lays 27 = .ok (.istore_n 1, 1) := by decide +kernel
theorem dX11_lays_28 : decode cX11_lays 28 = .ok (.iload_n 1, 1) := by decide +kernel
theorem dX11_lays_29 : decode cX11_lays 29 = .ok (.bipush 12, 2) := by decide +kernel
theorem dX11_lays_31 : decode cX11_lays 31 = .ok (.if_icmp .ge 53, 3) := by decide +kernel
theorem dX11_lays_34 : decode cX11_lays 34 = .ok (.aload_n 0, 1) := by decide +kernel
theorem dX11_lays_35 : decode cX11_lays 35 = .ok (.getfield 19, 3) := by decide +kernel
theorem dX11_lays_38 : decode cX11_lays 38 = .ok (.iload_n 1, 1) := by decide +kernel
theorem dX11_lays_39 : decode cX11_lays 39 = .ok (.iload_n 1, 1) := by decide +kernel
theorem dX11_lays_40 : decode cX11_lays 40 = .ok (.iconst 5, 1) := by decide +kernel
theorem dX11_lays_41 : decode cX11_lays 41 = .ok (.if_icmp .ge 15, 3) := by decide +kernel
theorem dX11_lays_44 : decode cX11_lays 44 = .ok (.aload_n 0, 1) := by decide +kernel
theorem dX11_lays_45 : decode cX11_lays 45 = .ok (.getfield 13, 3) := by decide +kernel
theorem dX11_lays_48 : decode cX11_lays 48 = .ok (.bipush 20, 2) := by decide +kernel
theorem dX11_lays_50 : decode cX11_lays 50 = .ok (.iload_n 1, 1) := by decide +kernel
theorem dX11_lays_51 : decode cX11_lays 51 = .ok (.iadd, 1) := by decide +kernel
theorem dX11_lays_52 : decode cX11_lays 52 = .ok (.iaload, 1) := by decide +kernel
theorem dX11_lays_53 : decode cX11_lays 53 = .ok (.goto 24, 3) := by decide +kernel
theorem dX11_lays_56 : decode cX11_lays 56 = .ok (.iload_n 1, 1) := by decide +kernel
theorem dX11_lays_57 : decode cX11_lays 57 = .ok (.bipush 10, 2) := by decide +kernel
theorem dX11_lays_59 : decode cX11_lays 59 = .ok (.if_icmp .ge 17, 3) := by decide +kernel
theorem dX11_lays_62 : decode cX11_lays 62 = .ok (.aload_n 0, 1) := by decide +kernel
theorem dX11_lays_63 : decode cX11_lays 63 = .ok (.getfield 13, 3) := by decide +kernel
theorem dX11_lays_66 : decode cX11_lays 66 = .ok (.bipush 15, 2) := by decide +kernel
theorem dX11_lays_68 : decode cX11_lays 68 = .ok (.iload_n 1, 1) := by decide +kernel
theorem dX11_lays_69 : decode cX11_lays 69 = .ok (.iadd, 1) := by decide +kernel
theorem dX11_lays_70 : decode cX11_lays 70 = .ok (.iconst 5, 1) := by decide +kernel
theorem dX11_lays_71 : decode cX11_lays 71 = .ok (.isub, 1) := by decide +kernel
theorem dX11_lays_72 : decode cX11_lays 72 = .ok (.iaload, 1) := by decide +kernel
theorem dX11_lays_73 : decode cX11_lays 73 = .ok (.goto 4, 3) := by decide +kernel
theorem dX11_lays_76 : decode cX11_lays 76 = .ok (.iconst 0, 1) := by decide +kernel
theorem dX11_lays_77 : decode cX11_lays 77 = .ok (.iastore, 1) := by decide +kernel
theorem dX11_lays_78 : decode cX11_lays 78 = .ok (.iinc 1 1, 3) := by decide +kernel
theorem dX11_lays_81 : decode cX11_lays 81 = .ok (.goto (-53), 3) := by decide +kernel
theorem dX11_lays_84 : decode cX11_lays 84 = .ok (.aload_n 0, 1) := by decide +kernel
theorem dX11_lays_85 : decode cX11_lays 85 = .ok (.iconst 0, 1) := by decide +kernel
theorem dX11_lays_86 : decode cX11_lays 86 = .ok (.putfield 96, 3) := by decide +kernel
theorem dX11_lays_89 : decode cX11_lays 89 = .ok (.aload_n 0, 1) := by decide +kernel
theorem dX11_lays_90 : decode cX11_lays 90 = .ok (.iconst 0, 1) := by decide +kernel
theorem dX11_lays_91 : decode cX11_lays 91 = .ok (.putfield 99, 3) := by decide +kernel
theorem dX11_lays_94 : decode cX11_lays 94 = .ok (.aload_n 0, 1) := by decide +kernel
theorem dX11_lays_95 : decode cX11_lays 95 = .ok (.iconst 0, 1) := by decide +kernel
theorem dX11_lays_96 : decode cX11_lays 96 = .ok (.putfield 102, 3) := by decide +kernel
theorem dX11_lays_99 : decode cX11_lays 99 = .ok (.return_, 1) := by decide +kernel
theorem dX11_lay_0 : decode cX11_lay 0 = .ok (.aload_n 0, 1) := by decide +kernel
theorem dX11_lay_1 : decode cX11_lay 1 = .ok (.invokevirtual 93, 3) := by decide +kernel
theorem dX11_lay_4 : decode cX11_lay 4 = .ok (.bipush (-4), 2) := by decide +kernel
theorem dX11_lay_6 : decode cX11_lay 6 = .ok (.if_icmp .ne 12, 3) := by decide +kernel
theorem dX11_lay_9 : decode cX11_lay 9 = .ok (.aload_n 0, 1) := by decide +kernel
theorem dX11_lay_10 : decode cX11_lay 10 = .ok (.getfield 16, 3) := by decide +kernel
theorem dX11_lay_13 : decode cX11_lay 13 = .ok (.iconst 0, 1) := by decide +kernel
theorem dX11_lay_14 : decode cX11_lay 14 = .ok (.iaload, 1) := by decide +kernel
theorem dX11_lay_15 : decode cX11_lay 15 = .ok (.ifCond .ne 6, 3) := by decide +kernel
theorem dX11_lay_18 : decode cX11_lay 18 = .ok (.bipush (-2), 2) := by decide +kernel
theorem dX11_lay_20 : decode cX11_lay 20 = .ok (.ireturn, 1) := by decide +kernel
theorem dX11_lay_21 : decode cX11_lay 21 = .ok (.aload_n 0, 1) := by decide +kernel
theorem dX11_lay_22 : decode cX11_lay 22 = .ok (.invokevirtual 58, 3) := by decide +kernel
theorem dX11_lay_25 : decode cX11_lay 25 = .ok (.aload_n 0, 1) := by decide +kernel
theorem dX11_lay_26 : decode cX11_lay 26 = .ok (.getfield 13, 3) := by decide +kernel
theorem dX11_lay_29 : decode cX11_lay 29 = .ok (.iconst 0, 1) := by decide +kernel
theorem dX11_lay_30 : decode cX11_lay 30 = .ok (.iaload, 1) := by decide +kernel
theorem dX11_lay_31 : decode cX11_lay 31 = .ok (.ireturn, 1) := by decide +kernel
theorem dX11_rope_0 : decode cX11_rope 0 = .ok (.aload_n 0, 1) := by decide +kernel
theorem dX11_rope_1 : decode cX11_rope 1 = .ok (.iload_n 1, 1) := by decide +kernel
theorem dX11_rope_2 : decode cX11_rope 2 = .ok (.invokevirtual 105, 3) := by decide +kernel
theorem dX11_rope_5 : decode cX11_rope 5 = .ok (.ifCond .eq 12, 3) := by decide +kernel
theorem dX11_rope_8 : decode cX11_rope 8 = .ok (.iload_n 2, 1) := by decide +kernel
theorem dX11_rope_9 : decode cX11_rope 9 = .ok (.iconst 0, 1) := by decide +kernel
theorem dX11_rope_10 : decode cX11_rope 10 = .ok (.iconst 3, 1) := by decide +kernel
theorem dX11_rope_11 : decode cX11_rope 11 = .ok (.invokestatic 61, 3) := by decide +kernel
theorem dX11_rope_14 : decode cX11_rope 14 = .ok (.ifCond .ne 5, 3) := by decide +kernel
theorem dX11_rope_17 : decode cX11_rope 17 = .ok (.iconst (-1), 1) := by decide +kernel
theorem dX11_rope_18 : decode cX11_rope 18 = .ok (.ireturn, 1) := by decide +kernel
theorem dX11_rope_19 : decode cX11_rope 19 = .ok (.iload_n 2, 1) := by decide +kernel
theorem dX11_rope_20 : decode cX11_rope 20 = .ok (.iconst 2, 1) := by decide +kernel
theorem dX11_rope_21 : decode cX11_rope 21 = .ok (.if_icmp .ge 18, 3) := by decide +kernel
theorem dX11_rope_24 : decode cX11_rope 24 = .ok (.aload_n 0, 1) := by decide +kernel
theorem dX11_rope_25 : decode cX11_rope 25 = .ok (.getfield 13, 3) := by decide +kernel
theorem dX11_rope_28 : decode cX11_rope 28 = .ok (.iconst 5, 1) := by decide +kernel
theorem dX11_rope_29 : decode cX11_rope 29 = .ok (.iconst 5, 1) := by decide +kernel
theorem dX11_rope_30 : decode cX11_rope 30 = .ok (.iload_n 2, 1) := by decide +kernel
theorem dX11_rope_31 : decode cX11_rope 31 = .ok (.imul, 1) := by decide +kernel
theorem dX11_rope_32 : decode cX11_rope 32 = .ok (.iadd, 1) := by decide +kernel
theorem dX11_rope_33 : decode cX11_rope 33 = .ok (.iload_n 1, 1) := by decide +kernel
theorem dX11_rope_34 : decode cX11_rope 34 = .ok (.iadd, 1) := by decide +kernel
theorem dX11_rope_35 : decode cX11_rope 35 = .ok (.iaload, 1) := by decide +kernel
theorem dX11_rope_36 : decode cX11_rope 36 = .ok (.goto 25, 3) := by decide +kernel
theorem dX11_rope_39 : decode cX11_rope 39 = .ok (.iload_n 2, 1) := by decide +kernel
theorem dX11_rope_40 : decode cX11_rope 40 = .ok (.iconst 2, 1) := by decide +kernel
theorem dX11_rope_41 : decode cX11_rope 41 = .ok (.if_icmp .ne 14, 3) := by decide +kernel
theorem dX11_rope_44 : decode cX11_rope 44 = .ok (.aload_n 0, 1) := by decide +kernel
theorem dX11_rope_45 : decode cX11_rope 45 = .ok (.getfield 19, 3) := by decide +kernel
theorem dX11_rope_48 : decode cX11_rope 48 = .ok (.iconst 5, 1) := by decide +kernel
theorem dX11_rope_49 : decode cX11_rope 49 = .ok (.iload_n 1, 1) := by decide +kernel
theorem dX11_rope_50 : decode cX11_rope 50 = .ok (.iadd, 1) := by decide +kernel
theorem dX11_rope_51 : decode cX11_rope 51 = .ok (.iaload, 1) := by decide +kernel
theorem dX11_rope_52 : decode cX11_rope 52 = .ok (.goto 9, 3) := by decide +kernel
theorem dX11_rope_55 : decode cX11_rope 55 = .ok (.aload_n 0, 1) := by decide +kernel
theorem dX11_rope_56 : decode cX11_rope 56 = .ok (.getfield 19, 3) := by decide +kernel
theorem dX11_rope_59 : decode cX11_rope 59 = .ok (.iload_n 1, 1) := by decide +kernel
theorem dX11_rope_60 : decode cX11_rope 60 = .ok (.iaload, 1) := by decide +kernel
theorem dX11_rope_61 : decode cX11_rope 61 = .ok (.ireturn, 1) := by decide +kernel
theorem dX11_nextTo_0 : decode cX11_nextTo 0 = .ok (.iconst (-1), 1) := by decide +kernel
theorem dX11_nextTo_1 : decode cX11_nextTo 1 = .ok (.istore_n 3, 1) := by decide +kernel
theorem dX11_nextTo_2 : decode cX11_nextTo 2 = .ok (.iconst 0, 1) := by decide +kernel
theorem dX11_nextTo_3 : decode cX11_nextTo 3 = .ok (.istore 4, 2) := by decide +kernel
theorem dX11_nextTo_5 : decode cX11_nextTo 5 = .ok (.iload 4, 2) := by decide +kernel
theorem dX11_nextTo_7 : decode cX11_nextTo 7 = .ok (.aload_n 0, 1) := by decide +kernel
theorem dX11_nextTo_8 : decode cX11_nextTo 8 = .ok (.getfield 13, 3) := by decide +kernel
theorem dX11_nextTo_11 : decode cX11_nextTo 11 = .ok (.iconst 0, 1) := by decide +kernel
theorem dX11_nextTo_12 : decode cX11_nextTo 12 = .ok (.iaload, 1) := by decide +kernel
theorem dX11_nextTo_13 : decode cX11_nextTo 13 = .ok (.if_icmp .ge 57, 3) := by decide +kernel
theorem dX11_nextTo_16 : decode cX11_nextTo 16 = .ok (.aload_n 0, 1) := by decide +kernel
theorem dX11_nextTo_17 : decode cX11_nextTo 17 = .ok (.getfield 13, 3) := by decide +kernel
theorem dX11_nextTo_20 : decode cX11_nextTo 20 = .ok (.iconst 5, 1) := by decide +kernel
theorem dX11_nextTo_21 : decode cX11_nextTo 21 = .ok (.iload 4, 2) := by decide +kernel
theorem dX11_nextTo_23 : decode cX11_nextTo 23 = .ok (.iadd, 1) := by decide +kernel
theorem dX11_nextTo_24 : decode cX11_nextTo 24 = .ok (.iaload, 1) := by decide +kernel
theorem dX11_nextTo_25 : decode cX11_nextTo 25 = .ok (.iload_n 1, 1) := by decide +kernel
theorem dX11_nextTo_26 : decode cX11_nextTo 26 = .ok (.isub, 1) := by decide +kernel
theorem dX11_nextTo_27 : decode cX11_nextTo 27 = .ok (.iload_n 2, 1) := by decide +kernel
theorem dX11_nextTo_28 : decode cX11_nextTo 28 = .ok (.imul, 1) := by decide +kernel
theorem dX11_nextTo_29 : decode cX11_nextTo 29 = .ok (.istore 5, 2) := by decide +kernel
theorem dX11_nextTo_31 : decode cX11_nextTo 31 = .ok (.iload 5, 2) := by decide +kernel
theorem dX11_nextTo_33 : decode cX11_nextTo 33 = .ok (.ifCond .lt 29, 3) := by decide +kernel
theorem dX11_nextTo_36 : decode cX11_nextTo 36 = .ok (.iload_n 3, 1) := by decide +kernel
theorem dX11_nextTo_37 : decode cX11_nextTo 37 = .ok (.ifCond .lt 20, 3) := by decide +kernel
theorem dX11_nextTo_40 : decode cX11_nextTo 40 = .ok (.iload 5, 2) := by decide +kernel
theorem dX11_nextTo_42 : decode cX11_nextTo 42 = .ok (.aload_n 0, 1) := by decide +kernel
theorem dX11_nextTo_43 : decode cX11_nextTo 43 = .ok (.getfield 13, 3) := by decide +kernel
theorem dX11_nextTo_46 : decode cX11_nextTo 46 = .ok (.iconst 5, 1) := by decide +kernel
theorem dX11_nextTo_47 : decode cX11_nextTo 47 = .ok (.iload_n 3, 1) := by decide +kernel
theorem dX11_nextTo_48 : decode cX11_nextTo 48 = .ok (.iadd, 1) := by decide +kernel
theorem dX11_nextTo_49 : decode cX11_nextTo 49 = .ok (.iaload, 1) := by decide +kernel
theorem dX11_nextTo_50 : decode cX11_nextTo 50 = .ok (.iload_n 1, 1) := by decide +kernel
theorem dX11_nextTo_51 : decode cX11_nextTo 51 = .ok (.isub, 1) := by decide +kernel
theorem dX11_nextTo_52 : decode cX11_nextTo 52 = .ok (.iload_n 2, 1) := by decide +kernel
theorem dX11_nextTo_53 : decode cX11_nextTo 53 = .ok (.imul, 1) := by decide +kernel
theorem dX11_nextTo_54 : decode cX11_nextTo 54 = .ok (.if_icmp .ge 8, 3) := by decide +kernel
theorem dX11_nextTo_57 : decode cX11_nextTo 57 = .ok (.iload 4, 2) := by decide +kernel
theorem dX11_nextTo_59 : decode cX11_nextTo 59 = .ok (.goto 4, 3) := by decide +kernel
theorem dX11_nextTo_62 : decode cX11_nextTo 62 = .ok (.iload_n 3, 1) := by decide +kernel
theorem dX11_nextTo_63 : decode cX11_nextTo 63 = .ok (.istore_n 3, 1) := by decide +kernel
theorem dX11_nextTo_64 : decode cX11_nextTo 64 = .ok (.iinc 4 1, 3) := by decide +kernel
theorem dX11_nextTo_67 : decode cX11_nextTo 67 = .ok (.goto (-62), 3) := by decide +kernel
theorem dX11_nextTo_70 : decode cX11_nextTo 70 = .ok (.iload_n 3, 1) := by decide +kernel
theorem dX11_nextTo_71 : decode cX11_nextTo 71 = .ok (.ireturn, 1) := by decide +kernel
theorem dX11_skyOver_0 : decode cX11_skyOver 0 = .ok (.aload_n 0, 1) := by decide +kernel
theorem dX11_skyOver_1 : decode cX11_skyOver 1 = .ok (.iload_n 1, 1) := by decide +kernel
theorem dX11_skyOver_2 : decode cX11_skyOver 2 = .ok (.iconst (-1), 1) := by decide +kernel
theorem dX11_skyOver_3 : decode cX11_skyOver 3 = .ok (.invokevirtual 108, 3) := by decide +kernel
theorem dX11_skyOver_6 : decode cX11_skyOver 6 = .ok (.istore_n 2, 1) := by decide +kernel
theorem dX11_skyOver_7 : decode cX11_skyOver 7 = .ok (.aload_n 0, 1) := by decide +kernel
theorem dX11_skyOver_8 : decode cX11_skyOver 8 = .ok (.iload_n 1, 1) := by decide +kernel
theorem dX11_skyOver_9 : decode cX11_skyOver 9 = .ok (.iconst 1, 1) := by decide +kernel
theorem dX11_skyOver_10 : decode cX11_skyOver 10 = .ok (.invokevirtual 108, 3) := by decide +kernel
theorem dX11_skyOver_13 : decode cX11_skyOver 13 = .ok (.istore_n 3, 1) := by decide +kernel
theorem dX11_skyOver_14 : decode cX11_skyOver 14 = .ok (.iload_n 2, 1) := by decide +kernel
theorem dX11_skyOver_15 : decode cX11_skyOver 15 = .ok (.ifCond .lt 12, 3) := by decide +kernel
theorem dX11_skyOver_18 : decode cX11_skyOver 18 = .ok (.iload_n 3, 1) := by decide +kernel
theorem dX11_skyOver_19 : decode cX11_skyOver 19 = .ok (.ifCond .lt 8, 3) := by decide +kernel
theorem dX11_skyOver_22 : decode cX11_skyOver 22 = .ok (.iload_n 2, 1) := by decide +kernel
theorem dX11_skyOver_23 : decode cX11_skyOver 23 = .ok (.iload_n 3, 1) := by decide +kernel
theorem dX11_skyOver_24 : decode cX11_skyOver 24 = .ok (.if_icmp .ne 18, 3) := by decide +kernel
theorem dX11_skyOver_27 : decode cX11_skyOver 27 = .ok (.aload_n 0, 1) := by decide +kernel
theorem dX11_skyOver_28 : decode cX11_skyOver 28 = .ok (.getfield 19, 3) := by decide +kernel
theorem dX11_skyOver_31 : decode cX11_skyOver 31 = .ok (.iload_n 2, 1) := by decide +kernel
theorem dX11_skyOver_32 : decode cX11_skyOver 32 = .ok (.ifCond .ge 7, 3) := by decide +kernel
theorem dX11_skyOver_35 : decode cX11_skyOver 35 = .ok (.iload_n 3, 1) := by decide +kernel
theorem dX11_skyOver_36 : decode cX11_skyOver 36 = .ok (.goto 4, 3) := by decide +kernel
theorem dX11_skyOver_39 : decode cX11_skyOver 39 = .ok (.iload_n 2, 1) := by decide +kernel
theorem dX11_skyOver_40 : decode cX11_skyOver 40 = .ok (.iaload, 1) := by decide +kernel
theorem dX11_skyOver_41 : decode cX11_skyOver 41 = .ok (.ireturn, 1) := by decide +kernel
theorem dX11_skyOver_42 : decode cX11_skyOver 42 = .ok (.aload_n 0, 1) := by decide +kernel
theorem dX11_skyOver_43 : decode cX11_skyOver 43 = .ok (.getfield 13, 3) := by decide +kernel
theorem dX11_skyOver_46 : decode cX11_skyOver 46 = .ok (.iconst 5, 1) := by decide +kernel
theorem dX11_skyOver_47 : decode cX11_skyOver 47 = .ok (.iload_n 2, 1) := by decide +kernel
theorem dX11_skyOver_48 : decode cX11_skyOver 48 = .ok (.iadd, 1) := by decide +kernel
theorem dX11_skyOver_49 : decode cX11_skyOver 49 = .ok (.iaload, 1) := by decide +kernel
theorem dX11_skyOver_50 : decode cX11_skyOver 50 = .ok (.istore 4, 2) := by decide +kernel
theorem dX11_skyOver_52 : decode cX11_skyOver 52 = .ok (.aload_n 0, 1) := by decide +kernel
theorem dX11_skyOver_53 : decode cX11_skyOver 53 = .ok (.getfield 13, 3) := by decide +kernel
theorem dX11_skyOver_56 : decode cX11_skyOver 56 = .ok (.iconst 5, 1) := by decide +kernel
theorem dX11_skyOver_57 : decode cX11_skyOver 57 = .ok (.iload_n 3, 1) := by decide +kernel
theorem dX11_skyOver_58 : decode cX11_skyOver 58 = .ok (.iadd, 1) := by decide +kernel
theorem dX11_skyOver_59 : decode cX11_skyOver 59 = .ok (.iaload, 1) := by decide +kernel
theorem dX11_skyOver_60 : decode cX11_skyOver 60 = .ok (.istore 5, 2) := by decide +kernel
theorem dX11_skyOver_62 : decode cX11_skyOver 62 = .ok (.aload_n 0, 1) := by decide +kernel
theorem dX11_skyOver_63 : decode cX11_skyOver 63 = .ok (.getfield 19, 3) := by decide +kernel
theorem dX11_skyOver_66 : decode cX11_skyOver 66 = .ok (.iload_n 2, 1) := by decide +kernel
theorem dX11_skyOver_67 : decode cX11_skyOver 67 = .ok (.iaload, 1) := by decide +kernel
theorem dX11_skyOver_68 : decode cX11_skyOver 68 = .ok (.iload 5, 2) := by decide +kernel
theorem dX11_skyOver_70 : decode cX11_skyOver 70 = .ok (.iload_n 1, 1) := by decide +kernel
theorem dX11_skyOver_71 : decode cX11_skyOver 71 = .ok (.isub, 1) := by decide +kernel
theorem dX11_skyOver_72 : decode cX11_skyOver 72 = .ok (.imul, 1) := by decide +kernel
theorem dX11_skyOver_73 : decode cX11_skyOver 73 = .ok (.aload_n 0, 1) := by decide +kernel
theorem dX11_skyOver_74 : decode cX11_skyOver 74 = .ok (.getfield 19, 3) := by decide +kernel
theorem dX11_skyOver_77 : decode cX11_skyOver 77 = .ok (.iload_n 3, 1) := by decide +kernel
theorem dX11_skyOver_78 : decode cX11_skyOver 78 = .ok (.iaload, 1) := by decide +kernel
theorem dX11_skyOver_79 : decode cX11_skyOver 79 = .ok (.iload_n 1, 1) := by decide +kernel
theorem dX11_skyOver_80 : decode cX11_skyOver 80 = .ok (.iload 4, 2) := by decide +kernel
theorem dX11_skyOver_82 : decode cX11_skyOver 82 = .ok (.isub, 1) := by decide +kernel
theorem dX11_skyOver_83 : decode cX11_skyOver 83 = .ok (.imul, 1) := by decide +kernel
theorem dX11_skyOver_84 : decode cX11_skyOver 84 = .ok (.iadd, 1) := by decide +kernel
theorem dX11_skyOver_85 : decode cX11_skyOver 85 = .ok (.iload 5, 2) := by decide +kernel
theorem dX11_skyOver_87 : decode cX11_skyOver 87 = .ok (.iload 4, 2) := by decide +kernel
theorem dX11_skyOver_89 : decode cX11_skyOver 89 = .ok (.isub, 1) := by decide +kernel
theorem dX11_skyOver_90 : decode cX11_skyOver 90 = .ok (.idiv, 1) := by decide +kernel
theorem dX11_skyOver_91 : decode cX11_skyOver 91 = .ok (.ireturn, 1) := by decide +kernel
theorem dX11_lightOf_0 : decode cX11_lightOf 0 = .ok (.iload_n 0, 1) := by decide +kernel
theorem dX11_lightOf_1 : decode cX11_lightOf 1 = .ok (.bipush 29, 2) := by decide +kernel
theorem dX11_lightOf_3 : decode cX11_lightOf 3 = .ok (.if_icmp .le 7, 3) := by decide +kernel
theorem dX11_lightOf_6 : decode cX11_lightOf 6 = .ok (.iconst 3, 1) := by decide +kernel
theorem dX11_lightOf_7 : decode cX11_lightOf 7 = .ok (.goto 7, 3) := by decide +kernel
theorem dX11_lightOf_10 : decode cX11_lightOf 10 = .ok (.iload_n 0, 1) := by decide +kernel
theorem dX11_lightOf_11 : decode cX11_lightOf 11 = .ok (.bipush 10, 2) := by decide +kernel
theorem dX11_lightOf_13 : decode cX11_lightOf 13 = .ok (.idiv, 1) := by decide +kernel
theorem dX11_lightOf_14 : decode cX11_lightOf 14 = .ok (.ireturn, 1) := by decide +kernel
theorem dX11_sky_0 : decode cX11_sky 0 = .ok (.iload_n 1, 1) := by decide +kernel
theorem dX11_sky_1 : decode cX11_sky 1 = .ok (.invokestatic 87, 3) := by decide +kernel
theorem dX11_sky_4 : decode cX11_sky 4 = .ok (.ifCond .eq 11, 3) := by decide +kernel
theorem dX11_sky_7 : decode cX11_sky 7 = .ok (.aload_n 0, 1) := by decide +kernel
theorem dX11_sky_8 : decode cX11_sky 8 = .ok (.iload_n 1, 1) := by decide +kernel
theorem dX11_sky_9 : decode cX11_sky 9 = .ok (.invokevirtual 112, 3) := by decide +kernel
theorem dX11_sky_12 : decode cX11_sky 12 = .ok (.goto 4, 3) := by decide +kernel
theorem dX11_sky_15 : decode cX11_sky 15 = .ok (.iconst (-1), 1) := by decide +kernel
theorem dX11_sky_16 : decode cX11_sky 16 = .ok (.ireturn, 1) := by decide +kernel
theorem dX11_light_0 : decode cX11_light 0 = .ok (.iload_n 1, 1) := by decide +kernel
theorem dX11_light_1 : decode cX11_light 1 = .ok (.invokestatic 87, 3) := by decide +kernel
theorem dX11_light_4 : decode cX11_light 4 = .ok (.ifCond .eq 14, 3) := by decide +kernel
theorem dX11_light_7 : decode cX11_light 7 = .ok (.aload_n 0, 1) := by decide +kernel
theorem dX11_light_8 : decode cX11_light 8 = .ok (.iload_n 1, 1) := by decide +kernel
theorem dX11_light_9 : decode cX11_light 9 = .ok (.invokevirtual 112, 3) := by decide +kernel
theorem dX11_light_12 : decode cX11_light 12 = .ok (.invokestatic 115, 3) := by decide +kernel
theorem dX11_light_15 : decode cX11_light 15 = .ok (.goto 4, 3) := by decide +kernel
theorem dX11_light_18 : decode cX11_light 18 = .ok (.iconst (-1), 1) := by decide +kernel
theorem dX11_light_19 : decode cX11_light 19 = .ok (.ireturn, 1) := by decide +kernel
theorem dX11_keeps_0 : decode cX11_keeps 0 = .ok (.aload_n 0, 1) := by decide +kernel
theorem dX11_keeps_1 : decode cX11_keeps 1 = .ok (.getfield 96, 3) := by decide +kernel
theorem dX11_keeps_4 : decode cX11_keeps 4 = .ok (.bipush 8, 2) := by decide +kernel
theorem dX11_keeps_6 : decode cX11_keeps 6 = .ok (.if_icmp .ne 42, 3) := by decide +kernel
theorem dX11_keeps_9 : decode cX11_keeps 9 = .ok (.iconst 0, 1) := by decide +kernel
theorem dX11_keeps_10 : decode cX11_keeps 10 = .ok (.istore_n 1, 1) := by decide +kernel
theorem dX11_keeps_11 : decode cX11_keeps 11 = .ok (.iload_n 1, 1) := by decide +kernel
theorem dX11_keeps_12 : decode cX11_keeps 12 = .ok (.bipush 84, 2) := by decide +kernel
theorem dX11_keeps_14 : decode cX11_keeps 14 = .ok (.if_icmp .ge 24, 3) := by decide +kernel
theorem dX11_keeps_17 : decode cX11_keeps 17 = .ok (.aload_n 0, 1) := by decide +kernel
theorem dX11_keeps_18 : decode cX11_keeps 18 = .ok (.getfield 22, 3) := by decide +kernel
theorem dX11_keeps_21 : decode cX11_keeps 21 = .ok (.iload_n 1, 1) := by decide +kernel
theorem dX11_keeps_22 : decode cX11_keeps 22 = .ok (.aload_n 0, 1) := by decide +kernel
theorem dX11_keeps_23 : decode cX11_keeps 23 = .ok (.getfield 22, 3) := by decide +kernel
theorem dX11_keeps_26 : decode cX11_keeps 26 = .ok (.iload_n 1, 1) := by decide +kernel
theorem dX11_keeps_27 : decode cX11_keeps 27 = .ok (.bipush 12, 2) := by decide +kernel
theorem dX11_keeps_29 : decode cX11_keeps 29 = .ok (.iadd, 1) := by decide +kernel
theorem dX11_keeps_30 : decode cX11_keeps 30 = .ok (.iaload, 1) := by decide +kernel
theorem dX11_keeps_31 : decode cX11_keeps 31 = .ok (.iastore, 1) := by decide +kernel
theorem dX11_keeps_32 : decode cX11_keeps 32 = .ok (.iinc 1 1, 3) := by decide +kernel
theorem dX11_keeps_35 : decode cX11_keeps 35 = .ok (.goto (-24), 3) := by decide +kernel
theorem dX11_keeps_38 : decode cX11_keeps 38 = .ok (.aload_n 0, 1) := by decide +kernel
theorem dX11_keeps_39 : decode cX11_keeps 39 = .ok (.dup, 1) := by decide +kernel
theorem dX11_keeps_40 : decode cX11_keeps 40 = .ok (.getfield 96, 3) := by decide +kernel
theorem dX11_keeps_43 : decode cX11_keeps 43 = .ok (.iconst 1, 1) := by decide +kernel
theorem dX11_keeps_44 : decode cX11_keeps 44 = .ok (.isub, 1) := by decide +kernel
theorem dX11_keeps_45 : decode cX11_keeps 45 = .ok (.putfield 96, 3) := by decide +kernel
theorem dX11_keeps_48 : decode cX11_keeps 48 = .ok (.iconst 0, 1) := by decide +kernel
theorem dX11_keeps_49 : decode cX11_keeps 49 = .ok (.istore_n 1, 1) := by decide +kernel
theorem dX11_keeps_50 : decode cX11_keeps 50 = .ok (.iload_n 1, 1) := by decide +kernel
theorem dX11_keeps_51 : decode cX11_keeps 51 = .ok (.bipush 12, 2) := by decide +kernel
theorem dX11_keeps_53 : decode cX11_keeps 53 = .ok (.if_icmp .ge 29, 3) := by decide +kernel
theorem dX11_keeps_56 : decode cX11_keeps 56 = .ok (.aload_n 0, 1) := by decide +kernel
theorem dX11_keeps_57 : decode cX11_keeps 57 = .ok (.getfield 22, 3) := by decide +kernel
theorem dX11_keeps_60 : decode cX11_keeps 60 = .ok (.bipush 12, 2) := by decide +kernel
theorem dX11_keeps_62 : decode cX11_keeps 62 = .ok (.aload_n 0, 1) := by decide +kernel
theorem dX11_keeps_63 : decode cX11_keeps 63 = .ok (.getfield 96, 3) := by decide +kernel
theorem dX11_keeps_66 : decode cX11_keeps 66 = .ok (.imul, 1) := by decide +kernel
theorem dX11_keeps_67 : decode cX11_keeps 67 = .ok (.iload_n 1, 1) := by decide +kernel
theorem dX11_keeps_68 : decode cX11_keeps 68 = .ok (.iadd, 1) := by decide +kernel
theorem dX11_keeps_69 : decode cX11_keeps 69 = .ok (.aload_n 0, 1) := by decide +kernel
theorem dX11_keeps_70 : decode cX11_keeps 70 = .ok (.getfield 19, 3) := by decide +kernel
theorem dX11_keeps_73 : decode cX11_keeps 73 = .ok (.iload_n 1, 1) := by decide +kernel
theorem dX11_keeps_74 : decode cX11_keeps 74 = .ok (.iaload, 1) := by decide +kernel
theorem dX11_keeps_75 : decode cX11_keeps 75 = .ok (.iastore, 1) := by decide +kernel
theorem dX11_keeps_76 : decode cX11_keeps 76 = .ok (.iinc 1 1, 3) := by decide +kernel
theorem dX11_keeps_79 : decode cX11_keeps 79 = .ok (.goto (-29), 3) := by decide +kernel
theorem dX11_keeps_82 : decode cX11_keeps 82 = .ok (.aload_n 0, 1) := by decide +kernel
theorem dX11_keeps_83 : decode cX11_keeps 83 = .ok (.dup, 1) := by decide +kernel
theorem dX11_keeps_84 : decode cX11_keeps 84 = .ok (.getfield 96, 3) := by decide +kernel
theorem dX11_keeps_87 : decode cX11_keeps 87 = .ok (.iconst 1, 1) := by decide +kernel
theorem dX11_keeps_88 : decode cX11_keeps 88 = .ok (.iadd, 1) := by decide +kernel
theorem dX11_keeps_89 : decode cX11_keeps 89 = .ok (.putfield 96, 3) := by decide +kernel
theorem dX11_keeps_92 : decode cX11_keeps 92 = .ok (.return_, 1) := by decide +kernel
theorem dX11_behind_0 : decode cX11_behind 0 = .ok (.iload_n 1, 1) := by decide +kernel
theorem dX11_behind_1 : decode cX11_behind 1 = .ok (.iconst 1, 1) := by decide +kernel
theorem dX11_behind_2 : decode cX11_behind 2 = .ok (.if_icmp .ne 9, 3) := by decide +kernel
theorem dX11_behind_5 : decode cX11_behind 5 = .ok (.iload_n 2, 1) := by decide +kernel
theorem dX11_behind_6 : decode cX11_behind 6 = .ok (.iconst 1, 1) := by decide +kernel
theorem dX11_behind_7 : decode cX11_behind 7 = .ok (.iadd, 1) := by decide +kernel
theorem dX11_behind_8 : decode cX11_behind 8 = .ok (.goto 21, 3) := by decide +kernel
theorem dX11_behind_11 : decode cX11_behind 11 = .ok (.iload_n 1, 1) := by decide +kernel
theorem dX11_behind_12 : decode cX11_behind 12 = .ok (.iconst 3, 1) := by decide +kernel
theorem dX11_behind_13 : decode cX11_behind 13 = .ok (.if_icmp .ne 15, 3) := by decide +kernel
theorem dX11_behind_16 : decode cX11_behind 16 = .ok (.iload 4, 2) := by decide +kernel
theorem dX11_behind_18 : decode cX11_behind 18 = .ok (.iconst 2, 1) := by decide +kernel
theorem dX11_behind_19 : decode cX11_behind 19 = .ok (.irem, 1) := by decide +kernel
theorem dX11_behind_20 : decode cX11_behind 20 = .ok (.iconst 1, 1) := by decide +kernel
theorem dX11_behind_21 : decode cX11_behind 21 = .ok (.if_icmp .ne 7, 3) := by decide +kernel
theorem dX11_behind_24 : decode cX11_behind 24 = .ok (.iconst 0, 1) := by decide +kernel
theorem dX11_behind_25 : decode cX11_behind 25 = .ok (.goto 4, 3) := by decide +kernel
theorem dX11_behind_28 : decode cX11_behind 28 = .ok (.iload_n 2, 1) := by decide +kernel
theorem dX11_behind_29 : decode cX11_behind 29 = .ok (.istore 5, 2) := by decide +kernel
theorem dX11_behind_31 : decode cX11_behind 31 = .ok (.iload_n 0, 1) := by decide +kernel
theorem dX11_behind_32 : decode cX11_behind 32 = .ok (.iload_n 3, 1) := by decide +kernel
theorem dX11_behind_33 : decode cX11_behind 33 = .ok (.iload 5, 2) := by decide +kernel
theorem dX11_behind_35 : decode cX11_behind 35 = .ok (.imul, 1) := by decide +kernel
theorem dX11_behind_36 : decode cX11_behind 36 = .ok (.iadd, 1) := by decide +kernel
theorem dX11_behind_37 : decode cX11_behind 37 = .ok (.istore 6, 2) := by decide +kernel
theorem dX11_behind_39 : decode cX11_behind 39 = .ok (.iload 6, 2) := by decide +kernel
theorem dX11_behind_41 : decode cX11_behind 41 = .ok (.ifCond .ge 7, 3) := by decide +kernel
theorem dX11_behind_44 : decode cX11_behind 44 = .ok (.iconst 0, 1) := by decide +kernel
theorem dX11_behind_45 : decode cX11_behind 45 = .ok (.goto 17, 3) := by decide +kernel
theorem dX11_behind_48 : decode cX11_behind 48 = .ok (.iload 6, 2) := by decide +kernel
theorem dX11_behind_50 : decode cX11_behind 50 = .ok (.bipush 40, 2) := by decide +kernel
theorem dX11_behind_52 : decode cX11_behind 52 = .ok (.if_icmp .le 8, 3) := by decide +kernel
theorem dX11_behind_55 : decode cX11_behind 55 = .ok (.bipush 40, 2) := by decide +kernel
theorem dX11_behind_57 : decode cX11_behind 57 = .ok (.goto 5, 3) := by decide +kernel
theorem dX11_behind_60 : decode cX11_behind 60 = .ok (.iload 6, 2) := by decide +kernel
theorem dX11_behind_62 : decode cX11_behind 62 = .ok (.istore 6, 2) := by decide +kernel
theorem dX11_behind_64 : decode cX11_behind 64 = .ok (.iload_n 1, 1) := by decide +kernel
theorem dX11_behind_65 : decode cX11_behind 65 = .ok (.iconst 2, 1) := by decide +kernel
theorem dX11_behind_66 : decode cX11_behind 66 = .ok (.if_icmp .ne 22, 3) := by decide +kernel
theorem dX11_behind_69 : decode cX11_behind 69 = .ok (.iload 6, 2) := by decide +kernel
theorem dX11_behind_71 : decode cX11_behind 71 = .ok (.iconst 3, 1) := by decide +kernel
theorem dX11_behind_72 : decode cX11_behind 72 = .ok (.irem, 1) := by decide +kernel
theorem dX11_behind_73 : decode cX11_behind 73 = .ok (.ifCond .ne 15, 3) := by decide +kernel
theorem dX11_behind_76 : decode cX11_behind 76 = .ok (.iload 6, 2) := by decide +kernel
theorem dX11_behind_78 : decode cX11_behind 78 = .ok (.ifCond .le 10, 3) := by decide +kernel
theorem dX11_behind_81 : decode cX11_behind 81 = .ok (.iload 6, 2) := by decide +kernel
theorem dX11_behind_83 : decode cX11_behind 83 = .ok (.iconst 1, 1) := by decide +kernel
theorem dX11_behind_84 : decode cX11_behind 84 = .ok (.isub, 1) := by decide +kernel
theorem dX11_behind_85 : decode cX11_behind 85 = .ok (.goto 5, 3) := by decide +kernel
theorem dX11_behind_88 : decode cX11_behind 88 = .ok (.iload 6, 2) := by decide +kernel
theorem dX11_behind_90 : decode cX11_behind 90 = .ok (.ireturn, 1) := by decide +kernel
theorem dX11_goes_0 : decode cX11_goes 0 = .ok (.iconst 0, 1) := by decide +kernel
theorem dX11_goes_1 : decode cX11_goes 1 = .ok (.istore_n 3, 1) := by decide +kernel
theorem dX11_goes_2 : decode cX11_goes 2 = .ok (.iload_n 3, 1) := by decide +kernel
theorem dX11_goes_3 : decode cX11_goes 3 = .ok (.aload_n 0, 1) := by decide +kernel
theorem dX11_goes_4 : decode cX11_goes 4 = .ok (.getfield 13, 3) := by decide +kernel
theorem dX11_goes_7 : decode cX11_goes 7 = .ok (.iconst 0, 1) := by decide +kernel
theorem dX11_goes_8 : decode cX11_goes 8 = .ok (.iaload, 1) := by decide +kernel
theorem dX11_goes_9 : decode cX11_goes 9 = .ok (.if_icmp .ge 63, 3) := by decide +kernel
theorem dX11_goes_12 : decode cX11_goes 12 = .ok (.iload_n 1, 1) := by decide +kernel
theorem dX11_goes_13 : decode cX11_goes 13 = .ok (.iload_n 3, 1) := by decide +kernel
theorem dX11_goes_14 : decode cX11_goes 14 = .ok (.ishr, 1) := by decide +kernel
theorem dX11_goes_15 : decode cX11_goes 15 = .ok (.iconst 1, 1) := by decide +kernel
theorem dX11_goes_16 : decode cX11_goes 16 = .ok (.iand, 1) := by decide +kernel
theorem dX11_goes_17 : decode cX11_goes 17 = .ok (.iload_n 2, 1) := by decide +kernel
theorem dX11_goes_18 : decode cX11_goes 18 = .ok (.iload_n 3, 1) := by decide +kernel
theorem dX11_goes_19 : decode cX11_goes 19 = .ok (.ishr, 1) := by decide +kernel
theorem dX11_goes_20 : decode cX11_goes 20 = .ok (.iconst 1, 1) := by decide +kernel
theorem dX11_goes_21 : decode cX11_goes 21 = .ok (.iand, 1) := by decide +kernel
theorem dX11_goes_22 : decode cX11_goes 22 = .ok (.isub, 1) := by decide +kernel
theorem dX11_goes_23 : decode cX11_goes 23 = .ok (.istore 4, 2) := by decide +kernel
theorem dX11_goes_25 : decode cX11_goes 25 = .ok (.aload_n 0, 1) := by decide +kernel
theorem dX11_goes_26 : decode cX11_goes 26 = .ok (.getfield 19, 3) := by decide +kernel
theorem dX11_goes_29 : decode cX11_goes 29 = .ok (.iload_n 3, 1) := by decide +kernel
theorem dX11_goes_30 : decode cX11_goes 30 = .ok (.aload_n 0, 1) := by decide +kernel
theorem dX11_goes_31 : decode cX11_goes 31 = .ok (.getfield 19, 3) := by decide +kernel
theorem dX11_goes_34 : decode cX11_goes 34 = .ok (.iload_n 3, 1) := by decide +kernel
theorem dX11_goes_35 : decode cX11_goes 35 = .ok (.iaload, 1) := by decide +kernel
theorem dX11_goes_36 : decode cX11_goes 36 = .ok (.aload_n 0, 1) := by decide +kernel
theorem dX11_goes_37 : decode cX11_goes 37 = .ok (.getfield 19, 3) := by decide +kernel
theorem dX11_goes_40 : decode cX11_goes 40 = .ok (.iconst 5, 1) := by decide +kernel
theorem dX11_goes_41 : decode cX11_goes 41 = .ok (.iload_n 3, 1) := by decide +kernel
theorem dX11_goes_42 : decode cX11_goes 42 = .ok (.iadd, 1) := by decide +kernel
theorem dX11_goes_43 : decode cX11_goes 43 = .ok (.iaload, 1) := by decide +kernel
theorem dX11_goes_44 : decode cX11_goes 44 = .ok (.aload_n 0, 1) := by decide +kernel
theorem dX11_goes_45 : decode cX11_goes 45 = .ok (.getfield 13, 3) := by decide +kernel
theorem dX11_goes_48 : decode cX11_goes 48 = .ok (.bipush 10, 2) := by decide +kernel
theorem dX11_goes_50 : decode cX11_goes 50 = .ok (.iload_n 3, 1) := by decide +kernel
theorem dX11_goes_51 : decode cX11_goes 51 = .ok (.iadd, 1) := by decide +kernel
theorem dX11_goes_52 : decode cX11_goes 52 = .ok (.iaload, 1) := by decide +kernel
theorem dX11_goes_53 : decode cX11_goes 53 = .ok (.iload 4, 2) := by decide +kernel
theorem dX11_goes_55 : decode cX11_goes 55 = .ok (.aload_n 0, 1) := by decide +kernel
theorem dX11_goes_56 : decode cX11_goes 56 = .ok (.getfield 19, 3) := by decide +kernel
theorem dX11_goes_59 : decode cX11_goes 59 = .ok (.bipush 10, 2) := by decide +kernel
theorem dX11_goes_61 : decode cX11_goes 61 = .ok (.iaload, 1) := by decide +kernel
theorem dX11_goes_62 : decode cX11_goes 62 = .ok (.invokestatic 118, 3) := by decide +kernel
theorem dX11_goes_65 : decode cX11_goes 65 = .ok (.iastore, 1) := by decide +kernel
theorem dX11_goes_66 : decode cX11_goes 66 = .ok (.iinc 3 1, 3) := by decide +kernel
theorem dX11_goes_69 : decode cX11_goes 69 = .ok (.goto (-67), 3) := by decide +kernel
theorem dX11_goes_72 : decode cX11_goes 72 = .ok (.aload_n 0, 1) := by decide +kernel
theorem dX11_goes_73 : decode cX11_goes 73 = .ok (.getfield 13, 3) := by decide +kernel
theorem dX11_goes_76 : decode cX11_goes 76 = .ok (.iconst 3, 1) := by decide +kernel
theorem dX11_goes_77 : decode cX11_goes 77 = .ok (.iaload, 1) := by decide +kernel
theorem dX11_goes_78 : decode cX11_goes 78 = .ok (.iload_n 1, 1) := by decide +kernel
theorem dX11_goes_79 : decode cX11_goes 79 = .ok (.invokestatic 122, 3) := by decide +kernel
theorem dX11_goes_82 : decode cX11_goes 82 = .ok (.imul, 1) := by decide +kernel
theorem dX11_goes_83 : decode cX11_goes 83 = .ok (.aload_n 0, 1) := by decide +kernel
theorem dX11_goes_84 : decode cX11_goes 84 = .ok (.getfield 13, 3) := by decide +kernel
theorem dX11_goes_87 : decode cX11_goes 87 = .ok (.iconst 4, 1) := by decide +kernel
theorem dX11_goes_88 : decode cX11_goes 88 = .ok (.iaload, 1) := by decide +kernel
theorem dX11_goes_89 : decode cX11_goes 89 = .ok (.iload_n 2, 1) := by decide +kernel
theorem dX11_goes_90 : decode cX11_goes 90 = .ok (.invokestatic 122, 3) := by decide +kernel
theorem dX11_goes_93 : decode cX11_goes 93 = .ok (.imul, 1) := by decide +kernel
theorem dX11_goes_94 : decode cX11_goes 94 = .ok (.iadd, 1) := by decide +kernel
theorem dX11_goes_95 : decode cX11_goes 95 = .ok (.istore_n 3, 1) := by decide +kernel
theorem dX11_goes_96 : decode cX11_goes 96 = .ok (.aload_n 0, 1) := by decide +kernel
theorem dX11_goes_97 : decode cX11_goes 97 = .ok (.getfield 19, 3) := by decide +kernel
theorem dX11_goes_100 : decode cX11_goes 100 = .ok (.bipush 10, 2) := by decide +kernel
theorem dX11_goes_102 : decode cX11_goes 102 = .ok (.dup2, 1) := by decide +kernel
theorem dX11_goes_103 : decode cX11_goes 103 = .ok (.iaload, 1) := by decide +kernel
theorem dX11_goes_104 : decode cX11_goes 104 = .ok (.iconst 1, 1) := by decide +kernel
theorem dX11_goes_105 : decode cX11_goes 105 = .ok (.iadd, 1) := by decide +kernel
theorem dX11_goes_106 : decode cX11_goes 106 = .ok (.iastore, 1) := by decide +kernel
theorem dX11_goes_107 : decode cX11_goes 107 = .ok (.aload_n 0, 1) := by decide +kernel
theorem dX11_goes_108 : decode cX11_goes 108 = .ok (.getfield 19, 3) := by decide +kernel
theorem dX11_goes_111 : decode cX11_goes 111 = .ok (.bipush 11, 2) := by decide +kernel
theorem dX11_goes_113 : decode cX11_goes 113 = .ok (.dup2, 1) := by decide +kernel
theorem dX11_goes_114 : decode cX11_goes 114 = .ok (.iaload, 1) := by decide +kernel
theorem dX11_goes_115 : decode cX11_goes 115 = .ok (.iload_n 3, 1) := by decide +kernel
theorem dX11_goes_116 : decode cX11_goes 116 = .ok (.iadd, 1) := by decide +kernel
theorem dX11_goes_117 : decode cX11_goes 117 = .ok (.iastore, 1) := by decide +kernel
theorem dX11_goes_118 : decode cX11_goes 118 = .ok (.iload_n 3, 1) := by decide +kernel
theorem dX11_goes_119 : decode cX11_goes 119 = .ok (.ireturn, 1) := by decide +kernel
theorem dX11_hour_0 : decode cX11_hour 0 = .ok (.iload_n 1, 1) := by decide +kernel
theorem dX11_hour_1 : decode cX11_hour 1 = .ok (.iconst 0, 1) := by decide +kernel
theorem dX11_hour_2 : decode cX11_hour 2 = .ok (.aload_n 0, 1) := by decide +kernel
theorem dX11_hour_3 : decode cX11_hour 3 = .ok (.invokevirtual 125, 3) := by decide +kernel
theorem dX11_hour_6 : decode cX11_hour 6 = .ok (.iconst 1, 1) := by decide +kernel
theorem dX11_hour_7 : decode cX11_hour 7 = .ok (.isub, 1) := by decide +kernel
theorem dX11_hour_8 : decode cX11_hour 8 = .ok (.invokestatic 61, 3) := by decide +kernel
theorem dX11_hour_11 : decode cX11_hour 11 = .ok (.ifCond .eq 23, 3) := by decide +kernel
theorem dX11_hour_14 : decode cX11_hour 14 = .ok (.iload_n 2, 1) := by decide +kernel
theorem dX11_hour_15 : decode cX11_hour 15 = .ok (.iconst 0, 1) := by decide +kernel
theorem dX11_hour_16 : decode cX11_hour 16 = .ok (.aload_n 0, 1) := by decide +kernel
theorem dX11_hour_17 : decode cX11_hour 17 = .ok (.invokevirtual 125, 3) := by decide +kernel
theorem dX11_hour_20 : decode cX11_hour 20 = .ok (.iconst 1, 1) := by decide +kernel
theorem dX11_hour_21 : decode cX11_hour 21 = .ok (.isub, 1) := by decide +kernel
theorem dX11_hour_22 : decode cX11_hour 22 = .ok (.invokestatic 61, 3) := by decide +kernel
theorem dX11_hour_25 : decode cX11_hour 25 = .ok (.ifCond .eq 9, 3) := by decide +kernel
theorem dX11_hour_28 : decode cX11_hour 28 = .ok (.iload_n 1, 1) := by decide +kernel
theorem dX11_hour_29 : decode cX11_hour 29 = .ok (.iload_n 2, 1) := by decide +kernel
theorem dX11_hour_30 : decode cX11_hour 30 = .ok (.iand, 1) := by decide +kernel
theorem dX11_hour_31 : decode cX11_hour 31 = .ok (.ifCond .eq 5, 3) := by decide +kernel
theorem dX11_hour_34 : decode cX11_hour 34 = .ok (.iconst (-1), 1) := by decide +kernel
theorem dX11_hour_35 : decode cX11_hour 35 = .ok (.ireturn, 1) := by decide +kernel
theorem dX11_hour_36 : decode cX11_hour 36 = .ok (.aload_n 0, 1) := by decide +kernel
theorem dX11_hour_37 : decode cX11_hour 37 = .ok (.getfield 19, 3) := by decide +kernel
theorem dX11_hour_40 : decode cX11_hour 40 = .ok (.bipush 10, 2) := by decide +kernel
theorem dX11_hour_42 : decode cX11_hour 42 = .ok (.iaload, 1) := by decide +kernel
theorem dX11_hour_43 : decode cX11_hour 43 = .ok (.bipush 99, 2) := by decide +kernel
theorem dX11_hour_45 : decode cX11_hour 45 = .ok (.if_icmp .ne 6, 3) := by decide +kernel
theorem dX11_hour_48 : decode cX11_hour 48 = .ok (.bipush (-2), 2) := by decide +kernel
theorem dX11_hour_50 : decode cX11_hour 50 = .ok (.ireturn, 1) := by decide +kernel
theorem dX11_hour_51 : decode cX11_hour 51 = .ok (.aload_n 0, 1) := by decide +kernel
theorem dX11_hour_52 : decode cX11_hour 52 = .ok (.invokevirtual 128, 3) := by decide +kernel
theorem dX11_hour_55 : decode cX11_hour 55 = .ok (.aload_n 0, 1) := by decide +kernel
theorem dX11_hour_56 : decode cX11_hour 56 = .ok (.iload_n 1, 1) := by decide +kernel
theorem dX11_hour_57 : decode cX11_hour 57 = .ok (.iload_n 2, 1) := by decide +kernel
theorem dX11_hour_58 : decode cX11_hour 58 = .ok (.invokevirtual 131, 3) := by decide +kernel
theorem dX11_hour_61 : decode cX11_hour 61 = .ok (.ireturn, 1) := by decide +kernel
theorem dX11_grease_0 : decode cX11_grease 0 = .ok (.aload_n 0, 1) := by decide +kernel
theorem dX11_grease_1 : decode cX11_grease 1 = .ok (.iload_n 1, 1) := by decide +kernel
theorem dX11_grease_2 : decode cX11_grease 2 = .ok (.invokevirtual 105, 3) := by decide +kernel
theorem dX11_grease_5 : decode cX11_grease 5 = .ok (.ifCond .ne 5, 3) := by decide +kernel
theorem dX11_grease_8 : decode cX11_grease 8 = .ok (.iconst (-1), 1) := by decide +kernel
theorem dX11_grease_9 : decode cX11_grease 9 = .ok (.ireturn, 1) := by decide +kernel
theorem dX11_grease_10 : decode cX11_grease 10 = .ok (.aload_n 0, 1) := by decide +kernel
theorem dX11_grease_11 : decode cX11_grease 11 = .ok (.invokevirtual 128, 3) := by decide +kernel
theorem dX11_grease_14 : decode cX11_grease 14 = .ok (.aload_n 0, 1) := by decide +kernel
theorem dX11_grease_15 : decode cX11_grease 15 = .ok (.getfield 19, 3) := by decide +kernel
theorem dX11_grease_18 : decode cX11_grease 18 = .ok (.iconst 5, 1) := by decide +kernel
theorem dX11_grease_19 : decode cX11_grease 19 = .ok (.iload_n 1, 1) := by decide +kernel
theorem dX11_grease_20 : decode cX11_grease 20 = .ok (.iadd, 1) := by decide +kernel
theorem dX11_grease_21 : decode cX11_grease 21 = .ok (.iaload, 1) := by decide +kernel
theorem dX11_grease_22 : decode cX11_grease 22 = .ok (.istore_n 2, 1) := by decide +kernel
theorem dX11_grease_23 : decode cX11_grease 23 = .ok (.aload_n 0, 1) := by decide +kernel
theorem dX11_grease_24 : decode cX11_grease 24 = .ok (.getfield 19, 3) := by decide +kernel
theorem dX11_grease_27 : decode cX11_grease 27 = .ok (.iconst 5, 1) := by decide +kernel
theorem dX11_grease_28 : decode cX11_grease 28 = .ok (.iload_n 1, 1) := by decide +kernel
theorem dX11_grease_29 : decode cX11_grease 29 = .ok (.iadd, 1) := by decide +kernel
theorem dX11_grease_30 : decode cX11_grease 30 = .ok (.iconst 1, 1) := by decide +kernel
theorem dX11_grease_31 : decode cX11_grease 31 = .ok (.iastore, 1) := by decide +kernel
theorem dX11_grease_32 : decode cX11_grease 32 = .ok (.iload_n 2, 1) := by decide +kernel
theorem dX11_grease_33 : decode cX11_grease 33 = .ok (.ireturn, 1) := by decide +kernel
theorem dX11_undo_0 : decode cX11_undo 0 = .ok (.aload_n 0, 1) := by decide +kernel
theorem dX11_undo_1 : decode cX11_undo 1 = .ok (.getfield 96, 3) := by decide +kernel
theorem dX11_undo_4 : decode cX11_undo 4 = .ok (.ifCond .ne 6, 3) := by decide +kernel
theorem dX11_undo_7 : decode cX11_undo 7 = .ok (.bipush (-2), 2) := by decide +kernel
theorem dX11_undo_9 : decode cX11_undo 9 = .ok (.ireturn, 1) := by decide +kernel
theorem dX11_undo_10 : decode cX11_undo 10 = .ok (.aload_n 0, 1) := by decide +kernel
theorem dX11_undo_11 : decode cX11_undo 11 = .ok (.dup, 1) := by decide +kernel
theorem dX11_undo_12 : decode cX11_undo 12 = .ok (.getfield 96, 3) := by decide +kernel
theorem dX11_undo_15 : decode cX11_undo 15 = .ok (.iconst 1, 1) := by decide +kernel
theorem dX11_undo_16 : decode cX11_undo 16 = .ok (.isub, 1) := by decide +kernel
theorem dX11_undo_17 : decode cX11_undo 17 = .ok (.putfield 96, 3) := by decide +kernel
theorem dX11_undo_20 : decode cX11_undo 20 = .ok (.iconst 0, 1) := by decide +kernel
theorem dX11_undo_21 : decode cX11_undo 21 = .ok (.istore_n 1, 1) := by decide +kernel
theorem dX11_undo_22 : decode cX11_undo 22 = .ok (.iload_n 1, 1) := by decide +kernel
theorem dX11_undo_23 : decode cX11_undo 23 = .ok (.bipush 12, 2) := by decide +kernel
theorem dX11_undo_25 : decode cX11_undo 25 = .ok (.if_icmp .ge 29, 3) := by decide +kernel
theorem dX11_undo_28 : decode cX11_undo 28 = .ok (.aload_n 0, 1) := by decide +kernel
theorem dX11_undo_29 : decode cX11_undo 29 = .ok (.getfield 19, 3) := by decide +kernel
theorem dX11_undo_32 : decode cX11_undo 32 = .ok (.iload_n 1, 1) := by decide +kernel
theorem dX11_undo_33 : decode cX11_undo 33 = .ok (.aload_n 0, 1) := by decide +kernel
theorem dX11_undo_34 : decode cX11_undo 34 = .ok (.getfield 22, 3) := by decide +kernel
theorem dX11_undo_37 : decode cX11_undo 37 = .ok (.bipush 12, 2) := by decide +kernel
theorem dX11_undo_39 : decode cX11_undo 39 = .ok (.aload_n 0, 1) := by decide +kernel
theorem dX11_undo_40 : decode cX11_undo 40 = .ok (.getfield 96, 3) := by decide +kernel
theorem dX11_undo_43 : decode cX11_undo 43 = .ok (.imul, 1) := by decide +kernel
theorem dX11_undo_44 : decode cX11_undo 44 = .ok (.iload_n 1, 1) := by decide +kernel
theorem dX11_undo_45 : decode cX11_undo 45 = .ok (.iadd, 1) := by decide +kernel
theorem dX11_undo_46 : decode cX11_undo 46 = .ok (.iaload, 1) := by decide +kernel
theorem dX11_undo_47 : decode cX11_undo 47 = .ok (.iastore, 1) := by decide +kernel
theorem dX11_undo_48 : decode cX11_undo 48 = .ok (.iinc 1 1, 3) := by decide +kernel
theorem dX11_undo_51 : decode cX11_undo 51 = .ok (.goto (-29), 3) := by decide +kernel
theorem dX11_undo_54 : decode cX11_undo 54 = .ok (.aload_n 0, 1) := by decide +kernel
theorem dX11_undo_55 : decode cX11_undo 55 = .ok (.getfield 96, 3) := by decide +kernel
theorem dX11_undo_58 : decode cX11_undo 58 = .ok (.ireturn, 1) := by decide +kernel
theorem dX11_met_0 : decode cX11_met 0 = .ok (.iconst 0, 1) := by decide +kernel
theorem dX11_met_1 : decode cX11_met 1 = .ok (.istore_n 1, 1) := by decide +kernel
theorem dX11_met_2 : decode cX11_met 2 = .ok (.iconst 0, 1) := by decide +kernel
theorem dX11_met_3 : decode cX11_met 3 = .ok (.istore_n 2, 1) := by decide +kernel
theorem dX11_met_4 : decode cX11_met 4 = .ok (.iload_n 2, 1) := by decide +kernel
theorem dX11_met_5 : decode cX11_met 5 = .ok (.aload_n 0, 1) := by decide +kernel
theorem dX11_met_6 : decode cX11_met 6 = .ok (.getfield 13, 3) := by decide +kernel
theorem dX11_met_9 : decode cX11_met 9 = .ok (.iconst 1, 1) := by decide +kernel
theorem dX11_met_10 : decode cX11_met 10 = .ok (.iaload, 1) := by decide +kernel
theorem dX11_met_11 : decode cX11_met 11 = .ok (.if_icmp .ge 47, 3) := by decide +kernel
theorem dX11_met_14 : decode cX11_met 14 = .ok (.iload_n 1, 1) := by decide +kernel
theorem dX11_met_15 : decode cX11_met 15 = .ok (.aload_n 0, 1) := by decide +kernel
theorem dX11_met_16 : decode cX11_met 16 = .ok (.aload_n 0, 1) := by decide +kernel
theorem dX11_met_17 : decode cX11_met 17 = .ok (.getfield 13, 3) := by decide +kernel
theorem dX11_met_20 : decode cX11_met 20 = .ok (.bipush 25, 2) := by decide +kernel
theorem dX11_met_22 : decode cX11_met 22 = .ok (.iload_n 2, 1) := by decide +kernel
theorem dX11_met_23 : decode cX11_met 23 = .ok (.iadd, 1) := by decide +kernel
theorem dX11_met_24 : decode cX11_met 24 = .ok (.iaload, 1) := by decide +kernel
theorem dX11_met_25 : decode cX11_met 25 = .ok (.invokevirtual 112, 3) := by decide +kernel
theorem dX11_met_28 : decode cX11_met 28 = .ok (.invokestatic 115, 3) := by decide +kernel
theorem dX11_met_31 : decode cX11_met 31 = .ok (.aload_n 0, 1) := by decide +kernel
theorem dX11_met_32 : decode cX11_met 32 = .ok (.getfield 13, 3) := by decide +kernel
theorem dX11_met_35 : decode cX11_met 35 = .ok (.bipush 33, 2) := by decide +kernel
theorem dX11_met_37 : decode cX11_met 37 = .ok (.iload_n 2, 1) := by decide +kernel
theorem dX11_met_38 : decode cX11_met 38 = .ok (.iadd, 1) := by decide +kernel
theorem dX11_met_39 : decode cX11_met 39 = .ok (.iaload, 1) := by decide +kernel
theorem dX11_met_40 : decode cX11_met 40 = .ok (.if_icmp .ne 9, 3) := by decide +kernel
theorem dX11_met_43 : decode cX11_met 43 = .ok (.iconst 1, 1) := by decide +kernel
theorem dX11_met_44 : decode cX11_met 44 = .ok (.iload_n 2, 1) := by decide +kernel
theorem dX11_met_45 : decode cX11_met 45 = .ok (.ishl, 1) := by decide +kernel
theorem dX11_met_46 : decode cX11_met 46 = .ok (.goto 4, 3) := by decide +kernel
theorem dX11_met_49 : decode cX11_met 49 = .ok (.iconst 0, 1) := by decide +kernel
theorem dX11_met_50 : decode cX11_met 50 = .ok (.ior, 1) := by decide +kernel
theorem dX11_met_51 : decode cX11_met 51 = .ok (.istore_n 1, 1) := by decide +kernel
theorem dX11_met_52 : decode cX11_met 52 = .ok (.iinc 2 1, 3) := by decide +kernel
theorem dX11_met_55 : decode cX11_met 55 = .ok (.goto (-51), 3) := by decide +kernel
theorem dX11_met_58 : decode cX11_met 58 = .ok (.iload_n 1, 1) := by decide +kernel
theorem dX11_met_59 : decode cX11_met 59 = .ok (.ireturn, 1) := by decide +kernel
theorem dX11_yardsOf_0 : decode cX11_yardsOf 0 = .ok (.iconst 0, 1) := by decide +kernel
theorem dX11_yardsOf_1 : decode cX11_yardsOf 1 = .ok (.istore_n 2, 1) := by decide +kernel
theorem dX11_yardsOf_2 : decode cX11_yardsOf 2 = .ok (.iconst 0, 1) := by decide +kernel
theorem dX11_yardsOf_3 : decode cX11_yardsOf 3 = .ok (.istore_n 3, 1) := by decide +kernel
theorem dX11_yardsOf_4 : decode cX11_yardsOf 4 = .ok (.iload_n 3, 1) := by decide +kernel
theorem dX11_yardsOf_5 : decode cX11_yardsOf 5 = .ok (.bipush 24, 2) := by decide +kernel
theorem dX11_yardsOf_7 : decode cX11_yardsOf 7 = .ok (.if_icmp .ge 29, 3) := by decide +kernel
theorem dX11_yardsOf_10 : decode cX11_yardsOf 10 = .ok (.iload_n 2, 1) := by decide +kernel
theorem dX11_yardsOf_11 : decode cX11_yardsOf 11 = .ok (.aload_n 0, 1) := by decide +kernel
theorem dX11_yardsOf_12 : decode cX11_yardsOf 12 = .ok (.iload_n 3, 1) := by decide +kernel
theorem dX11_yardsOf_13 : decode cX11_yardsOf 13 = .ok (.invokevirtual 112, 3) := by decide +kernel
theorem dX11_yardsOf_16 : decode cX11_yardsOf 16 = .ok (.invokestatic 115, 3) := by decide +kernel
theorem dX11_yardsOf_19 : decode cX11_yardsOf 19 = .ok (.iload_n 1, 1) := by decide +kernel
theorem dX11_yardsOf_20 : decode cX11_yardsOf 20 = .ok (.if_icmp .ne 7, 3) := by decide +kernel
theorem dX11_yardsOf_23 : decode cX11_yardsOf 23 = .ok (.iconst 1, 1) := by decide +kernel
theorem dX11_yardsOf_24 : decode cX11_yardsOf 24 = .ok (.goto 4, 3) := by decide +kernel
theorem dX11_yardsOf_27 : decode cX11_yardsOf 27 = .ok (.iconst 0, 1) := by decide +kernel
theorem dX11_yardsOf_28 : decode cX11_yardsOf 28 = .ok (.iadd, 1) := by decide +kernel
theorem dX11_yardsOf_29 : decode cX11_yardsOf 29 = .ok (.istore_n 2, 1) := by decide +kernel
theorem dX11_yardsOf_30 : decode cX11_yardsOf 30 = .ok (.iinc 3 1, 3) := by decide +kernel
theorem dX11_yardsOf_33 : decode cX11_yardsOf 33 = .ok (.goto (-29), 3) := by decide +kernel
theorem dX11_yardsOf_36 : decode cX11_yardsOf 36 = .ok (.iload_n 2, 1) := by decide +kernel
theorem dX11_yardsOf_37 : decode cX11_yardsOf 37 = .ok (.ireturn, 1) := by decide +kernel
theorem dX11_noon_0 : decode cX11_noon 0 = .ok (.bipush (-4), 2) := by decide +kernel
theorem dX11_noon_2 : decode cX11_noon 2 = .ok (.istore_n 1, 1) := by decide +kernel
theorem dX11_noon_3 : decode cX11_noon 3 = .ok (.bipush 23, 2) := by decide +kernel
theorem dX11_noon_5 : decode cX11_noon 5 = .ok (.istore_n 2, 1) := by decide +kernel
theorem dX11_noon_6 : decode cX11_noon 6 = .ok (.iload_n 2, 1) := by decide +kernel
