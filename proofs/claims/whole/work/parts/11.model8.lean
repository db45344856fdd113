theorem kw_1090 : Cond.constant "ModuleLoaderModel" 143 (33550463 : Int32) ∈ xx_tb := xx_in (List.mem_append_right _ (List.mem_of_getElem? (i := 1090) (by decide +kernel))) (by decide +kernel)
theorem kw_1091 : Cond.constant "ModuleLoaderModel" 144 (-1048576 : Int32) ∈ xx_tb := xx_in (List.mem_append_right _ (List.mem_of_getElem? (i := 1091) (by decide +kernel))) (by decide +kernel)
theorem kw_1092 : Cond.constant "ModuleLoaderModel" 145 (1048574 : Int32) ∈ xx_tb := xx_in (List.mem_append_right _ (List.mem_of_getElem? (i := 1092) (by decide +kernel))) (by decide +kernel)
theorem kw_1089 : Cond.constant "ModuleLoaderModel" 142 (1048575 : Int32) ∈ xx_tb := xx_in (List.mem_append_right _ (List.mem_of_getElem? (i := 1089) (by decide +kernel))) (by decide +kernel)
theorem qd_Model_mend_0 : decode kb_Model_mend 0 = .ok (.aload_n 0, 1) := by decide +kernel
theorem qd_Model_mend_1 : decode kb_Model_mend 1 = .ok (.iload_n 2, 1) := by decide +kernel
theorem qd_Model_mend_2 : decode kb_Model_mend 2 = .ok (.invokevirtual 130, 3) := by decide +kernel
theorem qd_Model_mend_5 : decode kb_Model_mend 5 = .ok (.istore_n 3, 1) := by decide +kernel
theorem qd_Model_mend_6 : decode kb_Model_mend 6 = .ok (.aload_n 0, 1) := by decide +kernel
theorem qd_Model_mend_7 : decode kb_Model_mend 7 = .ok (.iload_n 3, 1) := by decide +kernel
theorem qd_Model_mend_8 : decode kb_Model_mend 8 = .ok (.invokevirtual 111, 3) := by decide +kernel
theorem qd_Model_mend_11 : decode kb_Model_mend 11 = .ok (.istore 4, 2) := by decide +kernel
theorem qd_Model_mend_13 : decode kb_Model_mend 13 = .ok (.iload_n 1, 1) := by decide +kernel
theorem qd_Model_mend_14 : decode kb_Model_mend 14 = .ok (.aload_n 0, 1) := by decide +kernel
theorem qd_Model_mend_15 : decode kb_Model_mend 15 = .ok (.iload_n 3, 1) := by decide +kernel
theorem qd_Model_mend_16 : decode kb_Model_mend 16 = .ok (.iconst 4, 1) := by decide +kernel
theorem qd_Model_mend_17 : decode kb_Model_mend 17 = .ok (.iadd, 1) := by decide +kernel
theorem qd_Model_mend_18 : decode kb_Model_mend 18 = .ok (.invokevirtual 111, 3) := by decide +kernel
theorem qd_Model_mend_21 : decode kb_Model_mend 21 = .ok (.iadd, 1) := by decide +kernel
theorem qd_Model_mend_22 : decode kb_Model_mend 22 = .ok (.istore 5, 2) := by decide +kernel
theorem qd_Model_mend_24 : decode kb_Model_mend 24 = .ok (.aload_n 0, 1) := by decide +kernel
theorem qd_Model_mend_25 : decode kb_Model_mend 25 = .ok (.iload_n 3, 1) := by decide +kernel
theorem qd_Model_mend_26 : decode kb_Model_mend 26 = .ok (.bipush (8), 2) := by decide +kernel
theorem qd_Model_mend_28 : decode kb_Model_mend 28 = .ok (.iadd, 1) := by decide +kernel
theorem qd_Model_mend_29 : decode kb_Model_mend 29 = .ok (.invokevirtual 111, 3) := by decide +kernel
theorem qd_Model_mend_32 : decode kb_Model_mend 32 = .ok (.istore 6, 2) := by decide +kernel
theorem qd_Model_mend_34 : decode kb_Model_mend 34 = .ok (.iload 6, 2) := by decide +kernel
theorem qd_Model_mend_36 : decode kb_Model_mend 36 = .ok (.ifCond .ge (7), 3) := by decide +kernel
theorem qd_Model_mend_39 : decode kb_Model_mend 39 = .ok (.iload_n 1, 1) := by decide +kernel
theorem qd_Model_mend_40 : decode kb_Model_mend 40 = .ok (.goto (22), 3) := by decide +kernel
theorem qd_Model_mend_43 : decode kb_Model_mend 43 = .ok (.aload_n 0, 1) := by decide +kernel
theorem qd_Model_mend_44 : decode kb_Model_mend 44 = .ok (.getfield 19, 3) := by decide +kernel
theorem qd_Model_mend_47 : decode kb_Model_mend 47 = .ok (.aload_n 0, 1) := by decide +kernel
theorem qd_Model_mend_48 : decode kb_Model_mend 48 = .ok (.aload_n 0, 1) := by decide +kernel
theorem qd_Model_mend_49 : decode kb_Model_mend 49 = .ok (.aload_n 0, 1) := by decide +kernel
theorem qd_Model_mend_50 : decode kb_Model_mend 50 = .ok (.iload 6, 2) := by decide +kernel
theorem qd_Model_mend_52 : decode kb_Model_mend 52 = .ok (.invokevirtual 102, 3) := by decide +kernel
theorem qd_Model_mend_55 : decode kb_Model_mend 55 = .ok (.invokevirtual 111, 3) := by decide +kernel
theorem qd_Model_mend_58 : decode kb_Model_mend 58 = .ok (.invokevirtual 86, 3) := by decide +kernel
theorem qd_Model_mend_61 : decode kb_Model_mend 61 = .ok (.iaload, 1) := by decide +kernel
theorem qd_Model_mend_62 : decode kb_Model_mend 62 = .ok (.aload_n 0, 1) := by decide +kernel
theorem qd_Model_mend_63 : decode kb_Model_mend 63 = .ok (.iload_n 3, 1) := by decide +kernel
theorem qd_Model_mend_64 : decode kb_Model_mend 64 = .ok (.bipush (12), 2) := by decide +kernel
theorem qd_Model_mend_66 : decode kb_Model_mend 66 = .ok (.iadd, 1) := by decide +kernel
theorem qd_Model_mend_67 : decode kb_Model_mend 67 = .ok (.invokevirtual 111, 3) := by decide +kernel
theorem qd_Model_mend_70 : decode kb_Model_mend 70 = .ok (.iadd, 1) := by decide +kernel
theorem qd_Model_mend_71 : decode kb_Model_mend 71 = .ok (.istore 7, 2) := by decide +kernel
theorem qd_Model_mend_73 : decode kb_Model_mend 73 = .ok (.aload_n 0, 1) := by decide +kernel
theorem qd_Model_mend_74 : decode kb_Model_mend 74 = .ok (.bipush (32), 2) := by decide +kernel
theorem qd_Model_mend_76 : decode kb_Model_mend 76 = .ok (.iload 5, 2) := by decide +kernel
theorem qd_Model_mend_78 : decode kb_Model_mend 78 = .ok (.iadd, 1) := by decide +kernel
theorem qd_Model_mend_79 : decode kb_Model_mend 79 = .ok (.iload_n 1, 1) := by decide +kernel
theorem qd_Model_mend_80 : decode kb_Model_mend 80 = .ok (.isub, 1) := by decide +kernel
theorem qd_Model_mend_81 : decode kb_Model_mend 81 = .ok (.invokevirtual 111, 3) := by decide +kernel
theorem qd_Model_mend_84 : decode kb_Model_mend 84 = .ok (.istore 8, 2) := by decide +kernel
theorem qd_Model_mend_86 : decode kb_Model_mend 86 = .ok (.iload 7, 2) := by decide +kernel
theorem qd_Model_mend_88 : decode kb_Model_mend 88 = .ok (.iload 5, 2) := by decide +kernel
theorem qd_Model_mend_90 : decode kb_Model_mend 90 = .ok (.isub, 1) := by decide +kernel
theorem qd_Model_mend_91 : decode kb_Model_mend 91 = .ok (.istore 9, 2) := by decide +kernel
theorem qd_Model_mend_93 : decode kb_Model_mend 93 = .ok (.iload 4, 2) := by decide +kernel
theorem qd_Model_mend_95 : decode kb_Model_mend 95 = .ok (.ifCond .ne (10), 3) := by decide +kernel
theorem qd_Model_mend_98 : decode kb_Model_mend 98 = .ok (.iload 7, 2) := by decide +kernel
theorem qd_Model_mend_100 : decode kb_Model_mend 100 = .ok (.istore 8, 2) := by decide +kernel
theorem qd_Model_mend_102 : decode kb_Model_mend 102 = .ok (.goto (252), 3) := by decide +kernel
theorem qd_Model_mend_105 : decode kb_Model_mend 105 = .ok (.iload 4, 2) := by decide +kernel
theorem qd_Model_mend_107 : decode kb_Model_mend 107 = .ok (.iconst 1, 1) := by decide +kernel
theorem qd_Model_mend_108 : decode kb_Model_mend 108 = .ok (.if_icmp .ne (25), 3) := by decide +kernel
theorem qd_Model_mend_111 : decode kb_Model_mend 111 = .ok (.iload 8, 2) := by decide +kernel
theorem qd_Model_mend_113 : decode kb_Model_mend 113 = .ok (.sipush (4095), 3) := by decide +kernel
theorem qd_Model_mend_116 : decode kb_Model_mend 116 = .ok (.iand, 1) := by decide +kernel
theorem qd_Model_mend_117 : decode kb_Model_mend 117 = .ok (.iload 7, 2) := by decide +kernel
theorem qd_Model_mend_119 : decode kb_Model_mend 119 = .ok (.sipush (2048), 3) := by decide +kernel
theorem qd_Model_mend_122 : decode kb_Model_mend 122 = .ok (.iadd, 1) := by decide +kernel
theorem qd_Model_mend_123 : decode kb_Model_mend 123 = .ok (.sipush (-4096), 3) := by decide +kernel
theorem qd_Model_mend_126 : decode kb_Model_mend 126 = .ok (.iand, 1) := by decide +kernel
theorem qd_Model_mend_127 : decode kb_Model_mend 127 = .ok (.ior, 1) := by decide +kernel
theorem qd_Model_mend_128 : decode kb_Model_mend 128 = .ok (.istore 8, 2) := by decide +kernel
theorem qd_Model_mend_130 : decode kb_Model_mend 130 = .ok (.goto (224), 3) := by decide +kernel
theorem qd_Model_mend_133 : decode kb_Model_mend 133 = .ok (.iload 4, 2) := by decide +kernel
theorem qd_Model_mend_135 : decode kb_Model_mend 135 = .ok (.iconst 2, 1) := by decide +kernel
theorem qd_Model_mend_136 : decode kb_Model_mend 136 = .ok (.if_icmp .ne (19), 3) := by decide +kernel
theorem qd_Model_mend_139 : decode kb_Model_mend 139 = .ok (.iload 8, 2) := by decide +kernel
theorem qd_Model_mend_141 : decode kb_Model_mend 141 = .ok (.ldc 142, 2) := by decide +kernel
theorem qd_Model_mend_143 : decode kb_Model_mend 143 = .ok (.iand, 1) := by decide +kernel
theorem qd_Model_mend_144 : decode kb_Model_mend 144 = .ok (.iload 7, 2) := by decide +kernel
theorem qd_Model_mend_146 : decode kb_Model_mend 146 = .ok (.bipush (20), 2) := by decide +kernel
theorem qd_Model_mend_148 : decode kb_Model_mend 148 = .ok (.ishl, 1) := by decide +kernel
theorem qd_Model_mend_149 : decode kb_Model_mend 149 = .ok (.ior, 1) := by decide +kernel
theorem qd_Model_mend_150 : decode kb_Model_mend 150 = .ok (.istore 8, 2) := by decide +kernel
theorem qd_Model_mend_152 : decode kb_Model_mend 152 = .ok (.goto (202), 3) := by decide +kernel
theorem qd_Model_mend_155 : decode kb_Model_mend 155 = .ok (.iload 4, 2) := by decide +kernel
theorem qd_Model_mend_157 : decode kb_Model_mend 157 = .ok (.iconst 3, 1) := by decide +kernel
theorem qd_Model_mend_158 : decode kb_Model_mend 158 = .ok (.if_icmp .ne (33), 3) := by decide +kernel
theorem qd_Model_mend_161 : decode kb_Model_mend 161 = .ok (.iload 8, 2) := by decide +kernel
theorem qd_Model_mend_163 : decode kb_Model_mend 163 = .ok (.ldc 143, 2) := by decide +kernel
theorem qd_Model_mend_165 : decode kb_Model_mend 165 = .ok (.iand, 1) := by decide +kernel
theorem qd_Model_mend_166 : decode kb_Model_mend 166 = .ok (.iload 7, 2) := by decide +kernel
theorem qd_Model_mend_168 : decode kb_Model_mend 168 = .ok (.iconst 5, 1) := by decide +kernel
theorem qd_Model_mend_169 : decode kb_Model_mend 169 = .ok (.ishr, 1) := by decide +kernel
theorem qd_Model_mend_170 : decode kb_Model_mend 170 = .ok (.bipush (127), 2) := by decide +kernel
theorem qd_Model_mend_172 : decode kb_Model_mend 172 = .ok (.iand, 1) := by decide +kernel
theorem qd_Model_mend_173 : decode kb_Model_mend 173 = .ok (.bipush (25), 2) := by decide +kernel
theorem qd_Model_mend_175 : decode kb_Model_mend 175 = .ok (.ishl, 1) := by decide +kernel
theorem qd_Model_mend_176 : decode kb_Model_mend 176 = .ok (.ior, 1) := by decide +kernel
theorem qd_Model_mend_177 : decode kb_Model_mend 177 = .ok (.iload 7, 2) := by decide +kernel
theorem qd_Model_mend_179 : decode kb_Model_mend 179 = .ok (.bipush (31), 2) := by decide +kernel
theorem qd_Model_mend_181 : decode kb_Model_mend 181 = .ok (.iand, 1) := by decide +kernel
theorem qd_Model_mend_182 : decode kb_Model_mend 182 = .ok (.bipush (7), 2) := by decide +kernel
theorem qd_Model_mend_184 : decode kb_Model_mend 184 = .ok (.ishl, 1) := by decide +kernel
theorem qd_Model_mend_185 : decode kb_Model_mend 185 = .ok (.ior, 1) := by decide +kernel
theorem qd_Model_mend_186 : decode kb_Model_mend 186 = .ok (.istore 8, 2) := by decide +kernel
theorem qd_Model_mend_188 : decode kb_Model_mend 188 = .ok (.goto (166), 3) := by decide +kernel
theorem qd_Model_mend_191 : decode kb_Model_mend 191 = .ok (.iload 4, 2) := by decide +kernel
theorem qd_Model_mend_193 : decode kb_Model_mend 193 = .ok (.iconst 4, 1) := by decide +kernel
theorem qd_Model_mend_194 : decode kb_Model_mend 194 = .ok (.if_icmp .ne (84), 3) := by decide +kernel
theorem qd_Model_mend_197 : decode kb_Model_mend 197 = .ok (.iload 9, 2) := by decide +kernel
theorem qd_Model_mend_199 : decode kb_Model_mend 199 = .ok (.iconst 2, 1) := by decide +kernel
theorem qd_Model_mend_200 : decode kb_Model_mend 200 = .ok (.irem, 1) := by decide +kernel
theorem qd_Model_mend_201 : decode kb_Model_mend 201 = .ok (.ifCond .ne (17), 3) := by decide +kernel
theorem qd_Model_mend_204 : decode kb_Model_mend 204 = .ok (.iload 9, 2) := by decide +kernel
theorem qd_Model_mend_206 : decode kb_Model_mend 206 = .ok (.ldc 144, 2) := by decide +kernel
theorem qd_Model_mend_208 : decode kb_Model_mend 208 = .ok (.if_icmp .lt (10), 3) := by decide +kernel
theorem qd_Model_mend_211 : decode kb_Model_mend 211 = .ok (.iload 9, 2) := by decide +kernel
theorem qd_Model_mend_213 : decode kb_Model_mend 213 = .ok (.ldc 145, 2) := by decide +kernel
theorem qd_Model_mend_215 : decode kb_Model_mend 215 = .ok (.if_icmp .le (5), 3) := by decide +kernel
theorem qd_Model_mend_218 : decode kb_Model_mend 218 = .ok (.iconst 0, 1) := by decide +kernel
theorem qd_Model_mend_219 : decode kb_Model_mend 219 = .ok (.ireturn, 1) := by decide +kernel
theorem qd_Model_mend_220 : decode kb_Model_mend 220 = .ok (.iload 8, 2) := by decide +kernel
theorem qd_Model_mend_222 : decode kb_Model_mend 222 = .ok (.sipush (4095), 3) := by decide +kernel
theorem qd_Model_mend_225 : decode kb_Model_mend 225 = .ok (.iand, 1) := by decide +kernel
theorem qd_Model_mend_226 : decode kb_Model_mend 226 = .ok (.iload 9, 2) := by decide +kernel
theorem qd_Model_mend_228 : decode kb_Model_mend 228 = .ok (.bipush (20), 2) := by decide +kernel
theorem qd_Model_mend_230 : decode kb_Model_mend 230 = .ok (.ishr, 1) := by decide +kernel
theorem qd_Model_mend_231 : decode kb_Model_mend 231 = .ok (.iconst 1, 1) := by decide +kernel
theorem qd_Model_mend_232 : decode kb_Model_mend 232 = .ok (.iand, 1) := by decide +kernel
theorem qd_Model_mend_233 : decode kb_Model_mend 233 = .ok (.bipush (31), 2) := by decide +kernel
theorem qd_Model_mend_235 : decode kb_Model_mend 235 = .ok (.ishl, 1) := by decide +kernel
theorem qd_Model_mend_236 : decode kb_Model_mend 236 = .ok (.ior, 1) := by decide +kernel
theorem qd_Model_mend_237 : decode kb_Model_mend 237 = .ok (.iload 9, 2) := by decide +kernel
theorem qd_Model_mend_239 : decode kb_Model_mend 239 = .ok (.iconst 1, 1) := by decide +kernel
theorem qd_Model_mend_240 : decode kb_Model_mend 240 = .ok (.ishr, 1) := by decide +kernel
theorem qd_Model_mend_241 : decode kb_Model_mend 241 = .ok (.sipush (1023), 3) := by decide +kernel
theorem qd_Model_mend_244 : decode kb_Model_mend 244 = .ok (.iand, 1) := by decide +kernel
theorem qd_Model_mend_245 : decode kb_Model_mend 245 = .ok (.bipush (21), 2) := by decide +kernel
theorem qd_Model_mend_247 : decode kb_Model_mend 247 = .ok (.ishl, 1) := by decide +kernel
theorem qd_Model_mend_248 : decode kb_Model_mend 248 = .ok (.ior, 1) := by decide +kernel
theorem qd_Model_mend_249 : decode kb_Model_mend 249 = .ok (.iload 9, 2) := by decide +kernel
theorem qd_Model_mend_251 : decode kb_Model_mend 251 = .ok (.bipush (11), 2) := by decide +kernel
theorem qd_Model_mend_253 : decode kb_Model_mend 253 = .ok (.ishr, 1) := by decide +kernel
theorem qd_Model_mend_254 : decode kb_Model_mend 254 = .ok (.iconst 1, 1) := by decide +kernel
theorem qd_Model_mend_255 : decode kb_Model_mend 255 = .ok (.iand, 1) := by decide +kernel
theorem qd_Model_mend_256 : decode kb_Model_mend 256 = .ok (.bipush (20), 2) := by decide +kernel
theorem qd_Model_mend_258 : decode kb_Model_mend 258 = .ok (.ishl, 1) := by decide +kernel
theorem qd_Model_mend_259 : decode kb_Model_mend 259 = .ok (.ior, 1) := by decide +kernel
theorem qd_Model_mend_260 : decode kb_Model_mend 260 = .ok (.iload 9, 2) := by decide +kernel
theorem qd_Model_mend_262 : decode kb_Model_mend 262 = .ok (.bipush (12), 2) := by decide +kernel
theorem qd_Model_mend_264 : decode kb_Model_mend 264 = .ok (.ishr, 1) := by decide +kernel
theorem qd_Model_mend_265 : decode kb_Model_mend 265 = .ok (.sipush (255), 3) := by decide +kernel
theorem qd_Model_mend_268 : decode kb_Model_mend 268 = .ok (.iand, 1) := by decide +kernel
theorem qd_Model_mend_269 : decode kb_Model_mend 269 = .ok (.bipush (12), 2) := by decide +kernel
theorem qd_Model_mend_271 : decode kb_Model_mend 271 = .ok (.ishl, 1) := by decide +kernel
theorem qd_Model_mend_272 : decode kb_Model_mend 272 = .ok (.ior, 1) := by decide +kernel
theorem qd_Model_mend_273 : decode kb_Model_mend 273 = .ok (.istore 8, 2) := by decide +kernel
theorem qd_Model_mend_275 : decode kb_Model_mend 275 = .ok (.goto (79), 3) := by decide +kernel
theorem qd_Model_mend_278 : decode kb_Model_mend 278 = .ok (.iload 9, 2) := by decide +kernel
theorem qd_Model_mend_280 : decode kb_Model_mend 280 = .ok (.iconst 2, 1) := by decide +kernel
theorem qd_Model_mend_281 : decode kb_Model_mend 281 = .ok (.irem, 1) := by decide +kernel
theorem qd_Model_mend_282 : decode kb_Model_mend 282 = .ok (.ifCond .ne (19), 3) := by decide +kernel
theorem qd_Model_mend_285 : decode kb_Model_mend 285 = .ok (.iload 9, 2) := by decide +kernel
theorem qd_Model_mend_287 : decode kb_Model_mend 287 = .ok (.sipush (-4096), 3) := by decide +kernel
theorem qd_Model_mend_290 : decode kb_Model_mend 290 = .ok (.if_icmp .lt (11), 3) := by decide +kernel
theorem qd_Model_mend_293 : decode kb_Model_mend 293 = .ok (.iload 9, 2) := by decide +kernel
theorem qd_Model_mend_295 : decode kb_Model_mend 295 = .ok (.sipush (4094), 3) := by decide +kernel
theorem qd_Model_mend_298 : decode kb_Model_mend 298 = .ok (.if_icmp .le (5), 3) := by decide +kernel
theorem qd_Model_mend_301 : decode kb_Model_mend 301 = .ok (.iconst 0, 1) := by decide +kernel
theorem qd_Model_mend_302 : decode kb_Model_mend 302 = .ok (.ireturn, 1) := by decide +kernel
theorem qd_Model_mend_303 : decode kb_Model_mend 303 = .ok (.iload 8, 2) := by decide +kernel
theorem qd_Model_mend_305 : decode kb_Model_mend 305 = .ok (.ldc 143, 2) := by decide +kernel
theorem qd_Model_mend_307 : decode kb_Model_mend 307 = .ok (.iand, 1) := by decide +kernel
theorem qd_Model_mend_308 : decode kb_Model_mend 308 = .ok (.iload 9, 2) := by decide +kernel
theorem qd_Model_mend_310 : decode kb_Model_mend 310 = .ok (.bipush (12), 2) := by decide +kernel
theorem qd_Model_mend_312 : decode kb_Model_mend 312 = .ok (.ishr, 1) := by decide +kernel
theorem qd_Model_mend_313 : decode kb_Model_mend 313 = .ok (.iconst 1, 1) := by decide +kernel
theorem qd_Model_mend_314 : decode kb_Model_mend 314 = .ok (.iand, 1) := by decide +kernel
theorem qd_Model_mend_315 : decode kb_Model_mend 315 = .ok (.bipush (31), 2) := by decide +kernel
theorem qd_Model_mend_317 : decode kb_Model_mend 317 = .ok (.ishl, 1) := by decide +kernel
theorem qd_Model_mend_318 : decode kb_Model_mend 318 = .ok (.ior, 1) := by decide +kernel
theorem qd_Model_mend_319 : decode kb_Model_mend 319 = .ok (.iload 9, 2) := by decide +kernel
theorem qd_Model_mend_321 : decode kb_Model_mend 321 = .ok (.iconst 5, 1) := by decide +kernel
theorem qd_Model_mend_322 : decode kb_Model_mend 322 = .ok (.ishr, 1) := by decide +kernel
theorem qd_Model_mend_323 : decode kb_Model_mend 323 = .ok (.bipush (63), 2) := by decide +kernel
theorem qd_Model_mend_325 : decode kb_Model_mend 325 = .ok (.iand, 1) := by decide +kernel
theorem qd_Model_mend_326 : decode kb_Model_mend 326 = .ok (.bipush (25), 2) := by decide +kernel
theorem qd_Model_mend_328 : decode kb_Model_mend 328 = .ok (.ishl, 1) := by decide +kernel
theorem qd_Model_mend_329 : decode kb_Model_mend 329 = .ok (.ior, 1) := by decide +kernel
theorem qd_Model_mend_330 : decode kb_Model_mend 330 = .ok (.iload 9, 2) := by decide +kernel
theorem qd_Model_mend_332 : decode kb_Model_mend 332 = .ok (.iconst 1, 1) := by decide +kernel
theorem qd_Model_mend_333 : decode kb_Model_mend 333 = .ok (.ishr, 1) := by decide +kernel
theorem qd_Model_mend_334 : decode kb_Model_mend 334 = .ok (.bipush (15), 2) := by decide +kernel
theorem qd_Model_mend_336 : decode kb_Model_mend 336 = .ok (.iand, 1) := by decide +kernel
theorem qd_Model_mend_337 : decode kb_Model_mend 337 = .ok (.bipush (8), 2) := by decide +kernel
theorem qd_Model_mend_339 : decode kb_Model_mend 339 = .ok (.ishl, 1) := by decide +kernel
theorem qd_Model_mend_340 : decode kb_Model_mend 340 = .ok (.ior, 1) := by decide +kernel
theorem qd_Model_mend_341 : decode kb_Model_mend 341 = .ok (.iload 9, 2) := by decide +kernel
theorem qd_Model_mend_343 : decode kb_Model_mend 343 = .ok (.bipush (11), 2) := by decide +kernel
theorem qd_Model_mend_345 : decode kb_Model_mend 345 = .ok (.ishr, 1) := by decide +kernel
theorem qd_Model_mend_346 : decode kb_Model_mend 346 = .ok (.iconst 1, 1) := by decide +kernel
theorem qd_Model_mend_347 : decode kb_Model_mend 347 = .ok (.iand, 1) := by decide +kernel
theorem qd_Model_mend_348 : decode kb_Model_mend 348 = .ok (.bipush (7), 2) := by decide +kernel
theorem qd_Model_mend_350 : decode kb_Model_mend 350 = .ok (.ishl, 1) := by decide +kernel
theorem qd_Model_mend_351 : decode kb_Model_mend 351 = .ok (.ior, 1) := by decide +kernel
theorem qd_Model_mend_352 : decode kb_Model_mend 352 = .ok (.istore 8, 2) := by decide +kernel
theorem qd_Model_mend_354 : decode kb_Model_mend 354 = .ok (.iconst 0, 1) := by decide +kernel
theorem qd_Model_mend_355 : decode kb_Model_mend 355 = .ok (.istore 10, 2) := by decide +kernel
theorem qd_Model_mend_357 : decode kb_Model_mend 357 = .ok (.iload 10, 2) := by decide +kernel
theorem qd_Model_mend_359 : decode kb_Model_mend 359 = .ok (.iconst 4, 1) := by decide +kernel
theorem qd_Model_mend_360 : decode kb_Model_mend 360 = .ok (.if_icmp .ge (36), 3) := by decide +kernel
theorem qd_Model_mend_363 : decode kb_Model_mend 363 = .ok (.aload_n 0, 1) := by decide +kernel
theorem qd_Model_mend_364 : decode kb_Model_mend 364 = .ok (.getfield 47, 3) := by decide +kernel
theorem qd_Model_mend_367 : decode kb_Model_mend 367 = .ok (.bipush (32), 2) := by decide +kernel
theorem qd_Model_mend_369 : decode kb_Model_mend 369 = .ok (.iload 5, 2) := by decide +kernel
theorem qd_Model_mend_371 : decode kb_Model_mend 371 = .ok (.iadd, 1) := by decide +kernel
theorem qd_Model_mend_372 : decode kb_Model_mend 372 = .ok (.iload_n 1, 1) := by decide +kernel
theorem qd_Model_mend_373 : decode kb_Model_mend 373 = .ok (.isub, 1) := by decide +kernel
theorem qd_Model_mend_374 : decode kb_Model_mend 374 = .ok (.iload 10, 2) := by decide +kernel
theorem qd_Model_mend_376 : decode kb_Model_mend 376 = .ok (.iadd, 1) := by decide +kernel
theorem qd_Model_mend_377 : decode kb_Model_mend 377 = .ok (.iload 8, 2) := by decide +kernel
theorem qd_Model_mend_379 : decode kb_Model_mend 379 = .ok (.bipush (8), 2) := by decide +kernel
theorem qd_Model_mend_381 : decode kb_Model_mend 381 = .ok (.iload 10, 2) := by decide +kernel
theorem qd_Model_mend_383 : decode kb_Model_mend 383 = .ok (.imul, 1) := by decide +kernel
theorem qd_Model_mend_384 : decode kb_Model_mend 384 = .ok (.ishr, 1) := by decide +kernel
theorem qd_Model_mend_385 : decode kb_Model_mend 385 = .ok (.sipush (255), 3) := by decide +kernel
theorem qd_Model_mend_388 : decode kb_Model_mend 388 = .ok (.iand, 1) := by decide +kernel
theorem qd_Model_mend_389 : decode kb_Model_mend 389 = .ok (.iastore, 1) := by decide +kernel
theorem qd_Model_mend_390 : decode kb_Model_mend 390 = .ok (.iinc 10 (1), 3) := by decide +kernel
theorem qd_Model_mend_393 : decode kb_Model_mend 393 = .ok (.goto (-36), 3) := by decide +kernel
theorem qd_Model_mend_396 : decode kb_Model_mend 396 = .ok (.iconst 1, 1) := by decide +kernel
theorem qd_Model_mend_397 : decode kb_Model_mend 397 = .ok (.ireturn, 1) := by decide +kernel
def qf_Model_mend_b218 (u : qm_S) : Option (Int32 × qm_S) := some (vp_nar .boolean (0 : Int32), u)
def qf_Model_mend_b301 (u : qm_S) : Option (Int32 × qm_S) := some (vp_nar .boolean (0 : Int32), u)
def qf_Model_mend_b357 : Nat → qm_S → Int32 → Int32 → Int32 → Int32 → Option (Int32 × qm_S)
  | 0, _, _, _, _, _ => none
  | n + 1, u, x1, x5, x8, x10 => if (4 : Int32) ≤ x10 then (some (vp_nar .boolean (1 : Int32), u)) else ((xx_as (u.2 13) 1200 ((((32 : Int32) + x5) - x1) + x10) ((x8 >>> (((8 : Int32) * x10) &&& 31)) &&& (255 : Int32))).bind fun f1 => xx_nm (u.1, va_up u.2 13 f1) fun u2 => xx_nm (x10 + (1 : Int32)) fun v3 => (qf_Model_mend_b357 n) u2 x1 x5 x8 v3)
def qf_Model_mend_b354 (u : qm_S) (x1 : Int32) (x5 : Int32) (x8 : Int32) : Option (Int32 × qm_S) := xx_nm (0 : Int32) fun v1 => qf_Model_mend_b357 xx_fu u x1 x5 x8 v1
def qf_Model_mend_b62 (u : qm_S) (x1 : Int32) (x3 : Int32) (x4 : Int32) (x5 : Int32) (y0 : Int32) : Option (Int32 × qm_S) := xx_b2 (qf_Model_tapeWord u (x3 + (12 : Int32))) fun v2 u1 => xx_nm (y0 + v2) fun v3 => xx_b2 (qf_Model_tapeWord u1 (((32 : Int32) + x5) - x1)) fun v5 u4 => xx_nm (v3 - x5) fun v6 => if x4 = 0 then (qf_Model_mend_b354 u4 x1 x5 v3) else (if x4 = (1 : Int32) then (xx_nm ((v5 &&& (4095 : Int32)) ||| ((v3 + (2048 : Int32)) &&& (-4096 : Int32))) fun v11 => qf_Model_mend_b354 u4 x1 x5 v11) else (if x4 = (2 : Int32) then (xx_nm ((v5 &&& (1048575 : Int32)) ||| (v3 <<< ((20 : Int32) &&& 31))) fun v10 => qf_Model_mend_b354 u4 x1 x5 v10) else (if x4 = (3 : Int32) then (xx_nm (((v5 &&& (33550463 : Int32)) ||| (((v3 >>> ((5 : Int32) &&& 31)) &&& (127 : Int32)) <<< ((25 : Int32) &&& 31))) ||| ((v3 &&& (31 : Int32)) <<< ((7 : Int32) &&& 31))) fun v9 => qf_Model_mend_b354 u4 x1 x5 v9) else (if x4 = (4 : Int32) then (if (v6 - v6 / (2 : Int32) * (2 : Int32)) = 0 then (if v6 < (-1048576 : Int32) then (qf_Model_mend_b218 u4) else (if v6 ≤ (1048574 : Int32) then (xx_nm (((((v5 &&& (4095 : Int32)) ||| (((v6 >>> ((20 : Int32) &&& 31)) &&& (1 : Int32)) <<< ((31 : Int32) &&& 31))) ||| (((v6 >>> ((1 : Int32) &&& 31)) &&& (1023 : Int32)) <<< ((21 : Int32) &&& 31))) ||| (((v6 >>> ((11 : Int32) &&& 31)) &&& (1 : Int32)) <<< ((20 : Int32) &&& 31))) ||| (((v6 >>> ((12 : Int32) &&& 31)) &&& (255 : Int32)) <<< ((12 : Int32) &&& 31))) fun v8 => qf_Model_mend_b354 u4 x1 x5 v8) else (qf_Model_mend_b218 u4))) else (qf_Model_mend_b218 u4)) else (if (v6 - v6 / (2 : Int32) * (2 : Int32)) = 0 then (if v6 < (-4096 : Int32) then (qf_Model_mend_b301 u4) else (if v6 ≤ (4094 : Int32) then (xx_nm (((((v5 &&& (33550463 : Int32)) ||| (((v6 >>> ((12 : Int32) &&& 31)) &&& (1 : Int32)) <<< ((31 : Int32) &&& 31))) ||| (((v6 >>> ((5 : Int32) &&& 31)) &&& (63 : Int32)) <<< ((25 : Int32) &&& 31))) ||| (((v6 >>> ((1 : Int32) &&& 31)) &&& (15 : Int32)) <<< ((8 : Int32) &&& 31))) ||| (((v6 >>> ((11 : Int32) &&& 31)) &&& (1 : Int32)) <<< ((7 : Int32) &&& 31))) fun v7 => qf_Model_mend_b354 u4 x1 x5 v7) else (qf_Model_mend_b301 u4))) else (qf_Model_mend_b301 u4))))))
def qf_Model_mend (u : qm_S) (x1 : Int32) (x2 : Int32) : Option (Int32 × qm_S) := xx_b2 (qf_Model_placeAt u x2) fun v2 u1 => xx_b2 (qf_Model_tapeWord u1 v2) fun v4 u3 => xx_b2 (qf_Model_tapeWord u3 (v2 + (4 : Int32))) fun v6 u5 => xx_nm (x1 + v6) fun v7 => xx_b2 (qf_Model_tapeWord u5 (v2 + (8 : Int32))) fun v9 u8 => if 0 ≤ v9 then (xx_b2 (qf_Model_importAt u8 v9) fun v11 u10 => xx_b2 (qf_Model_tapeWord u10 v11) fun v13 u12 => xx_b2 (qf_Model_find u12 v13) fun v15 u14 => (xx_ag (u14.2 4) 40 v15).bind fun v16 => qf_Model_mend_b62 u14 x1 v2 v4 v7 v16) else (qf_Model_mend_b62 u8 x1 v2 v4 v7 x1)
set_option maxHeartbeats 4000000 in
set_option maxRecDepth 100000 in
theorem qw_Model_mend_b218 {p : Program} {l : Launch} {e : Env} {s : State} {m : MethodId} {args : Array Value} {below : List Frame} {meth : Method} {c : Code} {A : Nat → Prop} {g : xx_G} {r : Int32} {u9 : qm_S} (C : xx_C p s m args meth c kb_Model_mend 11 kr_Model (some .boolean)) (hA : ∀ q, s.heap.size ≤ q → A q) (hK : va_K g.1 xx_cls (qm_T g) s) : ∀ (u : qm_S) (H : Heap) (locs : List Loc) (ls : Array Slot), qf_Model_mend_b218 u = some (r, u9) → lv_has ls 11 [] → va_P g.1 xx_cls (qm_W g u) H → va_D A (qm_W g u) → va_S A s.heap H locs → W p l e (xx_rm 3 63) s m args below meth c H locs 0 0 (MQ below (xx_Q g.1 (qm_T g) (qm_W g) (some (.int r)) u9 A) args s 0 0 A) (F0 m 218 ls []) := by
  have hx := C.1
  have hb := C.2.1
  have hown := C.2.2.2.1
  have hts := C.2.2.2.2.1
  intro u H locs ls hF hl hP hD hS
  unfold qf_Model_mend_b218 at hF
  refine lv_iconst (v := (0 : Int32)) hx hb qd_Model_mend_218 (by decide) ?_
  exact xx_zret C hF hK hP hD hS qd_Model_mend_219
set_option maxHeartbeats 4000000 in
set_option maxRecDepth 100000 in
theorem qw_Model_mend_b301 {p : Program} {l : Launch} {e : Env} {s : State} {m : MethodId} {args : Array Value} {below : List Frame} {meth : Method} {c : Code} {A : Nat → Prop} {g : xx_G} {r : Int32} {u9 : qm_S} (C : xx_C p s m args meth c kb_Model_mend 11 kr_Model (some .boolean)) (hA : ∀ q, s.heap.size ≤ q → A q) (hK : va_K g.1 xx_cls (qm_T g) s) : ∀ (u : qm_S) (H : Heap) (locs : List Loc) (ls : Array Slot), qf_Model_mend_b301 u = some (r, u9) → lv_has ls 11 [] → va_P g.1 xx_cls (qm_W g u) H → va_D A (qm_W g u) → va_S A s.heap H locs → W p l e (xx_rm 3 63) s m args below meth c H locs 0 0 (MQ below (xx_Q g.1 (qm_T g) (qm_W g) (some (.int r)) u9 A) args s 0 0 A) (F0 m 301 ls []) := by
  have hx := C.1
  have hb := C.2.1
  have hown := C.2.2.2.1
  have hts := C.2.2.2.2.1
  intro u H locs ls hF hl hP hD hS
  unfold qf_Model_mend_b301 at hF
  refine lv_iconst (v := (0 : Int32)) hx hb qd_Model_mend_301 (by decide) ?_
  exact xx_zret C hF hK hP hD hS qd_Model_mend_302
set_option maxHeartbeats 4000000 in
set_option maxRecDepth 100000 in
theorem qw_Model_mend_b357 {p : Program} {l : Launch} {e : Env} {s : State} {m : MethodId} {args : Array Value} {below : List Frame} {meth : Method} {c : Code} {A : Nat → Prop} {g : xx_G} {r : Int32} {u9 : qm_S} (C : xx_C p s m args meth c kb_Model_mend 11 kr_Model (some .boolean)) (hA : ∀ q, s.heap.size ≤ q → A q) (hK : va_K g.1 xx_cls (qm_T g) s) : ∀ (n : Nat), ∀ (u : qm_S) (x1 : Int32) (x5 : Int32) (x8 : Int32) (x10 : Int32) (H : Heap) (locs : List Loc) (ls : Array Slot), qf_Model_mend_b357 n u x1 x5 x8 x10 = some (r, u9) → lv_has ls 11 [(0, .ref (g.2.1 0)), (1, .int x1), (5, .int x5), (8, .int x8), (10, .int x10)] → va_P g.1 xx_cls (qm_W g u) H → va_D A (qm_W g u) → va_S A s.heap H locs → W p l e (xx_rm 3 63) s m args below meth c H locs 0 0 (MQ below (xx_Q g.1 (qm_T g) (qm_W g) (some (.int r)) u9 A) args s 0 0 A) (F0 m 357 ls []) := by
  have hx := C.1
  have hb := C.2.1
  have hown := C.2.2.2.1
  have hts := C.2.2.2.2.1
  intro n
  induction n with
  | zero =>
    intro u x1 x5 x8 x10 H locs ls hF
    rw [qf_Model_mend_b357] at hF
    cases hF
  | succ n ih =>
    intro u x1 x5 x8 x10 H locs ls hF hl hP hD hS
    rw [qf_Model_mend_b357] at hF
    refine lv_iload hx hb qd_Model_mend_357 (lv_at hl 4 rfl) ?_
    refine lv_iconst (v := (4 : Int32)) hx hb qd_Model_mend_359 (by decide) ?_
    refine lv_icmp_ge (tgt := 396) hx hb qd_Model_mend_360 (by decide) (fun hc => ?_) (fun hc => ?_)
    · have hF := xx_ip hc hF
      refine lv_iconst (v := (1 : Int32)) hx hb qd_Model_mend_396 (by decide) ?_
      exact xx_zret C hF hK hP hD hS qd_Model_mend_397
    · have hF := xx_in' hc hF
      refine lv_aload_n hx hb qd_Model_mend_363 rfl (lv_at hl 0 rfl) ?_
      refine xx_get C ki_Model hK hP 0 rfl rfl 16 (by decide) kw_889 rfl rfl qd_Model_mend_364 ?_
      refine lv_bipush (v := (32 : Int32)) hx hb qd_Model_mend_367 (by decide) ?_
      refine lv_iload hx hb qd_Model_mend_369 (lv_at hl 2 rfl) ?_
      refine lv_iadd hx hb qd_Model_mend_371 ?_
      refine lv_iload_n hx hb qd_Model_mend_372 rfl (lv_at hl 1 rfl) ?_
      refine lv_isub hx hb qd_Model_mend_373 ?_
      refine lv_iload hx hb qd_Model_mend_374 (lv_at hl 4 rfl) ?_
      refine lv_iadd hx hb qd_Model_mend_376 ?_
      refine lv_iload hx hb qd_Model_mend_377 (lv_at hl 3 rfl) ?_
      refine lv_bipush (v := (8 : Int32)) hx hb qd_Model_mend_379 (by decide) ?_
      refine lv_iload hx hb qd_Model_mend_381 (lv_at hl 4 rfl) ?_
      refine lv_imul hx hb qd_Model_mend_383 ?_
      refine lv_ishr hx hb qd_Model_mend_384 ?_
      refine lv_sipush (v := (255 : Int32)) hx hb qd_Model_mend_385 (by decide) ?_
      refine lv_iand hx hb qd_Model_mend_388 ?_
      obtain ⟨f1, ef1, hF⟩ := xx_ob hF
      obtain ⟨u2, eu2, hF⟩ := xx_nm_some hF
      refine xx_iast (ws1 := qm_W g u2) C hK hP hD hS 13 0 rfl rfl ef1 (by rw [eu2]; rfl) qd_Model_mend_389 (fun H locs hP hD hS => ?_)
      obtain ⟨v3, ev3, hF⟩ := xx_nm_some hF
      refine lv_iinc (k := 4) (v := v3) hx hb qd_Model_mend_390 hl rfl (by rw [ev3, xx_lit1]) (by decide) rfl (fun ls hl => ?_)
      refine lv_goto (tgt := 357) hx hb qd_Model_mend_393 (by decide) ?_
      exact ih u2 x1 x5 x8 v3 _ _ _ hF (lv_sub hl [1, 2, 3, 4, 0] rfl) hP hD hS
set_option maxHeartbeats 4000000 in
set_option maxRecDepth 100000 in
theorem qw_Model_mend_b354 {p : Program} {l : Launch} {e : Env} {s : State} {m : MethodId} {args : Array Value} {below : List Frame} {meth : Method} {c : Code} {A : Nat → Prop} {g : xx_G} {r : Int32} {u9 : qm_S} (C : xx_C p s m args meth c kb_Model_mend 11 kr_Model (some .boolean)) (hA : ∀ q, s.heap.size ≤ q → A q) (hK : va_K g.1 xx_cls (qm_T g) s) : ∀ (u : qm_S) (x1 : Int32) (x5 : Int32) (x8 : Int32) (H : Heap) (locs : List Loc) (ls : Array Slot), qf_Model_mend_b354 u x1 x5 x8 = some (r, u9) → lv_has ls 11 [(0, .ref (g.2.1 0)), (1, .int x1), (5, .int x5), (8, .int x8)] → va_P g.1 xx_cls (qm_W g u) H → va_D A (qm_W g u) → va_S A s.heap H locs → W p l e (xx_rm 3 63) s m args below meth c H locs 0 0 (MQ below (xx_Q g.1 (qm_T g) (qm_W g) (some (.int r)) u9 A) args s 0 0 A) (F0 m 354 ls []) := by
  have hx := C.1
  have hb := C.2.1
  have hown := C.2.2.2.1
  have hts := C.2.2.2.2.1
  intro u x1 x5 x8 H locs ls hF hl hP hD hS
  unfold qf_Model_mend_b354 at hF
  refine lv_iconst (v := (0 : Int32)) hx hb qd_Model_mend_354 (by decide) ?_
  obtain ⟨v1, ev1, hF⟩ := xx_nm_some hF
  refine xx_topi ev1 ?_
  refine lv_istore hx hb qd_Model_mend_355 hl (by decide) rfl (fun ls hl => ?_)
  exact qw_Model_mend_b357 C hA hK xx_fu u x1 x5 x8 v1 _ _ _ hF (lv_sub hl [1, 2, 3, 4, 0] rfl) hP hD hS
set_option maxHeartbeats 4000000 in
set_option maxRecDepth 100000 in
theorem qw_Model_mend_b62 {p : Program} {l : Launch} {e : Env} {s : State} {m : MethodId} {args : Array Value} {below : List Frame} {meth : Method} {c : Code} {A : Nat → Prop} {g : xx_G} {r : Int32} {u9 : qm_S} (C : xx_C p s m args meth c kb_Model_mend 11 kr_Model (some .boolean)) (hA : ∀ q, s.heap.size ≤ q → A q) (hK : va_K g.1 xx_cls (qm_T g) s) : ∀ (u : qm_S) (x1 : Int32) (x3 : Int32) (x4 : Int32) (x5 : Int32) (y0 : Int32) (H : Heap) (locs : List Loc) (ls : Array Slot), qf_Model_mend_b62 u x1 x3 x4 x5 y0 = some (r, u9) → lv_has ls 11 [(0, .ref (g.2.1 0)), (1, .int x1), (3, .int x3), (4, .int x4), (5, .int x5)] → va_P g.1 xx_cls (qm_W g u) H → va_D A (qm_W g u) → va_S A s.heap H locs → W p l e (xx_rm 3 63) s m args below meth c H locs 0 0 (MQ below (xx_Q g.1 (qm_T g) (qm_W g) (some (.int r)) u9 A) args s 0 0 A) (F0 m 62 ls [.int y0]) := by
  have hx := C.1
  have hb := C.2.1
  have hown := C.2.2.2.1
  have hts := C.2.2.2.2.1
  intro u x1 x3 x4 x5 y0 H locs ls hF hl hP hD hS
  unfold qf_Model_mend_b62 at hF
  refine lv_aload_n hx hb qd_Model_mend_62 rfl (lv_at hl 0 rfl) ?_
  refine lv_iload_n hx hb qd_Model_mend_63 rfl (lv_at hl 2 rfl) ?_
  refine lv_bipush (v := (12 : Int32)) hx hb qd_Model_mend_64 (by decide) ?_
  refine lv_iadd hx hb qd_Model_mend_66 ?_
  obtain ⟨v2, u1, eu1, hF⟩ := xx_b2_some hF
  refine xx_callV (n := 1) (As := [.int (x3 + (12 : Int32))]) (rest := [.int y0]) C (qc_Model_tapeWord l g u (x3 + (12 : Int32)) v2 u1 eu1) ⟨kw_1040, kw_1037, kw_1039, ks_Model_tapeWord, kw_9⟩ ⟨by decide +kernel, by decide +kernel, by decide +kernel⟩ rfl ⟨Nat.le_of_ble_eq_true rfl, Nat.le_of_ble_eq_true rfl⟩ 0 rfl rfl hl.1 rfl (Nat.le_of_ble_eq_true rfl) hA hK hP hD hS ⟨Nat.le_refl _, Nat.le_refl _⟩ rfl rfl rfl qd_Model_mend_67 (fun H locs hP hD hS => ?_)
  refine lv_iadd hx hb qd_Model_mend_70 ?_
  obtain ⟨v3, ev3, hF⟩ := xx_nm_some hF
  refine xx_topi ev3 ?_
  refine lv_istore hx hb qd_Model_mend_71 hl (by decide) rfl (fun ls hl => ?_)
  refine lv_aload_n hx hb qd_Model_mend_73 rfl (lv_at hl 1 rfl) ?_
  refine lv_bipush (v := (32 : Int32)) hx hb qd_Model_mend_74 (by decide) ?_
  refine lv_iload hx hb qd_Model_mend_76 (lv_at hl 5 rfl) ?_
  refine lv_iadd hx hb qd_Model_mend_78 ?_
  refine lv_iload_n hx hb qd_Model_mend_79 rfl (lv_at hl 2 rfl) ?_
  refine lv_isub hx hb qd_Model_mend_80 ?_
  obtain ⟨v5, u4, eu4, hF⟩ := xx_b2_some hF
  refine xx_callV (n := 1) (As := [.int (((32 : Int32) + x5) - x1)]) (rest := []) C (qc_Model_tapeWord l g u1 (((32 : Int32) + x5) - x1) v5 u4 eu4) ⟨kw_1040, kw_1037, kw_1039, ks_Model_tapeWord, kw_9⟩ ⟨by decide +kernel, by decide +kernel, by decide +kernel⟩ rfl ⟨Nat.le_of_ble_eq_true rfl, Nat.le_of_ble_eq_true rfl⟩ 0 rfl rfl hl.1 rfl (Nat.le_of_ble_eq_true rfl) hA hK hP hD hS ⟨Nat.le_refl _, Nat.le_refl _⟩ rfl rfl rfl qd_Model_mend_81 (fun H locs hP hD hS => ?_)
  refine lv_istore hx hb qd_Model_mend_84 hl (by decide) rfl (fun ls hl => ?_)
  refine lv_iload hx hb qd_Model_mend_86 (lv_at hl 1 rfl) ?_
  refine lv_iload hx hb qd_Model_mend_88 (lv_at hl 6 rfl) ?_
  refine lv_isub hx hb qd_Model_mend_90 ?_
  obtain ⟨v6, ev6, hF⟩ := xx_nm_some hF
  refine xx_topi ev6 ?_
  refine lv_istore hx hb qd_Model_mend_91 hl (by decide) rfl (fun ls hl => ?_)
  refine lv_iload hx hb qd_Model_mend_93 (lv_at hl 6 rfl) ?_
  refine lv_if_ne (tgt := 105) hx hb qd_Model_mend_95 (by decide) (fun hc => ?_) (fun hc => ?_)
  · have hF := xx_in' hc hF
    refine lv_iload hx hb qd_Model_mend_105 (lv_at hl 6 rfl) ?_
    refine lv_iconst (v := (1 : Int32)) hx hb qd_Model_mend_107 (by decide) ?_
    refine lv_icmp_ne (tgt := 133) hx hb qd_Model_mend_108 (by decide) (fun hc => ?_) (fun hc => ?_)
    · have hF := xx_in' hc hF
      refine lv_iload hx hb qd_Model_mend_133 (lv_at hl 6 rfl) ?_
      refine lv_iconst (v := (2 : Int32)) hx hb qd_Model_mend_135 (by decide) ?_
      refine lv_icmp_ne (tgt := 155) hx hb qd_Model_mend_136 (by decide) (fun hc => ?_) (fun hc => ?_)
      · have hF := xx_in' hc hF
        refine lv_iload hx hb qd_Model_mend_155 (lv_at hl 6 rfl) ?_
        refine lv_iconst (v := (3 : Int32)) hx hb qd_Model_mend_157 (by decide) ?_
        refine lv_icmp_ne (tgt := 191) hx hb qd_Model_mend_158 (by decide) (fun hc => ?_) (fun hc => ?_)
        · have hF := xx_in' hc hF
          refine lv_iload hx hb qd_Model_mend_191 (lv_at hl 6 rfl) ?_
          refine lv_iconst (v := (4 : Int32)) hx hb qd_Model_mend_193 (by decide) ?_
          refine lv_icmp_ne (tgt := 278) hx hb qd_Model_mend_194 (by decide) (fun hc => ?_) (fun hc => ?_)
          · have hF := xx_in' hc hF
            refine lv_iload hx hb qd_Model_mend_278 (lv_at hl 0 rfl) ?_
            refine lv_iconst (v := (2 : Int32)) hx hb qd_Model_mend_280 (by decide) ?_
            refine lv_irem hx hb qd_Model_mend_281 (by decide) ?_
            refine lv_if_ne (tgt := 301) hx hb qd_Model_mend_282 (by decide) (fun hc => ?_) (fun hc => ?_)
            · have hF := xx_in' hc hF
              exact qw_Model_mend_b301 C hA hK  u4 _ _ _ hF (lv_sub hl [] rfl) hP hD hS
            · have hF := xx_ip hc hF
              refine lv_iload hx hb qd_Model_mend_285 (lv_at hl 0 rfl) ?_
              refine lv_sipush (v := (-4096 : Int32)) hx hb qd_Model_mend_287 (by decide) ?_
              refine lv_icmp_lt (tgt := 301) hx hb qd_Model_mend_290 (by decide) (fun hc => ?_) (fun hc => ?_)
              · have hF := xx_ip hc hF
                exact qw_Model_mend_b301 C hA hK  u4 _ _ _ hF (lv_sub hl [] rfl) hP hD hS
              · have hF := xx_in' hc hF
                refine lv_iload hx hb qd_Model_mend_293 (lv_at hl 0 rfl) ?_
                refine lv_sipush (v := (4094 : Int32)) hx hb qd_Model_mend_295 (by decide) ?_
                refine lv_icmp_le (tgt := 303) hx hb qd_Model_mend_298 (by decide) (fun hc => ?_) (fun hc => ?_)
                · have hF := xx_ip hc hF
                  refine lv_iload hx hb qd_Model_mend_303 (lv_at hl 1 rfl) ?_
                  refine lv_ldc (v := (33550463 : Int32)) hx hb hown (hts _ kw_1090) qd_Model_mend_305 ?_
                  refine lv_iand hx hb qd_Model_mend_307 ?_
                  refine lv_iload hx hb qd_Model_mend_308 (lv_at hl 0 rfl) ?_
                  refine lv_bipush (v := (12 : Int32)) hx hb qd_Model_mend_310 (by decide) ?_
                  refine lv_ishr hx hb qd_Model_mend_312 ?_
                  refine lv_iconst (v := (1 : Int32)) hx hb qd_Model_mend_313 (by decide) ?_
                  refine lv_iand hx hb qd_Model_mend_314 ?_
                  refine lv_bipush (v := (31 : Int32)) hx hb qd_Model_mend_315 (by decide) ?_
                  refine lv_ishl hx hb qd_Model_mend_317 ?_
                  refine lv_ior hx hb qd_Model_mend_318 ?_
                  refine lv_iload hx hb qd_Model_mend_319 (lv_at hl 0 rfl) ?_
                  refine lv_iconst (v := (5 : Int32)) hx hb qd_Model_mend_321 (by decide) ?_
                  refine lv_ishr hx hb qd_Model_mend_322 ?_
                  refine lv_bipush (v := (63 : Int32)) hx hb qd_Model_mend_323 (by decide) ?_
                  refine lv_iand hx hb qd_Model_mend_325 ?_
                  refine lv_bipush (v := (25 : Int32)) hx hb qd_Model_mend_326 (by decide) ?_
                  refine lv_ishl hx hb qd_Model_mend_328 ?_
                  refine lv_ior hx hb qd_Model_mend_329 ?_
                  refine lv_iload hx hb qd_Model_mend_330 (lv_at hl 0 rfl) ?_
                  refine lv_iconst (v := (1 : Int32)) hx hb qd_Model_mend_332 (by decide) ?_
                  refine lv_ishr hx hb qd_Model_mend_333 ?_
                  refine lv_bipush (v := (15 : Int32)) hx hb qd_Model_mend_334 (by decide) ?_
                  refine lv_iand hx hb qd_Model_mend_336 ?_
                  refine lv_bipush (v := (8 : Int32)) hx hb qd_Model_mend_337 (by decide) ?_
                  refine lv_ishl hx hb qd_Model_mend_339 ?_
                  refine lv_ior hx hb qd_Model_mend_340 ?_
                  refine lv_iload hx hb qd_Model_mend_341 (lv_at hl 0 rfl) ?_
                  refine lv_bipush (v := (11 : Int32)) hx hb qd_Model_mend_343 (by decide) ?_
                  refine lv_ishr hx hb qd_Model_mend_345 ?_
                  refine lv_iconst (v := (1 : Int32)) hx hb qd_Model_mend_346 (by decide) ?_
                  refine lv_iand hx hb qd_Model_mend_347 ?_
                  refine lv_bipush (v := (7 : Int32)) hx hb qd_Model_mend_348 (by decide) ?_
                  refine lv_ishl hx hb qd_Model_mend_350 ?_
                  refine lv_ior hx hb qd_Model_mend_351 ?_
                  obtain ⟨v7, ev7, hF⟩ := xx_nm_some hF
                  refine xx_topi ev7 ?_
                  refine lv_istore hx hb qd_Model_mend_352 hl (by decide) rfl (fun ls hl => ?_)
                  exact qw_Model_mend_b354 C hA hK  u4 x1 x5 v7 _ _ _ hF (lv_sub hl [3, 4, 7, 0] rfl) hP hD hS
                · have hF := xx_in' hc hF
                  exact qw_Model_mend_b301 C hA hK  u4 _ _ _ hF (lv_sub hl [] rfl) hP hD hS
          · have hF := xx_ip hc hF
            refine lv_iload hx hb qd_Model_mend_197 (lv_at hl 0 rfl) ?_
            refine lv_iconst (v := (2 : Int32)) hx hb qd_Model_mend_199 (by decide) ?_
            refine lv_irem hx hb qd_Model_mend_200 (by decide) ?_
            refine lv_if_ne (tgt := 218) hx hb qd_Model_mend_201 (by decide) (fun hc => ?_) (fun hc => ?_)
            · have hF := xx_in' hc hF
              exact qw_Model_mend_b218 C hA hK  u4 _ _ _ hF (lv_sub hl [] rfl) hP hD hS
            · have hF := xx_ip hc hF
              refine lv_iload hx hb qd_Model_mend_204 (lv_at hl 0 rfl) ?_
              refine lv_ldc (v := (-1048576 : Int32)) hx hb hown (hts _ kw_1091) qd_Model_mend_206 ?_
              refine lv_icmp_lt (tgt := 218) hx hb qd_Model_mend_208 (by decide) (fun hc => ?_) (fun hc => ?_)
              · have hF := xx_ip hc hF
                exact qw_Model_mend_b218 C hA hK  u4 _ _ _ hF (lv_sub hl [] rfl) hP hD hS
              · have hF := xx_in' hc hF
                refine lv_iload hx hb qd_Model_mend_211 (lv_at hl 0 rfl) ?_
                refine lv_ldc (v := (1048574 : Int32)) hx hb hown (hts _ kw_1092) qd_Model_mend_213 ?_
                refine lv_icmp_le (tgt := 220) hx hb qd_Model_mend_215 (by decide) (fun hc => ?_) (fun hc => ?_)
                · have hF := xx_ip hc hF
                  refine lv_iload hx hb qd_Model_mend_220 (lv_at hl 1 rfl) ?_
                  refine lv_sipush (v := (4095 : Int32)) hx hb qd_Model_mend_222 (by decide) ?_
                  refine lv_iand hx hb qd_Model_mend_225 ?_
                  refine lv_iload hx hb qd_Model_mend_226 (lv_at hl 0 rfl) ?_
                  refine lv_bipush (v := (20 : Int32)) hx hb qd_Model_mend_228 (by decide) ?_
                  refine lv_ishr hx hb qd_Model_mend_230 ?_
                  refine lv_iconst (v := (1 : Int32)) hx hb qd_Model_mend_231 (by decide) ?_
                  refine lv_iand hx hb qd_Model_mend_232 ?_
                  refine lv_bipush (v := (31 : Int32)) hx hb qd_Model_mend_233 (by decide) ?_
                  refine lv_ishl hx hb qd_Model_mend_235 ?_
                  refine lv_ior hx hb qd_Model_mend_236 ?_
                  refine lv_iload hx hb qd_Model_mend_237 (lv_at hl 0 rfl) ?_
                  refine lv_iconst (v := (1 : Int32)) hx hb qd_Model_mend_239 (by decide) ?_
                  refine lv_ishr hx hb qd_Model_mend_240 ?_
                  refine lv_sipush (v := (1023 : Int32)) hx hb qd_Model_mend_241 (by decide) ?_
                  refine lv_iand hx hb qd_Model_mend_244 ?_
                  refine lv_bipush (v := (21 : Int32)) hx hb qd_Model_mend_245 (by decide) ?_
                  refine lv_ishl hx hb qd_Model_mend_247 ?_
                  refine lv_ior hx hb qd_Model_mend_248 ?_
                  refine lv_iload hx hb qd_Model_mend_249 (lv_at hl 0 rfl) ?_
                  refine lv_bipush (v := (11 : Int32)) hx hb qd_Model_mend_251 (by decide) ?_
                  refine lv_ishr hx hb qd_Model_mend_253 ?_
                  refine lv_iconst (v := (1 : Int32)) hx hb qd_Model_mend_254 (by decide) ?_
                  refine lv_iand hx hb qd_Model_mend_255 ?_
                  refine lv_bipush (v := (20 : Int32)) hx hb qd_Model_mend_256 (by decide) ?_
                  refine lv_ishl hx hb qd_Model_mend_258 ?_
                  refine lv_ior hx hb qd_Model_mend_259 ?_
                  refine lv_iload hx hb qd_Model_mend_260 (lv_at hl 0 rfl) ?_
                  refine lv_bipush (v := (12 : Int32)) hx hb qd_Model_mend_262 (by decide) ?_
                  refine lv_ishr hx hb qd_Model_mend_264 ?_
                  refine lv_sipush (v := (255 : Int32)) hx hb qd_Model_mend_265 (by decide) ?_
                  refine lv_iand hx hb qd_Model_mend_268 ?_
                  refine lv_bipush (v := (12 : Int32)) hx hb qd_Model_mend_269 (by decide) ?_
                  refine lv_ishl hx hb qd_Model_mend_271 ?_
                  refine lv_ior hx hb qd_Model_mend_272 ?_
                  obtain ⟨v8, ev8, hF⟩ := xx_nm_some hF
                  refine xx_topi ev8 ?_
                  refine lv_istore hx hb qd_Model_mend_273 hl (by decide) rfl (fun ls hl => ?_)
                  refine lv_goto (tgt := 354) hx hb qd_Model_mend_275 (by decide) ?_
                  exact qw_Model_mend_b354 C hA hK  u4 x1 x5 v8 _ _ _ hF (lv_sub hl [3, 4, 7, 0] rfl) hP hD hS
                · have hF := xx_in' hc hF
                  exact qw_Model_mend_b218 C hA hK  u4 _ _ _ hF (lv_sub hl [] rfl) hP hD hS
        · have hF := xx_ip hc hF
          refine lv_iload hx hb qd_Model_mend_161 (lv_at hl 1 rfl) ?_
          refine lv_ldc (v := (33550463 : Int32)) hx hb hown (hts _ kw_1090) qd_Model_mend_163 ?_
          refine lv_iand hx hb qd_Model_mend_165 ?_
          refine lv_iload hx hb qd_Model_mend_166 (lv_at hl 2 rfl) ?_
          refine lv_iconst (v := (5 : Int32)) hx hb qd_Model_mend_168 (by decide) ?_
          refine lv_ishr hx hb qd_Model_mend_169 ?_
          refine lv_bipush (v := (127 : Int32)) hx hb qd_Model_mend_170 (by decide) ?_
          refine lv_iand hx hb qd_Model_mend_172 ?_
          refine lv_bipush (v := (25 : Int32)) hx hb qd_Model_mend_173 (by decide) ?_
          refine lv_ishl hx hb qd_Model_mend_175 ?_
          refine lv_ior hx hb qd_Model_mend_176 ?_
          refine lv_iload hx hb qd_Model_mend_177 (lv_at hl 2 rfl) ?_
          refine lv_bipush (v := (31 : Int32)) hx hb qd_Model_mend_179 (by decide) ?_
          refine lv_iand hx hb qd_Model_mend_181 ?_
          refine lv_bipush (v := (7 : Int32)) hx hb qd_Model_mend_182 (by decide) ?_
          refine lv_ishl hx hb qd_Model_mend_184 ?_
          refine lv_ior hx hb qd_Model_mend_185 ?_
          obtain ⟨v9, ev9, hF⟩ := xx_nm_some hF
          refine xx_topi ev9 ?_
          refine lv_istore hx hb qd_Model_mend_186 hl (by decide) rfl (fun ls hl => ?_)
          refine lv_goto (tgt := 354) hx hb qd_Model_mend_188 (by decide) ?_
          exact qw_Model_mend_b354 C hA hK  u4 x1 x5 v9 _ _ _ hF (lv_sub hl [3, 4, 7, 0] rfl) hP hD hS
      · have hF := xx_ip hc hF
        refine lv_iload hx hb qd_Model_mend_139 (lv_at hl 1 rfl) ?_
        refine lv_ldc (v := (1048575 : Int32)) hx hb hown (hts _ kw_1089) qd_Model_mend_141 ?_
        refine lv_iand hx hb qd_Model_mend_143 ?_
        refine lv_iload hx hb qd_Model_mend_144 (lv_at hl 2 rfl) ?_
        refine lv_bipush (v := (20 : Int32)) hx hb qd_Model_mend_146 (by decide) ?_
        refine lv_ishl hx hb qd_Model_mend_148 ?_
        refine lv_ior hx hb qd_Model_mend_149 ?_
        obtain ⟨v10, ev10, hF⟩ := xx_nm_some hF
        refine xx_topi ev10 ?_
        refine lv_istore hx hb qd_Model_mend_150 hl (by decide) rfl (fun ls hl => ?_)
        refine lv_goto (tgt := 354) hx hb qd_Model_mend_152 (by decide) ?_
        exact qw_Model_mend_b354 C hA hK  u4 x1 x5 v10 _ _ _ hF (lv_sub hl [3, 4, 7, 0] rfl) hP hD hS
    · have hF := xx_ip hc hF
      refine lv_iload hx hb qd_Model_mend_111 (lv_at hl 1 rfl) ?_
      refine lv_sipush (v := (4095 : Int32)) hx hb qd_Model_mend_113 (by decide) ?_
      refine lv_iand hx hb qd_Model_mend_116 ?_
      refine lv_iload hx hb qd_Model_mend_117 (lv_at hl 2 rfl) ?_
      refine lv_sipush (v := (2048 : Int32)) hx hb qd_Model_mend_119 (by decide) ?_
      refine lv_iadd hx hb qd_Model_mend_122 ?_
      refine lv_sipush (v := (-4096 : Int32)) hx hb qd_Model_mend_123 (by decide) ?_
      refine lv_iand hx hb qd_Model_mend_126 ?_
      refine lv_ior hx hb qd_Model_mend_127 ?_
      obtain ⟨v11, ev11, hF⟩ := xx_nm_some hF
      refine xx_topi ev11 ?_
      refine lv_istore hx hb qd_Model_mend_128 hl (by decide) rfl (fun ls hl => ?_)
      refine lv_goto (tgt := 354) hx hb qd_Model_mend_130 (by decide) ?_
      exact qw_Model_mend_b354 C hA hK  u4 x1 x5 v11 _ _ _ hF (lv_sub hl [3, 4, 7, 0] rfl) hP hD hS
  · have hF := xx_ip hc hF
    refine lv_iload hx hb qd_Model_mend_98 (lv_at hl 2 rfl) ?_
    refine lv_istore hx hb qd_Model_mend_100 hl (by decide) rfl (fun ls hl => ?_)
    refine lv_goto (tgt := 354) hx hb qd_Model_mend_102 (by decide) ?_
    exact qw_Model_mend_b354 C hA hK  u4 x1 x5 v3 _ _ _ hF (lv_sub hl [3, 4, 7, 0] rfl) hP hD hS
set_option maxHeartbeats 4000000 in
set_option maxRecDepth 100000 in
theorem qc_Model_mend (l : Launch) (g : xx_G) (u : qm_S) (x1 : Int32) (x2 : Int32) (r : Int32) (u9 : qm_S) (hF : qf_Model_mend u x1 x2 = some (r, u9)) : xx_M l g.1 (qm_T g) (qm_W g) ky_Model_mend kb_Model_mend 11 (some .boolean) (xx_rm 3 63) [.ref (g.2.1 0), .int x1, .int x2] u (some (.int r)) u9 := by
  refine xx_body (by decide) (Nat.le_of_ble_eq_true rfl) ?_
  intro p e s m args below meth c A ls C hin hK hl hA hP hD hS
  have hx := C.1
  have hb := C.2.1
  have hown := C.2.2.2.1
  have hts := C.2.2.2.2.1
  have hl : lv_has ls 11 [(0, .ref (g.2.1 0)), (1, .int x1), (2, .int x2)] := hl
  unfold qf_Model_mend at hF
  refine lv_aload_n hx hb qd_Model_mend_0 rfl (lv_at hl 0 rfl) ?_
  refine lv_iload_n hx hb qd_Model_mend_1 rfl (lv_at hl 2 rfl) ?_
  obtain ⟨v2, u1, eu1, hF⟩ := xx_b2_some hF
  refine xx_callV (n := 1) (As := [.int x2]) (rest := []) C (qc_Model_placeAt l g u x2 v2 u1 eu1) ⟨kw_1048, kw_1045, kw_1047, ks_Model_placeAt, kw_9⟩ ⟨by decide +kernel, by decide +kernel, by decide +kernel⟩ rfl ⟨Nat.le_of_ble_eq_true rfl, Nat.le_of_ble_eq_true rfl⟩ 0 rfl rfl hl.1 rfl (Nat.le_of_ble_eq_true rfl) hA hK hP hD hS ⟨Nat.le_refl _, Nat.le_refl _⟩ rfl rfl rfl qd_Model_mend_2 (fun H locs hP hD hS => ?_)
  refine lv_istore_n hx hb qd_Model_mend_5 rfl hl (by decide) rfl (fun ls hl => ?_)
  refine lv_aload_n hx hb qd_Model_mend_6 rfl (lv_at hl 1 rfl) ?_
  refine lv_iload_n hx hb qd_Model_mend_7 rfl (lv_at hl 0 rfl) ?_
  obtain ⟨v4, u3, eu3, hF⟩ := xx_b2_some hF
  refine xx_callV (n := 1) (As := [.int v2]) (rest := []) C (qc_Model_tapeWord l g u1 v2 v4 u3 eu3) ⟨kw_1040, kw_1037, kw_1039, ks_Model_tapeWord, kw_9⟩ ⟨by decide +kernel, by decide +kernel, by decide +kernel⟩ rfl ⟨Nat.le_of_ble_eq_true rfl, Nat.le_of_ble_eq_true rfl⟩ 0 rfl rfl hl.1 rfl (Nat.le_of_ble_eq_true rfl) hA hK hP hD hS ⟨Nat.le_refl _, Nat.le_refl _⟩ rfl rfl rfl qd_Model_mend_8 (fun H locs hP hD hS => ?_)
  refine lv_istore hx hb qd_Model_mend_11 hl (by decide) rfl (fun ls hl => ?_)
  refine lv_iload_n hx hb qd_Model_mend_13 rfl (lv_at hl 3 rfl) ?_
  refine lv_aload_n hx hb qd_Model_mend_14 rfl (lv_at hl 2 rfl) ?_
  refine lv_iload_n hx hb qd_Model_mend_15 rfl (lv_at hl 1 rfl) ?_
  refine lv_iconst (v := (4 : Int32)) hx hb qd_Model_mend_16 (by decide) ?_
  refine lv_iadd hx hb qd_Model_mend_17 ?_
  obtain ⟨v6, u5, eu5, hF⟩ := xx_b2_some hF
  refine xx_callV (n := 1) (As := [.int (v2 + (4 : Int32))]) (rest := [.int x1]) C (qc_Model_tapeWord l g u3 (v2 + (4 : Int32)) v6 u5 eu5) ⟨kw_1040, kw_1037, kw_1039, ks_Model_tapeWord, kw_9⟩ ⟨by decide +kernel, by decide +kernel, by decide +kernel⟩ rfl ⟨Nat.le_of_ble_eq_true rfl, Nat.le_of_ble_eq_true rfl⟩ 0 rfl rfl hl.1 rfl (Nat.le_of_ble_eq_true rfl) hA hK hP hD hS ⟨Nat.le_refl _, Nat.le_refl _⟩ rfl rfl rfl qd_Model_mend_18 (fun H locs hP hD hS => ?_)
  refine lv_iadd hx hb qd_Model_mend_21 ?_
  obtain ⟨v7, ev7, hF⟩ := xx_nm_some hF
  refine xx_topi ev7 ?_
  refine lv_istore hx hb qd_Model_mend_22 hl (by decide) rfl (fun ls hl => ?_)
  refine lv_aload_n hx hb qd_Model_mend_24 rfl (lv_at hl 3 rfl) ?_
  refine lv_iload_n hx hb qd_Model_mend_25 rfl (lv_at hl 2 rfl) ?_
  refine lv_bipush (v := (8 : Int32)) hx hb qd_Model_mend_26 (by decide) ?_
  refine lv_iadd hx hb qd_Model_mend_28 ?_
  obtain ⟨v9, u8, eu8, hF⟩ := xx_b2_some hF
  refine xx_callV (n := 1) (As := [.int (v2 + (8 : Int32))]) (rest := []) C (qc_Model_tapeWord l g u5 (v2 + (8 : Int32)) v9 u8 eu8) ⟨kw_1040, kw_1037, kw_1039, ks_Model_tapeWord, kw_9⟩ ⟨by decide +kernel, by decide +kernel, by decide +kernel⟩ rfl ⟨Nat.le_of_ble_eq_true rfl, Nat.le_of_ble_eq_true rfl⟩ 0 rfl rfl hl.1 rfl (Nat.le_of_ble_eq_true rfl) hA hK hP hD hS ⟨Nat.le_refl _, Nat.le_refl _⟩ rfl rfl rfl qd_Model_mend_29 (fun H locs hP hD hS => ?_)
  refine lv_istore hx hb qd_Model_mend_32 hl (by decide) rfl (fun ls hl => ?_)
  refine lv_iload hx hb qd_Model_mend_34 (lv_at hl 0 rfl) ?_
  refine lv_if_ge (tgt := 43) hx hb qd_Model_mend_36 (by decide) (fun hc => ?_) (fun hc => ?_)
  · have hF := xx_ip hc hF
    refine lv_aload_n hx hb qd_Model_mend_43 rfl (lv_at hl 4 rfl) ?_
    refine xx_get C ki_Model hK hP 0 rfl rfl 6 (by decide) kw_879 rfl rfl qd_Model_mend_44 ?_
    refine lv_aload_n hx hb qd_Model_mend_47 rfl (lv_at hl 4 rfl) ?_
    refine lv_aload_n hx hb qd_Model_mend_48 rfl (lv_at hl 4 rfl) ?_
    refine lv_aload_n hx hb qd_Model_mend_49 rfl (lv_at hl 4 rfl) ?_
    refine lv_iload hx hb qd_Model_mend_50 (lv_at hl 0 rfl) ?_
    obtain ⟨v11, u10, eu10, hF⟩ := xx_b2_some hF
    refine xx_callV (n := 1) (As := [.int v9]) (rest := [.ref (g.2.1 0), .ref (g.2.1 0), .ref (g.2.1 4)]) C (qc_Model_importAt l g u8 v9 v11 u10 eu10) ⟨kw_1056, kw_1053, kw_1055, ks_Model_importAt, kw_9⟩ ⟨by decide +kernel, by decide +kernel, by decide +kernel⟩ rfl ⟨Nat.le_of_ble_eq_true rfl, Nat.le_of_ble_eq_true rfl⟩ 0 rfl rfl hl.1 rfl (Nat.le_of_ble_eq_true rfl) hA hK hP hD hS ⟨Nat.le_refl _, Nat.le_refl _⟩ rfl rfl rfl qd_Model_mend_52 (fun H locs hP hD hS => ?_)
    obtain ⟨v13, u12, eu12, hF⟩ := xx_b2_some hF
    refine xx_callV (n := 1) (As := [.int v11]) (rest := [.ref (g.2.1 0), .ref (g.2.1 4)]) C (qc_Model_tapeWord l g u10 v11 v13 u12 eu12) ⟨kw_1040, kw_1037, kw_1039, ks_Model_tapeWord, kw_9⟩ ⟨by decide +kernel, by decide +kernel, by decide +kernel⟩ rfl ⟨Nat.le_of_ble_eq_true rfl, Nat.le_of_ble_eq_true rfl⟩ 0 rfl rfl hl.1 rfl (Nat.le_of_ble_eq_true rfl) hA hK hP hD hS ⟨Nat.le_refl _, Nat.le_refl _⟩ rfl rfl rfl qd_Model_mend_55 (fun H locs hP hD hS => ?_)
    obtain ⟨v15, u14, eu14, hF⟩ := xx_b2_some hF
    refine xx_callV (n := 1) (As := [.int v13]) (rest := [.ref (g.2.1 4)]) C (qc_Model_find l g u12 v13 v15 u14 eu14) ⟨kw_1012, kw_1009, kw_1011, ks_Model_find, kw_9⟩ ⟨by decide +kernel, by decide +kernel, by decide +kernel⟩ rfl ⟨Nat.le_of_ble_eq_true rfl, Nat.le_of_ble_eq_true rfl⟩ 0 rfl rfl hl.1 rfl (Nat.le_of_ble_eq_true rfl) hA hK hP hD hS ⟨Nat.le_refl _, Nat.le_refl _⟩ rfl rfl rfl qd_Model_mend_58 (fun H locs hP hD hS => ?_)
    obtain ⟨v16, ev16, hF⟩ := xx_ob hF
    refine xx_iald C hK hP 4 0 rfl rfl ev16 qd_Model_mend_61 ?_
    exact qw_Model_mend_b62 C hA hK  u14 x1 v2 v4 v7 v16 _ _ _ hF (lv_sub hl [4, 5, 3, 2, 1] rfl) hP hD hS
  · have hF := xx_in' hc hF
    refine lv_iload_n hx hb qd_Model_mend_39 rfl (lv_at hl 5 rfl) ?_
    refine lv_goto (tgt := 62) hx hb qd_Model_mend_40 (by decide) ?_
    exact qw_Model_mend_b62 C hA hK  u8 x1 v2 v4 v7 x1 _ _ _ hF (lv_sub hl [4, 5, 3, 2, 1] rfl) hP hD hS
