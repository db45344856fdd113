theorem kw_898 : Cond.fieldLink "ModuleLoaderModel" 115 "ModuleLoaderModel" "places" "I" ∈ xx_tb := xx_in (List.mem_append_right _ (List.mem_of_getElem? (i := 898) (by decide +kernel))) (by decide +kernel)
set_option maxRecDepth 100000 in
theorem kw_1048 : Cond.code ky_Model_placeAt kb_Model_placeAt 2 (some .int) ∈ xx_tb := xx_in (List.mem_append_right _ (List.mem_of_getElem? (i := 1048) (by rfl))) (by decide +kernel)
theorem kw_1045 : Cond.methodLink "ModuleLoaderModel" 130 ky_Model_placeAt ∈ xx_tb := xx_in (List.mem_append_right _ (List.mem_of_getElem? (i := 1045) (by decide +kernel))) (by decide +kernel)
theorem kw_1047 : Cond.instanceMethod ky_Model_placeAt ∈ xx_tb := xx_in (List.mem_append_right _ (List.mem_of_getElem? (i := 1047) (by decide +kernel))) (by decide +kernel)
theorem ks_Model_placeAt : Cond.selects "ModuleLoaderModel" ky_Model_placeAt ky_Model_placeAt ∈ xx_tb := xx_in (List.mem_append_left _ (by decide +kernel)) (by decide +kernel)
set_option maxRecDepth 100000 in
theorem kw_1044 : Cond.code ky_Model_isOffset kb_Model_isOffset 2 (some .boolean) ∈ xx_tb := xx_in (List.mem_append_right _ (List.mem_of_getElem? (i := 1044) (by rfl))) (by decide +kernel)
theorem kw_1042 : Cond.methodLink "ModuleLoaderModel" 127 ky_Model_isOffset ∈ xx_tb := xx_in (List.mem_append_right _ (List.mem_of_getElem? (i := 1042) (by decide +kernel))) (by decide +kernel)
theorem kw_1043 : Cond.static ky_Model_isOffset ∈ xx_tb := xx_in (List.mem_append_right _ (List.mem_of_getElem? (i := 1043) (by decide +kernel))) (by decide +kernel)
theorem kw_902 : Cond.fieldLink "ModuleLoaderModel" 124 "ModuleLoaderModel" "guards" "I" ∈ xx_tb := xx_in (List.mem_append_right _ (List.mem_of_getElem? (i := 902) (by decide +kernel))) (by decide +kernel)
theorem kw_901 : Cond.fieldLink "ModuleLoaderModel" 121 "ModuleLoaderModel" "leaves" "I" ∈ xx_tb := xx_in (List.mem_append_right _ (List.mem_of_getElem? (i := 901) (by decide +kernel))) (by decide +kernel)
theorem kw_900 : Cond.fieldLink "ModuleLoaderModel" 118 "ModuleLoaderModel" "init" "I" ∈ xx_tb := xx_in (List.mem_append_right _ (List.mem_of_getElem? (i := 900) (by decide +kernel))) (by decide +kernel)
theorem kw_1041 : Cond.constant "ModuleLoaderModel" 114 (1297040469 : Int32) ∈ xx_tb := xx_in (List.mem_append_right _ (List.mem_of_getElem? (i := 1041) (by decide +kernel))) (by decide +kernel)
theorem qd_Model_isFile_0 : decode kb_Model_isFile 0 = .ok (.iload_n 1, 1) := by decide +kernel
theorem qd_Model_isFile_1 : decode kb_Model_isFile 1 = .ok (.bipush (32), 2) := by decide +kernel
theorem qd_Model_isFile_3 : decode kb_Model_isFile 3 = .ok (.if_icmp .lt (13), 3) := by decide +kernel
theorem qd_Model_isFile_6 : decode kb_Model_isFile 6 = .ok (.aload_n 0, 1) := by decide +kernel
theorem qd_Model_isFile_7 : decode kb_Model_isFile 7 = .ok (.iconst 0, 1) := by decide +kernel
theorem qd_Model_isFile_8 : decode kb_Model_isFile 8 = .ok (.invokevirtual 111, 3) := by decide +kernel
theorem qd_Model_isFile_11 : decode kb_Model_isFile 11 = .ok (.ldc 114, 2) := by decide +kernel
theorem qd_Model_isFile_13 : decode kb_Model_isFile 13 = .ok (.if_icmp .eq (5), 3) := by decide +kernel
theorem qd_Model_isFile_16 : decode kb_Model_isFile 16 = .ok (.iconst 0, 1) := by decide +kernel
theorem qd_Model_isFile_17 : decode kb_Model_isFile 17 = .ok (.ireturn, 1) := by decide +kernel
theorem qd_Model_isFile_18 : decode kb_Model_isFile 18 = .ok (.aload_n 0, 1) := by decide +kernel
theorem qd_Model_isFile_19 : decode kb_Model_isFile 19 = .ok (.aload_n 0, 1) := by decide +kernel
theorem qd_Model_isFile_20 : decode kb_Model_isFile 20 = .ok (.iconst 4, 1) := by decide +kernel
theorem qd_Model_isFile_21 : decode kb_Model_isFile 21 = .ok (.invokevirtual 111, 3) := by decide +kernel
theorem qd_Model_isFile_24 : decode kb_Model_isFile 24 = .ok (.putfield 96, 3) := by decide +kernel
theorem qd_Model_isFile_27 : decode kb_Model_isFile 27 = .ok (.aload_n 0, 1) := by decide +kernel
theorem qd_Model_isFile_28 : decode kb_Model_isFile 28 = .ok (.aload_n 0, 1) := by decide +kernel
theorem qd_Model_isFile_29 : decode kb_Model_isFile 29 = .ok (.bipush (8), 2) := by decide +kernel
theorem qd_Model_isFile_31 : decode kb_Model_isFile 31 = .ok (.invokevirtual 111, 3) := by decide +kernel
theorem qd_Model_isFile_34 : decode kb_Model_isFile 34 = .ok (.putfield 99, 3) := by decide +kernel
theorem qd_Model_isFile_37 : decode kb_Model_isFile 37 = .ok (.aload_n 0, 1) := by decide +kernel
theorem qd_Model_isFile_38 : decode kb_Model_isFile 38 = .ok (.aload_n 0, 1) := by decide +kernel
theorem qd_Model_isFile_39 : decode kb_Model_isFile 39 = .ok (.bipush (12), 2) := by decide +kernel
theorem qd_Model_isFile_41 : decode kb_Model_isFile 41 = .ok (.invokevirtual 111, 3) := by decide +kernel
theorem qd_Model_isFile_44 : decode kb_Model_isFile 44 = .ok (.putfield 105, 3) := by decide +kernel
theorem qd_Model_isFile_47 : decode kb_Model_isFile 47 = .ok (.aload_n 0, 1) := by decide +kernel
theorem qd_Model_isFile_48 : decode kb_Model_isFile 48 = .ok (.aload_n 0, 1) := by decide +kernel
theorem qd_Model_isFile_49 : decode kb_Model_isFile 49 = .ok (.bipush (16), 2) := by decide +kernel
theorem qd_Model_isFile_51 : decode kb_Model_isFile 51 = .ok (.invokevirtual 111, 3) := by decide +kernel
theorem qd_Model_isFile_54 : decode kb_Model_isFile 54 = .ok (.putfield 115, 3) := by decide +kernel
theorem qd_Model_isFile_57 : decode kb_Model_isFile 57 = .ok (.aload_n 0, 1) := by decide +kernel
theorem qd_Model_isFile_58 : decode kb_Model_isFile 58 = .ok (.aload_n 0, 1) := by decide +kernel
theorem qd_Model_isFile_59 : decode kb_Model_isFile 59 = .ok (.bipush (20), 2) := by decide +kernel
theorem qd_Model_isFile_61 : decode kb_Model_isFile 61 = .ok (.invokevirtual 111, 3) := by decide +kernel
theorem qd_Model_isFile_64 : decode kb_Model_isFile 64 = .ok (.putfield 118, 3) := by decide +kernel
theorem qd_Model_isFile_67 : decode kb_Model_isFile 67 = .ok (.aload_n 0, 1) := by decide +kernel
theorem qd_Model_isFile_68 : decode kb_Model_isFile 68 = .ok (.aload_n 0, 1) := by decide +kernel
theorem qd_Model_isFile_69 : decode kb_Model_isFile 69 = .ok (.bipush (24), 2) := by decide +kernel
theorem qd_Model_isFile_71 : decode kb_Model_isFile 71 = .ok (.invokevirtual 111, 3) := by decide +kernel
theorem qd_Model_isFile_74 : decode kb_Model_isFile 74 = .ok (.putfield 121, 3) := by decide +kernel
theorem qd_Model_isFile_77 : decode kb_Model_isFile 77 = .ok (.aload_n 0, 1) := by decide +kernel
theorem qd_Model_isFile_78 : decode kb_Model_isFile 78 = .ok (.aload_n 0, 1) := by decide +kernel
theorem qd_Model_isFile_79 : decode kb_Model_isFile 79 = .ok (.bipush (28), 2) := by decide +kernel
theorem qd_Model_isFile_81 : decode kb_Model_isFile 81 = .ok (.invokevirtual 111, 3) := by decide +kernel
theorem qd_Model_isFile_84 : decode kb_Model_isFile 84 = .ok (.putfield 124, 3) := by decide +kernel
theorem qd_Model_isFile_87 : decode kb_Model_isFile 87 = .ok (.aload_n 0, 1) := by decide +kernel
theorem qd_Model_isFile_88 : decode kb_Model_isFile 88 = .ok (.getfield 96, 3) := by decide +kernel
theorem qd_Model_isFile_91 : decode kb_Model_isFile 91 = .ok (.iconst 4, 1) := by decide +kernel
theorem qd_Model_isFile_92 : decode kb_Model_isFile 92 = .ok (.if_icmp .lt (74), 3) := by decide +kernel
theorem qd_Model_isFile_95 : decode kb_Model_isFile 95 = .ok (.aload_n 0, 1) := by decide +kernel
theorem qd_Model_isFile_96 : decode kb_Model_isFile 96 = .ok (.getfield 96, 3) := by decide +kernel
theorem qd_Model_isFile_99 : decode kb_Model_isFile 99 = .ok (.sipush (512), 3) := by decide +kernel
theorem qd_Model_isFile_102 : decode kb_Model_isFile 102 = .ok (.if_icmp .gt (64), 3) := by decide +kernel
theorem qd_Model_isFile_105 : decode kb_Model_isFile 105 = .ok (.aload_n 0, 1) := by decide +kernel
theorem qd_Model_isFile_106 : decode kb_Model_isFile 106 = .ok (.getfield 96, 3) := by decide +kernel
theorem qd_Model_isFile_109 : decode kb_Model_isFile 109 = .ok (.iconst 4, 1) := by decide +kernel
theorem qd_Model_isFile_110 : decode kb_Model_isFile 110 = .ok (.irem, 1) := by decide +kernel
theorem qd_Model_isFile_111 : decode kb_Model_isFile 111 = .ok (.ifCond .ne (55), 3) := by decide +kernel
theorem qd_Model_isFile_114 : decode kb_Model_isFile 114 = .ok (.aload_n 0, 1) := by decide +kernel
theorem qd_Model_isFile_115 : decode kb_Model_isFile 115 = .ok (.getfield 99, 3) := by decide +kernel
theorem qd_Model_isFile_118 : decode kb_Model_isFile 118 = .ok (.ifCond .lt (48), 3) := by decide +kernel
theorem qd_Model_isFile_121 : decode kb_Model_isFile 121 = .ok (.aload_n 0, 1) := by decide +kernel
theorem qd_Model_isFile_122 : decode kb_Model_isFile 122 = .ok (.getfield 99, 3) := by decide +kernel
theorem qd_Model_isFile_125 : decode kb_Model_isFile 125 = .ok (.bipush (8), 2) := by decide +kernel
theorem qd_Model_isFile_127 : decode kb_Model_isFile 127 = .ok (.if_icmp .gt (39), 3) := by decide +kernel
theorem qd_Model_isFile_130 : decode kb_Model_isFile 130 = .ok (.aload_n 0, 1) := by decide +kernel
theorem qd_Model_isFile_131 : decode kb_Model_isFile 131 = .ok (.getfield 105, 3) := by decide +kernel
theorem qd_Model_isFile_134 : decode kb_Model_isFile 134 = .ok (.ifCond .lt (32), 3) := by decide +kernel
theorem qd_Model_isFile_137 : decode kb_Model_isFile 137 = .ok (.aload_n 0, 1) := by decide +kernel
theorem qd_Model_isFile_138 : decode kb_Model_isFile 138 = .ok (.getfield 105, 3) := by decide +kernel
theorem qd_Model_isFile_141 : decode kb_Model_isFile 141 = .ok (.bipush (8), 2) := by decide +kernel
theorem qd_Model_isFile_143 : decode kb_Model_isFile 143 = .ok (.if_icmp .gt (23), 3) := by decide +kernel
theorem qd_Model_isFile_146 : decode kb_Model_isFile 146 = .ok (.aload_n 0, 1) := by decide +kernel
theorem qd_Model_isFile_147 : decode kb_Model_isFile 147 = .ok (.getfield 115, 3) := by decide +kernel
theorem qd_Model_isFile_150 : decode kb_Model_isFile 150 = .ok (.ifCond .lt (16), 3) := by decide +kernel
theorem qd_Model_isFile_153 : decode kb_Model_isFile 153 = .ok (.aload_n 0, 1) := by decide +kernel
theorem qd_Model_isFile_154 : decode kb_Model_isFile 154 = .ok (.getfield 115, 3) := by decide +kernel
theorem qd_Model_isFile_157 : decode kb_Model_isFile 157 = .ok (.bipush (24), 2) := by decide +kernel
theorem qd_Model_isFile_159 : decode kb_Model_isFile 159 = .ok (.if_icmp .gt (7), 3) := by decide +kernel
theorem qd_Model_isFile_162 : decode kb_Model_isFile 162 = .ok (.iconst 1, 1) := by decide +kernel
theorem qd_Model_isFile_163 : decode kb_Model_isFile 163 = .ok (.goto (4), 3) := by decide +kernel
theorem qd_Model_isFile_166 : decode kb_Model_isFile 166 = .ok (.iconst 0, 1) := by decide +kernel
theorem qd_Model_isFile_167 : decode kb_Model_isFile 167 = .ok (.istore_n 2, 1) := by decide +kernel
theorem qd_Model_isFile_168 : decode kb_Model_isFile 168 = .ok (.iload_n 2, 1) := by decide +kernel
theorem qd_Model_isFile_169 : decode kb_Model_isFile 169 = .ok (.ifCond .eq (76), 3) := by decide +kernel
theorem qd_Model_isFile_172 : decode kb_Model_isFile 172 = .ok (.aload_n 0, 1) := by decide +kernel
theorem qd_Model_isFile_173 : decode kb_Model_isFile 173 = .ok (.getfield 118, 3) := by decide +kernel
theorem qd_Model_isFile_176 : decode kb_Model_isFile 176 = .ok (.iconst (-1), 1) := by decide +kernel
theorem qd_Model_isFile_177 : decode kb_Model_isFile 177 = .ok (.if_icmp .eq (17), 3) := by decide +kernel
theorem qd_Model_isFile_180 : decode kb_Model_isFile 180 = .ok (.aload_n 0, 1) := by decide +kernel
theorem qd_Model_isFile_181 : decode kb_Model_isFile 181 = .ok (.getfield 118, 3) := by decide +kernel
theorem qd_Model_isFile_184 : decode kb_Model_isFile 184 = .ok (.aload_n 0, 1) := by decide +kernel
theorem qd_Model_isFile_185 : decode kb_Model_isFile 185 = .ok (.getfield 96, 3) := by decide +kernel
theorem qd_Model_isFile_188 : decode kb_Model_isFile 188 = .ok (.invokestatic 127, 3) := by decide +kernel
theorem qd_Model_isFile_191 : decode kb_Model_isFile 191 = .ok (.ifCond .eq (54), 3) := by decide +kernel
theorem qd_Model_isFile_194 : decode kb_Model_isFile 194 = .ok (.aload_n 0, 1) := by decide +kernel
theorem qd_Model_isFile_195 : decode kb_Model_isFile 195 = .ok (.getfield 121, 3) := by decide +kernel
theorem qd_Model_isFile_198 : decode kb_Model_isFile 198 = .ok (.iconst (-1), 1) := by decide +kernel
theorem qd_Model_isFile_199 : decode kb_Model_isFile 199 = .ok (.if_icmp .eq (17), 3) := by decide +kernel
theorem qd_Model_isFile_202 : decode kb_Model_isFile 202 = .ok (.aload_n 0, 1) := by decide +kernel
theorem qd_Model_isFile_203 : decode kb_Model_isFile 203 = .ok (.getfield 121, 3) := by decide +kernel
theorem qd_Model_isFile_206 : decode kb_Model_isFile 206 = .ok (.aload_n 0, 1) := by decide +kernel
theorem qd_Model_isFile_207 : decode kb_Model_isFile 207 = .ok (.getfield 96, 3) := by decide +kernel
theorem qd_Model_isFile_210 : decode kb_Model_isFile 210 = .ok (.invokestatic 127, 3) := by decide +kernel
theorem qd_Model_isFile_213 : decode kb_Model_isFile 213 = .ok (.ifCond .eq (32), 3) := by decide +kernel
theorem qd_Model_isFile_216 : decode kb_Model_isFile 216 = .ok (.aload_n 0, 1) := by decide +kernel
theorem qd_Model_isFile_217 : decode kb_Model_isFile 217 = .ok (.getfield 124, 3) := by decide +kernel
theorem qd_Model_isFile_220 : decode kb_Model_isFile 220 = .ok (.aload_n 0, 1) := by decide +kernel
theorem qd_Model_isFile_221 : decode kb_Model_isFile 221 = .ok (.getfield 96, 3) := by decide +kernel
theorem qd_Model_isFile_224 : decode kb_Model_isFile 224 = .ok (.if_icmp .eq (17), 3) := by decide +kernel
theorem qd_Model_isFile_227 : decode kb_Model_isFile 227 = .ok (.aload_n 0, 1) := by decide +kernel
theorem qd_Model_isFile_228 : decode kb_Model_isFile 228 = .ok (.getfield 124, 3) := by decide +kernel
theorem qd_Model_isFile_231 : decode kb_Model_isFile 231 = .ok (.aload_n 0, 1) := by decide +kernel
theorem qd_Model_isFile_232 : decode kb_Model_isFile 232 = .ok (.getfield 96, 3) := by decide +kernel
theorem qd_Model_isFile_235 : decode kb_Model_isFile 235 = .ok (.invokestatic 127, 3) := by decide +kernel
theorem qd_Model_isFile_238 : decode kb_Model_isFile 238 = .ok (.ifCond .eq (7), 3) := by decide +kernel
theorem qd_Model_isFile_241 : decode kb_Model_isFile 241 = .ok (.iconst 1, 1) := by decide +kernel
theorem qd_Model_isFile_242 : decode kb_Model_isFile 242 = .ok (.goto (4), 3) := by decide +kernel
theorem qd_Model_isFile_245 : decode kb_Model_isFile 245 = .ok (.iconst 0, 1) := by decide +kernel
theorem qd_Model_isFile_246 : decode kb_Model_isFile 246 = .ok (.istore_n 2, 1) := by decide +kernel
theorem qd_Model_isFile_247 : decode kb_Model_isFile 247 = .ok (.iload_n 2, 1) := by decide +kernel
theorem qd_Model_isFile_248 : decode kb_Model_isFile 248 = .ok (.ifCond .eq (15), 3) := by decide +kernel
theorem qd_Model_isFile_251 : decode kb_Model_isFile 251 = .ok (.iload_n 1, 1) := by decide +kernel
theorem qd_Model_isFile_252 : decode kb_Model_isFile 252 = .ok (.aload_n 0, 1) := by decide +kernel
theorem qd_Model_isFile_253 : decode kb_Model_isFile 253 = .ok (.aload_n 0, 1) := by decide +kernel
theorem qd_Model_isFile_254 : decode kb_Model_isFile 254 = .ok (.getfield 115, 3) := by decide +kernel
theorem qd_Model_isFile_257 : decode kb_Model_isFile 257 = .ok (.invokevirtual 130, 3) := by decide +kernel
theorem qd_Model_isFile_260 : decode kb_Model_isFile 260 = .ok (.if_icmp .eq (5), 3) := by decide +kernel
theorem qd_Model_isFile_263 : decode kb_Model_isFile 263 = .ok (.iconst 0, 1) := by decide +kernel
theorem qd_Model_isFile_264 : decode kb_Model_isFile 264 = .ok (.ireturn, 1) := by decide +kernel
theorem qd_Model_isFile_265 : decode kb_Model_isFile 265 = .ok (.iconst 0, 1) := by decide +kernel
theorem qd_Model_isFile_266 : decode kb_Model_isFile 266 = .ok (.istore_n 3, 1) := by decide +kernel
theorem qd_Model_isFile_267 : decode kb_Model_isFile 267 = .ok (.iload_n 3, 1) := by decide +kernel
theorem qd_Model_isFile_268 : decode kb_Model_isFile 268 = .ok (.aload_n 0, 1) := by decide +kernel
theorem qd_Model_isFile_269 : decode kb_Model_isFile 269 = .ok (.getfield 99, 3) := by decide +kernel
theorem qd_Model_isFile_272 : decode kb_Model_isFile 272 = .ok (.if_icmp .ge (34), 3) := by decide +kernel
theorem qd_Model_isFile_275 : decode kb_Model_isFile 275 = .ok (.iload_n 2, 1) := by decide +kernel
theorem qd_Model_isFile_276 : decode kb_Model_isFile 276 = .ok (.ifCond .eq (22), 3) := by decide +kernel
theorem qd_Model_isFile_279 : decode kb_Model_isFile 279 = .ok (.aload_n 0, 1) := by decide +kernel
theorem qd_Model_isFile_280 : decode kb_Model_isFile 280 = .ok (.aload_n 0, 1) := by decide +kernel
theorem qd_Model_isFile_281 : decode kb_Model_isFile 281 = .ok (.iload_n 3, 1) := by decide +kernel
theorem qd_Model_isFile_282 : decode kb_Model_isFile 282 = .ok (.invokevirtual 102, 3) := by decide +kernel
theorem qd_Model_isFile_285 : decode kb_Model_isFile 285 = .ok (.invokevirtual 111, 3) := by decide +kernel
theorem qd_Model_isFile_288 : decode kb_Model_isFile 288 = .ok (.invokestatic 83, 3) := by decide +kernel
theorem qd_Model_isFile_291 : decode kb_Model_isFile 291 = .ok (.ifCond .eq (7), 3) := by decide +kernel
theorem qd_Model_isFile_294 : decode kb_Model_isFile 294 = .ok (.iconst 1, 1) := by decide +kernel
theorem qd_Model_isFile_295 : decode kb_Model_isFile 295 = .ok (.goto (4), 3) := by decide +kernel
theorem qd_Model_isFile_298 : decode kb_Model_isFile 298 = .ok (.iconst 0, 1) := by decide +kernel
theorem qd_Model_isFile_299 : decode kb_Model_isFile 299 = .ok (.istore_n 2, 1) := by decide +kernel
theorem qd_Model_isFile_300 : decode kb_Model_isFile 300 = .ok (.iinc 3 (1), 3) := by decide +kernel
theorem qd_Model_isFile_303 : decode kb_Model_isFile 303 = .ok (.goto (-36), 3) := by decide +kernel
theorem qd_Model_isFile_306 : decode kb_Model_isFile 306 = .ok (.iconst 0, 1) := by decide +kernel
theorem qd_Model_isFile_307 : decode kb_Model_isFile 307 = .ok (.istore_n 3, 1) := by decide +kernel
theorem qd_Model_isFile_308 : decode kb_Model_isFile 308 = .ok (.iload_n 3, 1) := by decide +kernel
theorem qd_Model_isFile_309 : decode kb_Model_isFile 309 = .ok (.aload_n 0, 1) := by decide +kernel
theorem qd_Model_isFile_310 : decode kb_Model_isFile 310 = .ok (.getfield 105, 3) := by decide +kernel
theorem qd_Model_isFile_313 : decode kb_Model_isFile 313 = .ok (.if_icmp .ge (101), 3) := by decide +kernel
theorem qd_Model_isFile_316 : decode kb_Model_isFile 316 = .ok (.aload_n 0, 1) := by decide +kernel
theorem qd_Model_isFile_317 : decode kb_Model_isFile 317 = .ok (.iload_n 3, 1) := by decide +kernel
theorem qd_Model_isFile_318 : decode kb_Model_isFile 318 = .ok (.invokevirtual 108, 3) := by decide +kernel
theorem qd_Model_isFile_321 : decode kb_Model_isFile 321 = .ok (.istore 4, 2) := by decide +kernel
theorem qd_Model_isFile_323 : decode kb_Model_isFile 323 = .ok (.iload_n 2, 1) := by decide +kernel
theorem qd_Model_isFile_324 : decode kb_Model_isFile 324 = .ok (.ifCond .eq (38), 3) := by decide +kernel
theorem qd_Model_isFile_327 : decode kb_Model_isFile 327 = .ok (.aload_n 0, 1) := by decide +kernel
theorem qd_Model_isFile_328 : decode kb_Model_isFile 328 = .ok (.iload 4, 2) := by decide +kernel
theorem qd_Model_isFile_330 : decode kb_Model_isFile 330 = .ok (.invokevirtual 111, 3) := by decide +kernel
theorem qd_Model_isFile_333 : decode kb_Model_isFile 333 = .ok (.invokestatic 83, 3) := by decide +kernel
theorem qd_Model_isFile_336 : decode kb_Model_isFile 336 = .ok (.ifCond .eq (26), 3) := by decide +kernel
theorem qd_Model_isFile_339 : decode kb_Model_isFile 339 = .ok (.aload_n 0, 1) := by decide +kernel
theorem qd_Model_isFile_340 : decode kb_Model_isFile 340 = .ok (.iload 4, 2) := by decide +kernel
theorem qd_Model_isFile_342 : decode kb_Model_isFile 342 = .ok (.bipush (8), 2) := by decide +kernel
theorem qd_Model_isFile_344 : decode kb_Model_isFile 344 = .ok (.iadd, 1) := by decide +kernel
theorem qd_Model_isFile_345 : decode kb_Model_isFile 345 = .ok (.invokevirtual 111, 3) := by decide +kernel
theorem qd_Model_isFile_348 : decode kb_Model_isFile 348 = .ok (.aload_n 0, 1) := by decide +kernel
theorem qd_Model_isFile_349 : decode kb_Model_isFile 349 = .ok (.getfield 96, 3) := by decide +kernel
theorem qd_Model_isFile_352 : decode kb_Model_isFile 352 = .ok (.invokestatic 127, 3) := by decide +kernel
theorem qd_Model_isFile_355 : decode kb_Model_isFile 355 = .ok (.ifCond .eq (7), 3) := by decide +kernel
theorem qd_Model_isFile_358 : decode kb_Model_isFile 358 = .ok (.iconst 1, 1) := by decide +kernel
theorem qd_Model_isFile_359 : decode kb_Model_isFile 359 = .ok (.goto (4), 3) := by decide +kernel
theorem qd_Model_isFile_362 : decode kb_Model_isFile 362 = .ok (.iconst 0, 1) := by decide +kernel
theorem qd_Model_isFile_363 : decode kb_Model_isFile 363 = .ok (.istore_n 2, 1) := by decide +kernel
theorem qd_Model_isFile_364 : decode kb_Model_isFile 364 = .ok (.iconst 0, 1) := by decide +kernel
theorem qd_Model_isFile_365 : decode kb_Model_isFile 365 = .ok (.istore 5, 2) := by decide +kernel
theorem qd_Model_isFile_367 : decode kb_Model_isFile 367 = .ok (.iload 5, 2) := by decide +kernel
theorem qd_Model_isFile_369 : decode kb_Model_isFile 369 = .ok (.iload_n 3, 1) := by decide +kernel
theorem qd_Model_isFile_370 : decode kb_Model_isFile 370 = .ok (.if_icmp .ge (38), 3) := by decide +kernel
theorem qd_Model_isFile_373 : decode kb_Model_isFile 373 = .ok (.iload_n 2, 1) := by decide +kernel
theorem qd_Model_isFile_374 : decode kb_Model_isFile 374 = .ok (.ifCond .eq (26), 3) := by decide +kernel
theorem qd_Model_isFile_377 : decode kb_Model_isFile 377 = .ok (.aload_n 0, 1) := by decide +kernel
theorem qd_Model_isFile_378 : decode kb_Model_isFile 378 = .ok (.aload_n 0, 1) := by decide +kernel
theorem qd_Model_isFile_379 : decode kb_Model_isFile 379 = .ok (.iload 5, 2) := by decide +kernel
theorem qd_Model_isFile_381 : decode kb_Model_isFile 381 = .ok (.invokevirtual 108, 3) := by decide +kernel
theorem qd_Model_isFile_384 : decode kb_Model_isFile 384 = .ok (.invokevirtual 111, 3) := by decide +kernel
theorem qd_Model_isFile_387 : decode kb_Model_isFile 387 = .ok (.aload_n 0, 1) := by decide +kernel
theorem qd_Model_isFile_388 : decode kb_Model_isFile 388 = .ok (.iload 4, 2) := by decide +kernel
theorem qd_Model_isFile_390 : decode kb_Model_isFile 390 = .ok (.invokevirtual 111, 3) := by decide +kernel
theorem qd_Model_isFile_393 : decode kb_Model_isFile 393 = .ok (.if_icmp .eq (7), 3) := by decide +kernel
theorem qd_Model_isFile_396 : decode kb_Model_isFile 396 = .ok (.iconst 1, 1) := by decide +kernel
theorem qd_Model_isFile_397 : decode kb_Model_isFile 397 = .ok (.goto (4), 3) := by decide +kernel
theorem qd_Model_isFile_400 : decode kb_Model_isFile 400 = .ok (.iconst 0, 1) := by decide +kernel
theorem qd_Model_isFile_401 : decode kb_Model_isFile 401 = .ok (.istore_n 2, 1) := by decide +kernel
theorem qd_Model_isFile_402 : decode kb_Model_isFile 402 = .ok (.iinc 5 (1), 3) := by decide +kernel
theorem qd_Model_isFile_405 : decode kb_Model_isFile 405 = .ok (.goto (-38), 3) := by decide +kernel
theorem qd_Model_isFile_408 : decode kb_Model_isFile 408 = .ok (.iinc 3 (1), 3) := by decide +kernel
theorem qd_Model_isFile_411 : decode kb_Model_isFile 411 = .ok (.goto (-103), 3) := by decide +kernel
theorem qd_Model_isFile_414 : decode kb_Model_isFile 414 = .ok (.iconst 0, 1) := by decide +kernel
theorem qd_Model_isFile_415 : decode kb_Model_isFile 415 = .ok (.istore_n 3, 1) := by decide +kernel
theorem qd_Model_isFile_416 : decode kb_Model_isFile 416 = .ok (.iload_n 3, 1) := by decide +kernel
theorem qd_Model_isFile_417 : decode kb_Model_isFile 417 = .ok (.aload_n 0, 1) := by decide +kernel
theorem qd_Model_isFile_418 : decode kb_Model_isFile 418 = .ok (.getfield 115, 3) := by decide +kernel
theorem qd_Model_isFile_421 : decode kb_Model_isFile 421 = .ok (.if_icmp .ge (89), 3) := by decide +kernel
theorem qd_Model_isFile_424 : decode kb_Model_isFile 424 = .ok (.aload_n 0, 1) := by decide +kernel
theorem qd_Model_isFile_425 : decode kb_Model_isFile 425 = .ok (.iload_n 3, 1) := by decide +kernel
theorem qd_Model_isFile_426 : decode kb_Model_isFile 426 = .ok (.invokevirtual 130, 3) := by decide +kernel
theorem qd_Model_isFile_429 : decode kb_Model_isFile 429 = .ok (.istore 4, 2) := by decide +kernel
theorem qd_Model_isFile_431 : decode kb_Model_isFile 431 = .ok (.aload_n 0, 1) := by decide +kernel
theorem qd_Model_isFile_432 : decode kb_Model_isFile 432 = .ok (.iload 4, 2) := by decide +kernel
theorem qd_Model_isFile_434 : decode kb_Model_isFile 434 = .ok (.bipush (8), 2) := by decide +kernel
theorem qd_Model_isFile_436 : decode kb_Model_isFile 436 = .ok (.iadd, 1) := by decide +kernel
theorem qd_Model_isFile_437 : decode kb_Model_isFile 437 = .ok (.invokevirtual 111, 3) := by decide +kernel
theorem qd_Model_isFile_440 : decode kb_Model_isFile 440 = .ok (.istore 5, 2) := by decide +kernel
theorem qd_Model_isFile_442 : decode kb_Model_isFile 442 = .ok (.iload_n 2, 1) := by decide +kernel
theorem qd_Model_isFile_443 : decode kb_Model_isFile 443 = .ok (.ifCond .eq (59), 3) := by decide +kernel
theorem qd_Model_isFile_446 : decode kb_Model_isFile 446 = .ok (.aload_n 0, 1) := by decide +kernel
theorem qd_Model_isFile_447 : decode kb_Model_isFile 447 = .ok (.iload 4, 2) := by decide +kernel
theorem qd_Model_isFile_449 : decode kb_Model_isFile 449 = .ok (.invokevirtual 111, 3) := by decide +kernel
theorem qd_Model_isFile_452 : decode kb_Model_isFile 452 = .ok (.ifCond .lt (50), 3) := by decide +kernel
theorem qd_Model_isFile_455 : decode kb_Model_isFile 455 = .ok (.aload_n 0, 1) := by decide +kernel
theorem qd_Model_isFile_456 : decode kb_Model_isFile 456 = .ok (.iload 4, 2) := by decide +kernel
theorem qd_Model_isFile_458 : decode kb_Model_isFile 458 = .ok (.invokevirtual 111, 3) := by decide +kernel
theorem qd_Model_isFile_461 : decode kb_Model_isFile 461 = .ok (.iconst 5, 1) := by decide +kernel
theorem qd_Model_isFile_462 : decode kb_Model_isFile 462 = .ok (.if_icmp .gt (40), 3) := by decide +kernel
theorem qd_Model_isFile_465 : decode kb_Model_isFile 465 = .ok (.aload_n 0, 1) := by decide +kernel
theorem qd_Model_isFile_466 : decode kb_Model_isFile 466 = .ok (.iload 4, 2) := by decide +kernel
theorem qd_Model_isFile_468 : decode kb_Model_isFile 468 = .ok (.iconst 4, 1) := by decide +kernel
theorem qd_Model_isFile_469 : decode kb_Model_isFile 469 = .ok (.iadd, 1) := by decide +kernel
theorem qd_Model_isFile_470 : decode kb_Model_isFile 470 = .ok (.invokevirtual 111, 3) := by decide +kernel
theorem qd_Model_isFile_473 : decode kb_Model_isFile 473 = .ok (.aload_n 0, 1) := by decide +kernel
theorem qd_Model_isFile_474 : decode kb_Model_isFile 474 = .ok (.getfield 96, 3) := by decide +kernel
theorem qd_Model_isFile_477 : decode kb_Model_isFile 477 = .ok (.invokestatic 127, 3) := by decide +kernel
theorem qd_Model_isFile_480 : decode kb_Model_isFile 480 = .ok (.ifCond .eq (22), 3) := by decide +kernel
theorem qd_Model_isFile_483 : decode kb_Model_isFile 483 = .ok (.iload 5, 2) := by decide +kernel
theorem qd_Model_isFile_485 : decode kb_Model_isFile 485 = .ok (.iconst (-1), 1) := by decide +kernel
theorem qd_Model_isFile_486 : decode kb_Model_isFile 486 = .ok (.if_icmp .lt (16), 3) := by decide +kernel
theorem qd_Model_isFile_489 : decode kb_Model_isFile 489 = .ok (.iload 5, 2) := by decide +kernel
theorem qd_Model_isFile_491 : decode kb_Model_isFile 491 = .ok (.aload_n 0, 1) := by decide +kernel
theorem qd_Model_isFile_492 : decode kb_Model_isFile 492 = .ok (.getfield 99, 3) := by decide +kernel
theorem qd_Model_isFile_495 : decode kb_Model_isFile 495 = .ok (.if_icmp .ge (7), 3) := by decide +kernel
theorem qd_Model_isFile_498 : decode kb_Model_isFile 498 = .ok (.iconst 1, 1) := by decide +kernel
theorem qd_Model_isFile_499 : decode kb_Model_isFile 499 = .ok (.goto (4), 3) := by decide +kernel
theorem qd_Model_isFile_502 : decode kb_Model_isFile 502 = .ok (.iconst 0, 1) := by decide +kernel
theorem qd_Model_isFile_503 : decode kb_Model_isFile 503 = .ok (.istore_n 2, 1) := by decide +kernel
theorem qd_Model_isFile_504 : decode kb_Model_isFile 504 = .ok (.iinc 3 (1), 3) := by decide +kernel
theorem qd_Model_isFile_507 : decode kb_Model_isFile 507 = .ok (.goto (-91), 3) := by decide +kernel
theorem qd_Model_isFile_510 : decode kb_Model_isFile 510 = .ok (.iload_n 2, 1) := by decide +kernel
theorem qd_Model_isFile_511 : decode kb_Model_isFile 511 = .ok (.ireturn, 1) := by decide +kernel
def qf_Model_isFile_b16 (u : qm_S) : Option (Int32 × qm_S) := some (vp_nar .boolean (0 : Int32), u)
def qf_Model_isFile_b263 (u : qm_S) : Option (Int32 × qm_S) := some (vp_nar .boolean (0 : Int32), u)
def qf_Model_isFile_b299 (rec267 : qm_S → Int32 → Int32 → Option (Int32 × qm_S)) (u : qm_S) (x3 : Int32) (y0 : Int32) : Option (Int32 × qm_S) := xx_nm (x3 + (1 : Int32)) fun v1 => rec267 u y0 v1
def qf_Model_isFile_b298 (rec267 : qm_S → Int32 → Int32 → Option (Int32 × qm_S)) (u : qm_S) (x3 : Int32) : Option (Int32 × qm_S) := qf_Model_isFile_b299 rec267 u x3 (0 : Int32)
def qf_Model_isFile_b401 (rec308 : qm_S → Int32 → Int32 → Option (Int32 × qm_S)) (rec367 : qm_S → Int32 → Int32 → Int32 → Int32 → Option (Int32 × qm_S)) (u : qm_S) (x3 : Int32) (x4 : Int32) (x5 : Int32) (y0 : Int32) : Option (Int32 × qm_S) := xx_nm (x5 + (1 : Int32)) fun v1 => rec367 u y0 x3 x4 v1
def qf_Model_isFile_b400 (rec308 : qm_S → Int32 → Int32 → Option (Int32 × qm_S)) (rec367 : qm_S → Int32 → Int32 → Int32 → Int32 → Option (Int32 × qm_S)) (u : qm_S) (x3 : Int32) (x4 : Int32) (x5 : Int32) : Option (Int32 × qm_S) := qf_Model_isFile_b401 rec308 rec367 u x3 x4 x5 (0 : Int32)
def qf_Model_isFile_b367 (rec308 : qm_S → Int32 → Int32 → Option (Int32 × qm_S)) : Nat → qm_S → Int32 → Int32 → Int32 → Int32 → Option (Int32 × qm_S)
  | 0, _, _, _, _, _ => none
  | n + 1, u, x2, x3, x4, x5 => if x3 ≤ x5 then (xx_nm (x3 + (1 : Int32)) fun v1 => rec308 u x2 v1) else (if x2 = 0 then (qf_Model_isFile_b400 rec308 (qf_Model_isFile_b367 rec308 n) u x3 x4 x5) else (xx_b2 (qf_Model_exportAt u x5) fun v3 u2 => xx_b2 (qf_Model_tapeWord u2 v3) fun v5 u4 => xx_b2 (qf_Model_tapeWord u4 x4) fun v7 u6 => if v5 = v7 then (qf_Model_isFile_b400 rec308 (qf_Model_isFile_b367 rec308 n) u6 x3 x4 x5) else (qf_Model_isFile_b401 rec308 (qf_Model_isFile_b367 rec308 n) u6 x3 x4 x5 (1 : Int32))))
def qf_Model_isFile_b363 (rec308 : qm_S → Int32 → Int32 → Option (Int32 × qm_S)) (u : qm_S) (x3 : Int32) (x4 : Int32) (y0 : Int32) : Option (Int32 × qm_S) := xx_nm (0 : Int32) fun v1 => qf_Model_isFile_b367 rec308 xx_fu u y0 x3 x4 v1
def qf_Model_isFile_b362 (rec308 : qm_S → Int32 → Int32 → Option (Int32 × qm_S)) (u : qm_S) (x3 : Int32) (x4 : Int32) : Option (Int32 × qm_S) := qf_Model_isFile_b363 rec308 u x3 x4 (0 : Int32)
def qf_Model_isFile_b503 (rec416 : qm_S → Int32 → Int32 → Option (Int32 × qm_S)) (u : qm_S) (x3 : Int32) (y0 : Int32) : Option (Int32 × qm_S) := xx_nm (x3 + (1 : Int32)) fun v1 => rec416 u y0 v1
def qf_Model_isFile_b502 (rec416 : qm_S → Int32 → Int32 → Option (Int32 × qm_S)) (u : qm_S) (x3 : Int32) : Option (Int32 × qm_S) := qf_Model_isFile_b503 rec416 u x3 (0 : Int32)
def qf_Model_isFile_b416 : Nat → qm_S → Int32 → Int32 → Option (Int32 × qm_S)
  | 0, _, _, _ => none
  | n + 1, u, x2, x3 => if (u.1 25) ≤ x3 then (some (vp_nar .boolean x2, u)) else (xx_b2 (qf_Model_placeAt u x3) fun v2 u1 => xx_b2 (qf_Model_tapeWord u1 (v2 + (8 : Int32))) fun v4 u3 => if x2 = 0 then (qf_Model_isFile_b502 (qf_Model_isFile_b416 n) u3 x3) else (xx_b2 (qf_Model_tapeWord u3 v2) fun v6 u5 => if v6 < 0 then (qf_Model_isFile_b502 (qf_Model_isFile_b416 n) u5 x3) else (xx_b2 (qf_Model_tapeWord u5 v2) fun v8 u7 => if (5 : Int32) < v8 then (qf_Model_isFile_b502 (qf_Model_isFile_b416 n) u7 x3) else (xx_b2 (qf_Model_tapeWord u7 (v2 + (4 : Int32))) fun v10 u9 => xx_b2 (qf_Model_isOffset u9 v10 (u9.1 26)) fun v12 u11 => if v12 = 0 then (qf_Model_isFile_b502 (qf_Model_isFile_b416 n) u11 x3) else (if v4 < (-1 : Int32) then (qf_Model_isFile_b502 (qf_Model_isFile_b416 n) u11 x3) else (if (u11.1 23) ≤ v4 then (qf_Model_isFile_b502 (qf_Model_isFile_b416 n) u11 x3) else (qf_Model_isFile_b503 (qf_Model_isFile_b416 n) u11 x3 (1 : Int32))))))))
def qf_Model_isFile_b308 : Nat → qm_S → Int32 → Int32 → Option (Int32 × qm_S)
  | 0, _, _, _ => none
  | n + 1, u, x2, x3 => if (u.1 24) ≤ x3 then (xx_nm (0 : Int32) fun v1 => qf_Model_isFile_b416 xx_fu u x2 v1) else (xx_b2 (qf_Model_exportAt u x3) fun v3 u2 => if x2 = 0 then (qf_Model_isFile_b362 (qf_Model_isFile_b308 n) u2 x3 v3) else (xx_b2 (qf_Model_tapeWord u2 v3) fun v5 u4 => xx_b2 (qf_Model_isName u4 v5) fun v7 u6 => if v7 = 0 then (qf_Model_isFile_b362 (qf_Model_isFile_b308 n) u6 x3 v3) else (xx_b2 (qf_Model_tapeWord u6 (v3 + (8 : Int32))) fun v9 u8 => xx_b2 (qf_Model_isOffset u8 v9 (u8.1 26)) fun v11 u10 => if v11 = 0 then (qf_Model_isFile_b362 (qf_Model_isFile_b308 n) u10 x3 v3) else (qf_Model_isFile_b363 (qf_Model_isFile_b308 n) u10 x3 v3 (1 : Int32)))))
def qf_Model_isFile_b267 : Nat → qm_S → Int32 → Int32 → Option (Int32 × qm_S)
  | 0, _, _, _ => none
  | n + 1, u, x2, x3 => if (u.1 23) ≤ x3 then (xx_nm (0 : Int32) fun v1 => qf_Model_isFile_b308 xx_fu u x2 v1) else (if x2 = 0 then (qf_Model_isFile_b298 (qf_Model_isFile_b267 n) u x3) else (xx_b2 (qf_Model_importAt u x3) fun v3 u2 => xx_b2 (qf_Model_tapeWord u2 v3) fun v5 u4 => xx_b2 (qf_Model_isName u4 v5) fun v7 u6 => if v7 = 0 then (qf_Model_isFile_b298 (qf_Model_isFile_b267 n) u6 x3) else (qf_Model_isFile_b299 (qf_Model_isFile_b267 n) u6 x3 (1 : Int32))))
def qf_Model_isFile_b246 (u : qm_S) (x1 : Int32) (y0 : Int32) : Option (Int32 × qm_S) := if y0 = 0 then (qf_Model_isFile_b263 u) else (xx_b2 (qf_Model_placeAt u (u.1 25)) fun v2 u1 => if x1 = v2 then (xx_nm (0 : Int32) fun v3 => qf_Model_isFile_b267 xx_fu u1 y0 v3) else (qf_Model_isFile_b263 u1))
def qf_Model_isFile_b241 (u : qm_S) (x1 : Int32) : Option (Int32 × qm_S) := qf_Model_isFile_b246 u x1 (1 : Int32)
def qf_Model_isFile_b245 (u : qm_S) (x1 : Int32) : Option (Int32 × qm_S) := qf_Model_isFile_b246 u x1 (0 : Int32)
def qf_Model_isFile_b216 (u : qm_S) (x1 : Int32) : Option (Int32 × qm_S) := if (u.1 29) = (u.1 26) then (qf_Model_isFile_b241 u x1) else (xx_b2 (qf_Model_isOffset u (u.1 29) (u.1 26)) fun v2 u1 => if v2 = 0 then (qf_Model_isFile_b245 u1 x1) else (qf_Model_isFile_b241 u1 x1))
def qf_Model_isFile_b194 (u : qm_S) (x1 : Int32) : Option (Int32 × qm_S) := if (u.1 28) = (-1 : Int32) then (qf_Model_isFile_b216 u x1) else (xx_b2 (qf_Model_isOffset u (u.1 28) (u.1 26)) fun v2 u1 => if v2 = 0 then (qf_Model_isFile_b245 u1 x1) else (qf_Model_isFile_b216 u1 x1))
def qf_Model_isFile_b167 (u : qm_S) (x1 : Int32) (y0 : Int32) : Option (Int32 × qm_S) := if y0 = 0 then (qf_Model_isFile_b245 u x1) else (if (u.1 27) = (-1 : Int32) then (qf_Model_isFile_b194 u x1) else (xx_b2 (qf_Model_isOffset u (u.1 27) (u.1 26)) fun v2 u1 => if v2 = 0 then (qf_Model_isFile_b245 u1 x1) else (qf_Model_isFile_b194 u1 x1)))
def qf_Model_isFile_b166 (u : qm_S) (x1 : Int32) : Option (Int32 × qm_S) := qf_Model_isFile_b167 u x1 (0 : Int32)
def qf_Model_isFile (u : qm_S) (x1 : Int32) : Option (Int32 × qm_S) := if x1 < (32 : Int32) then (qf_Model_isFile_b16 u) else (xx_b2 (qf_Model_tapeWord u (0 : Int32)) fun v2 u1 => if v2 = (1297040469 : Int32) then (xx_b2 (qf_Model_tapeWord u1 (4 : Int32)) fun v4 u3 => xx_nm (va_up u3.1 26 v4, u3.2) fun u5 => xx_b2 (qf_Model_tapeWord u5 (8 : Int32)) fun v7 u6 => xx_nm (va_up u6.1 23 v7, u6.2) fun u8 => xx_b2 (qf_Model_tapeWord u8 (12 : Int32)) fun v10 u9 => xx_nm (va_up u9.1 24 v10, u9.2) fun u11 => xx_b2 (qf_Model_tapeWord u11 (16 : Int32)) fun v13 u12 => xx_nm (va_up u12.1 25 v13, u12.2) fun u14 => xx_b2 (qf_Model_tapeWord u14 (20 : Int32)) fun v16 u15 => xx_nm (va_up u15.1 27 v16, u15.2) fun u17 => xx_b2 (qf_Model_tapeWord u17 (24 : Int32)) fun v19 u18 => xx_nm (va_up u18.1 28 v19, u18.2) fun u20 => xx_b2 (qf_Model_tapeWord u20 (28 : Int32)) fun v22 u21 => xx_nm (va_up u21.1 29 v22, u21.2) fun u23 => if (u23.1 26) < (4 : Int32) then (qf_Model_isFile_b166 u23 x1) else (if (512 : Int32) < (u23.1 26) then (qf_Model_isFile_b166 u23 x1) else (if ((u23.1 26) - (u23.1 26) / (4 : Int32) * (4 : Int32)) = 0 then (if (u23.1 23) < 0 then (qf_Model_isFile_b166 u23 x1) else (if (8 : Int32) < (u23.1 23) then (qf_Model_isFile_b166 u23 x1) else (if (u23.1 24) < 0 then (qf_Model_isFile_b166 u23 x1) else (if (8 : Int32) < (u23.1 24) then (qf_Model_isFile_b166 u23 x1) else (if (u23.1 25) < 0 then (qf_Model_isFile_b166 u23 x1) else (if (24 : Int32) < (u23.1 25) then (qf_Model_isFile_b166 u23 x1) else (qf_Model_isFile_b167 u23 x1 (1 : Int32)))))))) else (qf_Model_isFile_b166 u23 x1)))) else (qf_Model_isFile_b16 u1))
set_option maxHeartbeats 4000000 in
set_option maxRecDepth 100000 in
theorem qw_Model_isFile_b16 {p : Program} {l : Launch} {e : Env} {s : State} {m : MethodId} {args : Array Value} {below : List Frame} {meth : Method} {c : Code} {A : Nat → Prop} {g : xx_G} {r : Int32} {u9 : qm_S} (C : xx_C p s m args meth c kb_Model_isFile 6 kr_Model (some .boolean)) (hA : ∀ q, s.heap.size ≤ q → A q) (hK : va_K g.1 xx_cls (qm_T g) s) : ∀ (u : qm_S) (H : Heap) (locs : List Loc) (ls : Array Slot), qf_Model_isFile_b16 u = some (r, u9) → lv_has ls 6 [] → va_P g.1 xx_cls (qm_W g u) H → va_D A (qm_W g u) → va_S A s.heap H locs → W p l e (xx_rm 3 63) s m args below meth c H locs 0 0 (MQ below (xx_Q g.1 (qm_T g) (qm_W g) (some (.int r)) u9 A) args s 0 0 A) (F0 m 16 ls []) := by
  have hx := C.1
  have hb := C.2.1
  have hown := C.2.2.2.1
  have hts := C.2.2.2.2.1
  intro u H locs ls hF hl hP hD hS
  unfold qf_Model_isFile_b16 at hF
  refine lv_iconst (v := (0 : Int32)) hx hb qd_Model_isFile_16 (by decide) ?_
  exact xx_zret C hF hK hP hD hS qd_Model_isFile_17
set_option maxHeartbeats 4000000 in
set_option maxRecDepth 100000 in
theorem qw_Model_isFile_b263 {p : Program} {l : Launch} {e : Env} {s : State} {m : MethodId} {args : Array Value} {below : List Frame} {meth : Method} {c : Code} {A : Nat → Prop} {g : xx_G} {r : Int32} {u9 : qm_S} (C : xx_C p s m args meth c kb_Model_isFile 6 kr_Model (some .boolean)) (hA : ∀ q, s.heap.size ≤ q → A q) (hK : va_K g.1 xx_cls (qm_T g) s) : ∀ (u : qm_S) (H : Heap) (locs : List Loc) (ls : Array Slot), qf_Model_isFile_b263 u = some (r, u9) → lv_has ls 6 [] → va_P g.1 xx_cls (qm_W g u) H → va_D A (qm_W g u) → va_S A s.heap H locs → W p l e (xx_rm 3 63) s m args below meth c H locs 0 0 (MQ below (xx_Q g.1 (qm_T g) (qm_W g) (some (.int r)) u9 A) args s 0 0 A) (F0 m 263 ls []) := by
  have hx := C.1
  have hb := C.2.1
  have hown := C.2.2.2.1
  have hts := C.2.2.2.2.1
  intro u H locs ls hF hl hP hD hS
  unfold qf_Model_isFile_b263 at hF
  refine lv_iconst (v := (0 : Int32)) hx hb qd_Model_isFile_263 (by decide) ?_
  exact xx_zret C hF hK hP hD hS qd_Model_isFile_264
set_option maxHeartbeats 4000000 in
set_option maxRecDepth 100000 in
theorem qw_Model_isFile_b299 {p : Program} {l : Launch} {e : Env} {s : State} {m : MethodId} {args : Array Value} {below : List Frame} {meth : Method} {c : Code} {A : Nat → Prop} {g : xx_G} {r : Int32} {u9 : qm_S} (C : xx_C p s m args meth c kb_Model_isFile 6 kr_Model (some .boolean)) (hA : ∀ q, s.heap.size ≤ q → A q) (hK : va_K g.1 xx_cls (qm_T g) s) {rec267 : qm_S → Int32 → Int32 → Option (Int32 × qm_S)} (hrec267 : ∀ (u : qm_S) (x2 : Int32) (x3 : Int32) (H : Heap) (locs : List Loc) (ls : Array Slot), rec267 u x2 x3 = some (r, u9) → lv_has ls 6 [(0, .ref (g.2.1 0)), (2, .int x2), (3, .int x3)] → va_P g.1 xx_cls (qm_W g u) H → va_D A (qm_W g u) → va_S A s.heap H locs → W p l e (xx_rm 3 63) s m args below meth c H locs 0 0 (MQ below (xx_Q g.1 (qm_T g) (qm_W g) (some (.int r)) u9 A) args s 0 0 A) (F0 m 267 ls [])) : ∀ (u : qm_S) (x3 : Int32) (y0 : Int32) (H : Heap) (locs : List Loc) (ls : Array Slot), qf_Model_isFile_b299 rec267 u x3 y0 = some (r, u9) → lv_has ls 6 [(0, .ref (g.2.1 0)), (3, .int x3)] → va_P g.1 xx_cls (qm_W g u) H → va_D A (qm_W g u) → va_S A s.heap H locs → W p l e (xx_rm 3 63) s m args below meth c H locs 0 0 (MQ below (xx_Q g.1 (qm_T g) (qm_W g) (some (.int r)) u9 A) args s 0 0 A) (F0 m 299 ls [.int y0]) := by
  have hx := C.1
  have hb := C.2.1
  have hown := C.2.2.2.1
  have hts := C.2.2.2.2.1
  intro u x3 y0 H locs ls hF hl hP hD hS
  unfold qf_Model_isFile_b299 at hF
  refine lv_istore_n hx hb qd_Model_isFile_299 rfl hl (by decide) rfl (fun ls hl => ?_)
  obtain ⟨v1, ev1, hF⟩ := xx_nm_some hF
  refine lv_iinc (k := 2) (v := v1) hx hb qd_Model_isFile_300 hl rfl (by rw [ev1, xx_lit1]) (by decide) rfl (fun ls hl => ?_)
  refine lv_goto (tgt := 267) hx hb qd_Model_isFile_303 (by decide) ?_
  exact hrec267 u y0 v1 _ _ _ hF (lv_sub hl [2, 1, 0] rfl) hP hD hS
set_option maxHeartbeats 4000000 in
set_option maxRecDepth 100000 in
theorem qw_Model_isFile_b298 {p : Program} {l : Launch} {e : Env} {s : State} {m : MethodId} {args : Array Value} {below : List Frame} {meth : Method} {c : Code} {A : Nat → Prop} {g : xx_G} {r : Int32} {u9 : qm_S} (C : xx_C p s m args meth c kb_Model_isFile 6 kr_Model (some .boolean)) (hA : ∀ q, s.heap.size ≤ q → A q) (hK : va_K g.1 xx_cls (qm_T g) s) {rec267 : qm_S → Int32 → Int32 → Option (Int32 × qm_S)} (hrec267 : ∀ (u : qm_S) (x2 : Int32) (x3 : Int32) (H : Heap) (locs : List Loc) (ls : Array Slot), rec267 u x2 x3 = some (r, u9) → lv_has ls 6 [(0, .ref (g.2.1 0)), (2, .int x2), (3, .int x3)] → va_P g.1 xx_cls (qm_W g u) H → va_D A (qm_W g u) → va_S A s.heap H locs → W p l e (xx_rm 3 63) s m args below meth c H locs 0 0 (MQ below (xx_Q g.1 (qm_T g) (qm_W g) (some (.int r)) u9 A) args s 0 0 A) (F0 m 267 ls [])) : ∀ (u : qm_S) (x3 : Int32) (H : Heap) (locs : List Loc) (ls : Array Slot), qf_Model_isFile_b298 rec267 u x3 = some (r, u9) → lv_has ls 6 [(0, .ref (g.2.1 0)), (3, .int x3)] → va_P g.1 xx_cls (qm_W g u) H → va_D A (qm_W g u) → va_S A s.heap H locs → W p l e (xx_rm 3 63) s m args below meth c H locs 0 0 (MQ below (xx_Q g.1 (qm_T g) (qm_W g) (some (.int r)) u9 A) args s 0 0 A) (F0 m 298 ls []) := by
  have hx := C.1
  have hb := C.2.1
  have hown := C.2.2.2.1
  have hts := C.2.2.2.2.1
  intro u x3 H locs ls hF hl hP hD hS
  unfold qf_Model_isFile_b298 at hF
  refine lv_iconst (v := (0 : Int32)) hx hb qd_Model_isFile_298 (by decide) ?_
  exact qw_Model_isFile_b299 C hA hK hrec267  u x3 (0 : Int32) _ _ _ hF (lv_sub hl [0, 1] rfl) hP hD hS
set_option maxHeartbeats 4000000 in
set_option maxRecDepth 100000 in
theorem qw_Model_isFile_b401 {p : Program} {l : Launch} {e : Env} {s : State} {m : MethodId} {args : Array Value} {below : List Frame} {meth : Method} {c : Code} {A : Nat → Prop} {g : xx_G} {r : Int32} {u9 : qm_S} (C : xx_C p s m args meth c kb_Model_isFile 6 kr_Model (some .boolean)) (hA : ∀ q, s.heap.size ≤ q → A q) (hK : va_K g.1 xx_cls (qm_T g) s) {rec308 : qm_S → Int32 → Int32 → Option (Int32 × qm_S)} {rec367 : qm_S → Int32 → Int32 → Int32 → Int32 → Option (Int32 × qm_S)} (hrec308 : ∀ (u : qm_S) (x2 : Int32) (x3 : Int32) (H : Heap) (locs : List Loc) (ls : Array Slot), rec308 u x2 x3 = some (r, u9) → lv_has ls 6 [(0, .ref (g.2.1 0)), (2, .int x2), (3, .int x3)] → va_P g.1 xx_cls (qm_W g u) H → va_D A (qm_W g u) → va_S A s.heap H locs → W p l e (xx_rm 3 63) s m args below meth c H locs 0 0 (MQ below (xx_Q g.1 (qm_T g) (qm_W g) (some (.int r)) u9 A) args s 0 0 A) (F0 m 308 ls [])) (hrec367 : ∀ (u : qm_S) (x2 : Int32) (x3 : Int32) (x4 : Int32) (x5 : Int32) (H : Heap) (locs : List Loc) (ls : Array Slot), rec367 u x2 x3 x4 x5 = some (r, u9) → lv_has ls 6 [(0, .ref (g.2.1 0)), (2, .int x2), (3, .int x3), (4, .int x4), (5, .int x5)] → va_P g.1 xx_cls (qm_W g u) H → va_D A (qm_W g u) → va_S A s.heap H locs → W p l e (xx_rm 3 63) s m args below meth c H locs 0 0 (MQ below (xx_Q g.1 (qm_T g) (qm_W g) (some (.int r)) u9 A) args s 0 0 A) (F0 m 367 ls [])) : ∀ (u : qm_S) (x3 : Int32) (x4 : Int32) (x5 : Int32) (y0 : Int32) (H : Heap) (locs : List Loc) (ls : Array Slot), qf_Model_isFile_b401 rec308 rec367 u x3 x4 x5 y0 = some (r, u9) → lv_has ls 6 [(0, .ref (g.2.1 0)), (3, .int x3), (4, .int x4), (5, .int x5)] → va_P g.1 xx_cls (qm_W g u) H → va_D A (qm_W g u) → va_S A s.heap H locs → W p l e (xx_rm 3 63) s m args below meth c H locs 0 0 (MQ below (xx_Q g.1 (qm_T g) (qm_W g) (some (.int r)) u9 A) args s 0 0 A) (F0 m 401 ls [.int y0]) := by
  have hx := C.1
  have hb := C.2.1
  have hown := C.2.2.2.1
  have hts := C.2.2.2.2.1
  intro u x3 x4 x5 y0 H locs ls hF hl hP hD hS
  unfold qf_Model_isFile_b401 at hF
  refine lv_istore_n hx hb qd_Model_isFile_401 rfl hl (by decide) rfl (fun ls hl => ?_)
  obtain ⟨v1, ev1, hF⟩ := xx_nm_some hF
  refine lv_iinc (k := 4) (v := v1) hx hb qd_Model_isFile_402 hl rfl (by rw [ev1, xx_lit1]) (by decide) rfl (fun ls hl => ?_)
  refine lv_goto (tgt := 367) hx hb qd_Model_isFile_405 (by decide) ?_
  exact hrec367 u y0 x3 x4 v1 _ _ _ hF (lv_sub hl [2, 1, 3, 4, 0] rfl) hP hD hS
set_option maxHeartbeats 4000000 in
set_option maxRecDepth 100000 in
theorem qw_Model_isFile_b400 {p : Program} {l : Launch} {e : Env} {s : State} {m : MethodId} {args : Array Value} {below : List Frame} {meth : Method} {c : Code} {A : Nat → Prop} {g : xx_G} {r : Int32} {u9 : qm_S} (C : xx_C p s m args meth c kb_Model_isFile 6 kr_Model (some .boolean)) (hA : ∀ q, s.heap.size ≤ q → A q) (hK : va_K g.1 xx_cls (qm_T g) s) {rec308 : qm_S → Int32 → Int32 → Option (Int32 × qm_S)} {rec367 : qm_S → Int32 → Int32 → Int32 → Int32 → Option (Int32 × qm_S)} (hrec308 : ∀ (u : qm_S) (x2 : Int32) (x3 : Int32) (H : Heap) (locs : List Loc) (ls : Array Slot), rec308 u x2 x3 = some (r, u9) → lv_has ls 6 [(0, .ref (g.2.1 0)), (2, .int x2), (3, .int x3)] → va_P g.1 xx_cls (qm_W g u) H → va_D A (qm_W g u) → va_S A s.heap H locs → W p l e (xx_rm 3 63) s m args below meth c H locs 0 0 (MQ below (xx_Q g.1 (qm_T g) (qm_W g) (some (.int r)) u9 A) args s 0 0 A) (F0 m 308 ls [])) (hrec367 : ∀ (u : qm_S) (x2 : Int32) (x3 : Int32) (x4 : Int32) (x5 : Int32) (H : Heap) (locs : List Loc) (ls : Array Slot), rec367 u x2 x3 x4 x5 = some (r, u9) → lv_has ls 6 [(0, .ref (g.2.1 0)), (2, .int x2), (3, .int x3), (4, .int x4), (5, .int x5)] → va_P g.1 xx_cls (qm_W g u) H → va_D A (qm_W g u) → va_S A s.heap H locs → W p l e (xx_rm 3 63) s m args below meth c H locs 0 0 (MQ below (xx_Q g.1 (qm_T g) (qm_W g) (some (.int r)) u9 A) args s 0 0 A) (F0 m 367 ls [])) : ∀ (u : qm_S) (x3 : Int32) (x4 : Int32) (x5 : Int32) (H : Heap) (locs : List Loc) (ls : Array Slot), qf_Model_isFile_b400 rec308 rec367 u x3 x4 x5 = some (r, u9) → lv_has ls 6 [(0, .ref (g.2.1 0)), (3, .int x3), (4, .int x4), (5, .int x5)] → va_P g.1 xx_cls (qm_W g u) H → va_D A (qm_W g u) → va_S A s.heap H locs → W p l e (xx_rm 3 63) s m args below meth c H locs 0 0 (MQ below (xx_Q g.1 (qm_T g) (qm_W g) (some (.int r)) u9 A) args s 0 0 A) (F0 m 400 ls []) := by
  have hx := C.1
  have hb := C.2.1
  have hown := C.2.2.2.1
  have hts := C.2.2.2.2.1
  intro u x3 x4 x5 H locs ls hF hl hP hD hS
  unfold qf_Model_isFile_b400 at hF
  refine lv_iconst (v := (0 : Int32)) hx hb qd_Model_isFile_400 (by decide) ?_
  exact qw_Model_isFile_b401 C hA hK hrec308 hrec367  u x3 x4 x5 (0 : Int32) _ _ _ hF (lv_sub hl [0, 1, 2, 3] rfl) hP hD hS
set_option maxHeartbeats 4000000 in
set_option maxRecDepth 100000 in
theorem qw_Model_isFile_b367 {p : Program} {l : Launch} {e : Env} {s : State} {m : MethodId} {args : Array Value} {below : List Frame} {meth : Method} {c : Code} {A : Nat → Prop} {g : xx_G} {r : Int32} {u9 : qm_S} (C : xx_C p s m args meth c kb_Model_isFile 6 kr_Model (some .boolean)) (hA : ∀ q, s.heap.size ≤ q → A q) (hK : va_K g.1 xx_cls (qm_T g) s) {rec308 : qm_S → Int32 → Int32 → Option (Int32 × qm_S)} (hrec308 : ∀ (u : qm_S) (x2 : Int32) (x3 : Int32) (H : Heap) (locs : List Loc) (ls : Array Slot), rec308 u x2 x3 = some (r, u9) → lv_has ls 6 [(0, .ref (g.2.1 0)), (2, .int x2), (3, .int x3)] → va_P g.1 xx_cls (qm_W g u) H → va_D A (qm_W g u) → va_S A s.heap H locs → W p l e (xx_rm 3 63) s m args below meth c H locs 0 0 (MQ below (xx_Q g.1 (qm_T g) (qm_W g) (some (.int r)) u9 A) args s 0 0 A) (F0 m 308 ls [])) : ∀ (n : Nat), ∀ (u : qm_S) (x2 : Int32) (x3 : Int32) (x4 : Int32) (x5 : Int32) (H : Heap) (locs : List Loc) (ls : Array Slot), qf_Model_isFile_b367 rec308 n u x2 x3 x4 x5 = some (r, u9) → lv_has ls 6 [(0, .ref (g.2.1 0)), (2, .int x2), (3, .int x3), (4, .int x4), (5, .int x5)] → va_P g.1 xx_cls (qm_W g u) H → va_D A (qm_W g u) → va_S A s.heap H locs → W p l e (xx_rm 3 63) s m args below meth c H locs 0 0 (MQ below (xx_Q g.1 (qm_T g) (qm_W g) (some (.int r)) u9 A) args s 0 0 A) (F0 m 367 ls []) := by
  have hx := C.1
  have hb := C.2.1
  have hown := C.2.2.2.1
  have hts := C.2.2.2.2.1
  intro n
  induction n with
  | zero =>
    intro u x2 x3 x4 x5 H locs ls hF
    rw [qf_Model_isFile_b367] at hF
    cases hF
  | succ n ih =>
    intro u x2 x3 x4 x5 H locs ls hF hl hP hD hS
    rw [qf_Model_isFile_b367] at hF
    refine lv_iload hx hb qd_Model_isFile_367 (lv_at hl 4 rfl) ?_
    refine lv_iload_n hx hb qd_Model_isFile_369 rfl (lv_at hl 2 rfl) ?_
    refine lv_icmp_ge (tgt := 408) hx hb qd_Model_isFile_370 (by decide) (fun hc => ?_) (fun hc => ?_)
    · have hF := xx_ip hc hF
      obtain ⟨v1, ev1, hF⟩ := xx_nm_some hF
      refine lv_iinc (k := 2) (v := v1) hx hb qd_Model_isFile_408 hl rfl (by rw [ev1, xx_lit1]) (by decide) rfl (fun ls hl => ?_)
      refine lv_goto (tgt := 308) hx hb qd_Model_isFile_411 (by decide) ?_
      exact hrec308 u x2 v1 _ _ _ hF (lv_sub hl [1, 2, 0] rfl) hP hD hS
    · have hF := xx_in' hc hF
      refine lv_iload_n hx hb qd_Model_isFile_373 rfl (lv_at hl 1 rfl) ?_
      refine lv_if_eq (tgt := 400) hx hb qd_Model_isFile_374 (by decide) (fun hc => ?_) (fun hc => ?_)
      · have hF := xx_ip hc hF
        exact qw_Model_isFile_b400 C hA hK hrec308 ih  u x3 x4 x5 _ _ _ hF (lv_sub hl [0, 2, 3, 4] rfl) hP hD hS
      · have hF := xx_in' hc hF
        refine lv_aload_n hx hb qd_Model_isFile_377 rfl (lv_at hl 0 rfl) ?_
        refine lv_aload_n hx hb qd_Model_isFile_378 rfl (lv_at hl 0 rfl) ?_
        refine lv_iload hx hb qd_Model_isFile_379 (lv_at hl 4 rfl) ?_
        obtain ⟨v3, u2, eu2, hF⟩ := xx_b2_some hF
        refine xx_callV (n := 1) (As := [.int x5]) (rest := [.ref (g.2.1 0)]) C (qc_Model_exportAt l g u x5 v3 u2 eu2) ⟨kw_1052, kw_1049, kw_1051, ks_Model_exportAt, kw_9⟩ ⟨by decide +kernel, by decide +kernel, by decide +kernel⟩ rfl ⟨Nat.le_of_ble_eq_true rfl, Nat.le_of_ble_eq_true rfl⟩ 0 rfl rfl hl.1 rfl (Nat.le_of_ble_eq_true rfl) hA hK hP hD hS ⟨Nat.le_refl _, Nat.le_refl _⟩ rfl rfl rfl qd_Model_isFile_381 (fun H locs hP hD hS => ?_)
        obtain ⟨v5, u4, eu4, hF⟩ := xx_b2_some hF
        refine xx_callV (n := 1) (As := [.int v3]) (rest := []) C (qc_Model_tapeWord l g u2 v3 v5 u4 eu4) ⟨kw_1040, kw_1037, kw_1039, ks_Model_tapeWord, kw_9⟩ ⟨by decide +kernel, by decide +kernel, by decide +kernel⟩ rfl ⟨Nat.le_of_ble_eq_true rfl, Nat.le_of_ble_eq_true rfl⟩ 0 rfl rfl hl.1 rfl (Nat.le_of_ble_eq_true rfl) hA hK hP hD hS ⟨Nat.le_refl _, Nat.le_refl _⟩ rfl rfl rfl qd_Model_isFile_384 (fun H locs hP hD hS => ?_)
        refine lv_aload_n hx hb qd_Model_isFile_387 rfl (lv_at hl 0 rfl) ?_
        refine lv_iload hx hb qd_Model_isFile_388 (lv_at hl 3 rfl) ?_
        obtain ⟨v7, u6, eu6, hF⟩ := xx_b2_some hF
        refine xx_callV (n := 1) (As := [.int x4]) (rest := [.int v5]) C (qc_Model_tapeWord l g u4 x4 v7 u6 eu6) ⟨kw_1040, kw_1037, kw_1039, ks_Model_tapeWord, kw_9⟩ ⟨by decide +kernel, by decide +kernel, by decide +kernel⟩ rfl ⟨Nat.le_of_ble_eq_true rfl, Nat.le_of_ble_eq_true rfl⟩ 0 rfl rfl hl.1 rfl (Nat.le_of_ble_eq_true rfl) hA hK hP hD hS ⟨Nat.le_refl _, Nat.le_refl _⟩ rfl rfl rfl qd_Model_isFile_390 (fun H locs hP hD hS => ?_)
        refine lv_icmp_eq (tgt := 400) hx hb qd_Model_isFile_393 (by decide) (fun hc => ?_) (fun hc => ?_)
        · have hF := xx_ip hc hF
          exact qw_Model_isFile_b400 C hA hK hrec308 ih  u6 x3 x4 x5 _ _ _ hF (lv_sub hl [0, 2, 3, 4] rfl) hP hD hS
        · have hF := xx_in' hc hF
          refine lv_iconst (v := (1 : Int32)) hx hb qd_Model_isFile_396 (by decide) ?_
          refine lv_goto (tgt := 401) hx hb qd_Model_isFile_397 (by decide) ?_
          exact qw_Model_isFile_b401 C hA hK hrec308 ih  u6 x3 x4 x5 (1 : Int32) _ _ _ hF (lv_sub hl [0, 2, 3, 4] rfl) hP hD hS
set_option maxHeartbeats 4000000 in
set_option maxRecDepth 100000 in
theorem qw_Model_isFile_b363 {p : Program} {l : Launch} {e : Env} {s : State} {m : MethodId} {args : Array Value} {below : List Frame} {meth : Method} {c : Code} {A : Nat → Prop} {g : xx_G} {r : Int32} {u9 : qm_S} (C : xx_C p s m args meth c kb_Model_isFile 6 kr_Model (some .boolean)) (hA : ∀ q, s.heap.size ≤ q → A q) (hK : va_K g.1 xx_cls (qm_T g) s) {rec308 : qm_S → Int32 → Int32 → Option (Int32 × qm_S)} (hrec308 : ∀ (u : qm_S) (x2 : Int32) (x3 : Int32) (H : Heap) (locs : List Loc) (ls : Array Slot), rec308 u x2 x3 = some (r, u9) → lv_has ls 6 [(0, .ref (g.2.1 0)), (2, .int x2), (3, .int x3)] → va_P g.1 xx_cls (qm_W g u) H → va_D A (qm_W g u) → va_S A s.heap H locs → W p l e (xx_rm 3 63) s m args below meth c H locs 0 0 (MQ below (xx_Q g.1 (qm_T g) (qm_W g) (some (.int r)) u9 A) args s 0 0 A) (F0 m 308 ls [])) : ∀ (u : qm_S) (x3 : Int32) (x4 : Int32) (y0 : Int32) (H : Heap) (locs : List Loc) (ls : Array Slot), qf_Model_isFile_b363 rec308 u x3 x4 y0 = some (r, u9) → lv_has ls 6 [(0, .ref (g.2.1 0)), (3, .int x3), (4, .int x4)] → va_P g.1 xx_cls (qm_W g u) H → va_D A (qm_W g u) → va_S A s.heap H locs → W p l e (xx_rm 3 63) s m args below meth c H locs 0 0 (MQ below (xx_Q g.1 (qm_T g) (qm_W g) (some (.int r)) u9 A) args s 0 0 A) (F0 m 363 ls [.int y0]) := by
  have hx := C.1
  have hb := C.2.1
  have hown := C.2.2.2.1
  have hts := C.2.2.2.2.1
  intro u x3 x4 y0 H locs ls hF hl hP hD hS
  unfold qf_Model_isFile_b363 at hF
  refine lv_istore_n hx hb qd_Model_isFile_363 rfl hl (by decide) rfl (fun ls hl => ?_)
  refine lv_iconst (v := (0 : Int32)) hx hb qd_Model_isFile_364 (by decide) ?_
  obtain ⟨v1, ev1, hF⟩ := xx_nm_some hF
  refine xx_topi ev1 ?_
  refine lv_istore hx hb qd_Model_isFile_365 hl (by decide) rfl (fun ls hl => ?_)
  exact qw_Model_isFile_b367 C hA hK hrec308 xx_fu u y0 x3 x4 v1 _ _ _ hF (lv_sub hl [2, 1, 3, 4, 0] rfl) hP hD hS
set_option maxHeartbeats 4000000 in
set_option maxRecDepth 100000 in
theorem qw_Model_isFile_b362 {p : Program} {l : Launch} {e : Env} {s : State} {m : MethodId} {args : Array Value} {below : List Frame} {meth : Method} {c : Code} {A : Nat → Prop} {g : xx_G} {r : Int32} {u9 : qm_S} (C : xx_C p s m args meth c kb_Model_isFile 6 kr_Model (some .boolean)) (hA : ∀ q, s.heap.size ≤ q → A q) (hK : va_K g.1 xx_cls (qm_T g) s) {rec308 : qm_S → Int32 → Int32 → Option (Int32 × qm_S)} (hrec308 : ∀ (u : qm_S) (x2 : Int32) (x3 : Int32) (H : Heap) (locs : List Loc) (ls : Array Slot), rec308 u x2 x3 = some (r, u9) → lv_has ls 6 [(0, .ref (g.2.1 0)), (2, .int x2), (3, .int x3)] → va_P g.1 xx_cls (qm_W g u) H → va_D A (qm_W g u) → va_S A s.heap H locs → W p l e (xx_rm 3 63) s m args below meth c H locs 0 0 (MQ below (xx_Q g.1 (qm_T g) (qm_W g) (some (.int r)) u9 A) args s 0 0 A) (F0 m 308 ls [])) : ∀ (u : qm_S) (x3 : Int32) (x4 : Int32) (H : Heap) (locs : List Loc) (ls : Array Slot), qf_Model_isFile_b362 rec308 u x3 x4 = some (r, u9) → lv_has ls 6 [(0, .ref (g.2.1 0)), (3, .int x3), (4, .int x4)] → va_P g.1 xx_cls (qm_W g u) H → va_D A (qm_W g u) → va_S A s.heap H locs → W p l e (xx_rm 3 63) s m args below meth c H locs 0 0 (MQ below (xx_Q g.1 (qm_T g) (qm_W g) (some (.int r)) u9 A) args s 0 0 A) (F0 m 362 ls []) := by
  have hx := C.1
  have hb := C.2.1
  have hown := C.2.2.2.1
  have hts := C.2.2.2.2.1
  intro u x3 x4 H locs ls hF hl hP hD hS
  unfold qf_Model_isFile_b362 at hF
  refine lv_iconst (v := (0 : Int32)) hx hb qd_Model_isFile_362 (by decide) ?_
  exact qw_Model_isFile_b363 C hA hK hrec308  u x3 x4 (0 : Int32) _ _ _ hF (lv_sub hl [0, 1, 2] rfl) hP hD hS
set_option maxHeartbeats 4000000 in
set_option maxRecDepth 100000 in
theorem qw_Model_isFile_b503 {p : Program} {l : Launch} {e : Env} {s : State} {m : MethodId} {args : Array Value} {below : List Frame} {meth : Method} {c : Code} {A : Nat → Prop} {g : xx_G} {r : Int32} {u9 : qm_S} (C : xx_C p s m args meth c kb_Model_isFile 6 kr_Model (some .boolean)) (hA : ∀ q, s.heap.size ≤ q → A q) (hK : va_K g.1 xx_cls (qm_T g) s) {rec416 : qm_S → Int32 → Int32 → Option (Int32 × qm_S)} (hrec416 : ∀ (u : qm_S) (x2 : Int32) (x3 : Int32) (H : Heap) (locs : List Loc) (ls : Array Slot), rec416 u x2 x3 = some (r, u9) → lv_has ls 6 [(0, .ref (g.2.1 0)), (2, .int x2), (3, .int x3)] → va_P g.1 xx_cls (qm_W g u) H → va_D A (qm_W g u) → va_S A s.heap H locs → W p l e (xx_rm 3 63) s m args below meth c H locs 0 0 (MQ below (xx_Q g.1 (qm_T g) (qm_W g) (some (.int r)) u9 A) args s 0 0 A) (F0 m 416 ls [])) : ∀ (u : qm_S) (x3 : Int32) (y0 : Int32) (H : Heap) (locs : List Loc) (ls : Array Slot), qf_Model_isFile_b503 rec416 u x3 y0 = some (r, u9) → lv_has ls 6 [(0, .ref (g.2.1 0)), (3, .int x3)] → va_P g.1 xx_cls (qm_W g u) H → va_D A (qm_W g u) → va_S A s.heap H locs → W p l e (xx_rm 3 63) s m args below meth c H locs 0 0 (MQ below (xx_Q g.1 (qm_T g) (qm_W g) (some (.int r)) u9 A) args s 0 0 A) (F0 m 503 ls [.int y0]) := by
  have hx := C.1
  have hb := C.2.1
  have hown := C.2.2.2.1
  have hts := C.2.2.2.2.1
  intro u x3 y0 H locs ls hF hl hP hD hS
  unfold qf_Model_isFile_b503 at hF
  refine lv_istore_n hx hb qd_Model_isFile_503 rfl hl (by decide) rfl (fun ls hl => ?_)
  obtain ⟨v1, ev1, hF⟩ := xx_nm_some hF
  refine lv_iinc (k := 2) (v := v1) hx hb qd_Model_isFile_504 hl rfl (by rw [ev1, xx_lit1]) (by decide) rfl (fun ls hl => ?_)
  refine lv_goto (tgt := 416) hx hb qd_Model_isFile_507 (by decide) ?_
  exact hrec416 u y0 v1 _ _ _ hF (lv_sub hl [2, 1, 0] rfl) hP hD hS
set_option maxHeartbeats 4000000 in
set_option maxRecDepth 100000 in
theorem qw_Model_isFile_b502 {p : Program} {l : Launch} {e : Env} {s : State} {m : MethodId} {args : Array Value} {below : List Frame} {meth : Method} {c : Code} {A : Nat → Prop} {g : xx_G} {r : Int32} {u9 : qm_S} (C : xx_C p s m args meth c kb_Model_isFile 6 kr_Model (some .boolean)) (hA : ∀ q, s.heap.size ≤ q → A q) (hK : va_K g.1 xx_cls (qm_T g) s) {rec416 : qm_S → Int32 → Int32 → Option (Int32 × qm_S)} (hrec416 : ∀ (u : qm_S) (x2 : Int32) (x3 : Int32) (H : Heap) (locs : List Loc) (ls : Array Slot), rec416 u x2 x3 = some (r, u9) → lv_has ls 6 [(0, .ref (g.2.1 0)), (2, .int x2), (3, .int x3)] → va_P g.1 xx_cls (qm_W g u) H → va_D A (qm_W g u) → va_S A s.heap H locs → W p l e (xx_rm 3 63) s m args below meth c H locs 0 0 (MQ below (xx_Q g.1 (qm_T g) (qm_W g) (some (.int r)) u9 A) args s 0 0 A) (F0 m 416 ls [])) : ∀ (u : qm_S) (x3 : Int32) (H : Heap) (locs : List Loc) (ls : Array Slot), qf_Model_isFile_b502 rec416 u x3 = some (r, u9) → lv_has ls 6 [(0, .ref (g.2.1 0)), (3, .int x3)] → va_P g.1 xx_cls (qm_W g u) H → va_D A (qm_W g u) → va_S A s.heap H locs → W p l e (xx_rm 3 63) s m args below meth c H locs 0 0 (MQ below (xx_Q g.1 (qm_T g) (qm_W g) (some (.int r)) u9 A) args s 0 0 A) (F0 m 502 ls []) := by
  have hx := C.1
  have hb := C.2.1
  have hown := C.2.2.2.1
  have hts := C.2.2.2.2.1
  intro u x3 H locs ls hF hl hP hD hS
  unfold qf_Model_isFile_b502 at hF
  refine lv_iconst (v := (0 : Int32)) hx hb qd_Model_isFile_502 (by decide) ?_
  exact qw_Model_isFile_b503 C hA hK hrec416  u x3 (0 : Int32) _ _ _ hF (lv_sub hl [0, 1] rfl) hP hD hS
set_option maxHeartbeats 4000000 in
set_option maxRecDepth 100000 in
theorem qw_Model_isFile_b416 {p : Program} {l : Launch} {e : Env} {s : State} {m : MethodId} {args : Array Value} {below : List Frame} {meth : Method} {c : Code} {A : Nat → Prop} {g : xx_G} {r : Int32} {u9 : qm_S} (C : xx_C p s m args meth c kb_Model_isFile 6 kr_Model (some .boolean)) (hA : ∀ q, s.heap.size ≤ q → A q) (hK : va_K g.1 xx_cls (qm_T g) s) : ∀ (n : Nat), ∀ (u : qm_S) (x2 : Int32) (x3 : Int32) (H : Heap) (locs : List Loc) (ls : Array Slot), qf_Model_isFile_b416 n u x2 x3 = some (r, u9) → lv_has ls 6 [(0, .ref (g.2.1 0)), (2, .int x2), (3, .int x3)] → va_P g.1 xx_cls (qm_W g u) H → va_D A (qm_W g u) → va_S A s.heap H locs → W p l e (xx_rm 3 63) s m args below meth c H locs 0 0 (MQ below (xx_Q g.1 (qm_T g) (qm_W g) (some (.int r)) u9 A) args s 0 0 A) (F0 m 416 ls []) := by
  have hx := C.1
  have hb := C.2.1
  have hown := C.2.2.2.1
  have hts := C.2.2.2.2.1
  intro n
  induction n with
  | zero =>
    intro u x2 x3 H locs ls hF
    rw [qf_Model_isFile_b416] at hF
    cases hF
  | succ n ih =>
    intro u x2 x3 H locs ls hF hl hP hD hS
    rw [qf_Model_isFile_b416] at hF
    refine lv_iload_n hx hb qd_Model_isFile_416 rfl (lv_at hl 2 rfl) ?_
    refine lv_aload_n hx hb qd_Model_isFile_417 rfl (lv_at hl 0 rfl) ?_
    refine xx_get C ki_Model hK hP 0 rfl rfl 25 (by decide) kw_898 rfl rfl qd_Model_isFile_418 ?_
    refine lv_icmp_ge (tgt := 510) hx hb qd_Model_isFile_421 (by decide) (fun hc => ?_) (fun hc => ?_)
    · have hF := xx_ip hc hF
      refine lv_iload_n hx hb qd_Model_isFile_510 rfl (lv_at hl 1 rfl) ?_
      exact xx_zret C hF hK hP hD hS qd_Model_isFile_511
    · have hF := xx_in' hc hF
      refine lv_aload_n hx hb qd_Model_isFile_424 rfl (lv_at hl 0 rfl) ?_
      refine lv_iload_n hx hb qd_Model_isFile_425 rfl (lv_at hl 2 rfl) ?_
      obtain ⟨v2, u1, eu1, hF⟩ := xx_b2_some hF
      refine xx_callV (n := 1) (As := [.int x3]) (rest := []) C (qc_Model_placeAt l g u x3 v2 u1 eu1) ⟨kw_1048, kw_1045, kw_1047, ks_Model_placeAt, kw_9⟩ ⟨by decide +kernel, by decide +kernel, by decide +kernel⟩ rfl ⟨Nat.le_of_ble_eq_true rfl, Nat.le_of_ble_eq_true rfl⟩ 0 rfl rfl hl.1 rfl (Nat.le_of_ble_eq_true rfl) hA hK hP hD hS ⟨Nat.le_refl _, Nat.le_refl _⟩ rfl rfl rfl qd_Model_isFile_426 (fun H locs hP hD hS => ?_)
      refine lv_istore hx hb qd_Model_isFile_429 hl (by decide) rfl (fun ls hl => ?_)
      refine lv_aload_n hx hb qd_Model_isFile_431 rfl (lv_at hl 1 rfl) ?_
      refine lv_iload hx hb qd_Model_isFile_432 (lv_at hl 0 rfl) ?_
      refine lv_bipush (v := (8 : Int32)) hx hb qd_Model_isFile_434 (by decide) ?_
      refine lv_iadd hx hb qd_Model_isFile_436 ?_
      obtain ⟨v4, u3, eu3, hF⟩ := xx_b2_some hF
      refine xx_callV (n := 1) (As := [.int (v2 + (8 : Int32))]) (rest := []) C (qc_Model_tapeWord l g u1 (v2 + (8 : Int32)) v4 u3 eu3) ⟨kw_1040, kw_1037, kw_1039, ks_Model_tapeWord, kw_9⟩ ⟨by decide +kernel, by decide +kernel, by decide +kernel⟩ rfl ⟨Nat.le_of_ble_eq_true rfl, Nat.le_of_ble_eq_true rfl⟩ 0 rfl rfl hl.1 rfl (Nat.le_of_ble_eq_true rfl) hA hK hP hD hS ⟨Nat.le_refl _, Nat.le_refl _⟩ rfl rfl rfl qd_Model_isFile_437 (fun H locs hP hD hS => ?_)
      refine lv_istore hx hb qd_Model_isFile_440 hl (by decide) rfl (fun ls hl => ?_)
      refine lv_iload_n hx hb qd_Model_isFile_442 rfl (lv_at hl 3 rfl) ?_
      refine lv_if_eq (tgt := 502) hx hb qd_Model_isFile_443 (by decide) (fun hc => ?_) (fun hc => ?_)
      · have hF := xx_ip hc hF
        exact qw_Model_isFile_b502 C hA hK ih  u3 x3 _ _ _ hF (lv_sub hl [2, 4] rfl) hP hD hS
      · have hF := xx_in' hc hF
        refine lv_aload_n hx hb qd_Model_isFile_446 rfl (lv_at hl 2 rfl) ?_
        refine lv_iload hx hb qd_Model_isFile_447 (lv_at hl 1 rfl) ?_
        obtain ⟨v6, u5, eu5, hF⟩ := xx_b2_some hF
        refine xx_callV (n := 1) (As := [.int v2]) (rest := []) C (qc_Model_tapeWord l g u3 v2 v6 u5 eu5) ⟨kw_1040, kw_1037, kw_1039, ks_Model_tapeWord, kw_9⟩ ⟨by decide +kernel, by decide +kernel, by decide +kernel⟩ rfl ⟨Nat.le_of_ble_eq_true rfl, Nat.le_of_ble_eq_true rfl⟩ 0 rfl rfl hl.1 rfl (Nat.le_of_ble_eq_true rfl) hA hK hP hD hS ⟨Nat.le_refl _, Nat.le_refl _⟩ rfl rfl rfl qd_Model_isFile_449 (fun H locs hP hD hS => ?_)
        refine lv_if_lt (tgt := 502) hx hb qd_Model_isFile_452 (by decide) (fun hc => ?_) (fun hc => ?_)
        · have hF := xx_ip hc hF
          exact qw_Model_isFile_b502 C hA hK ih  u5 x3 _ _ _ hF (lv_sub hl [2, 4] rfl) hP hD hS
        · have hF := xx_in' hc hF
          refine lv_aload_n hx hb qd_Model_isFile_455 rfl (lv_at hl 2 rfl) ?_
          refine lv_iload hx hb qd_Model_isFile_456 (lv_at hl 1 rfl) ?_
          obtain ⟨v8, u7, eu7, hF⟩ := xx_b2_some hF
          refine xx_callV (n := 1) (As := [.int v2]) (rest := []) C (qc_Model_tapeWord l g u5 v2 v8 u7 eu7) ⟨kw_1040, kw_1037, kw_1039, ks_Model_tapeWord, kw_9⟩ ⟨by decide +kernel, by decide +kernel, by decide +kernel⟩ rfl ⟨Nat.le_of_ble_eq_true rfl, Nat.le_of_ble_eq_true rfl⟩ 0 rfl rfl hl.1 rfl (Nat.le_of_ble_eq_true rfl) hA hK hP hD hS ⟨Nat.le_refl _, Nat.le_refl _⟩ rfl rfl rfl qd_Model_isFile_458 (fun H locs hP hD hS => ?_)
          refine lv_iconst (v := (5 : Int32)) hx hb qd_Model_isFile_461 (by decide) ?_
          refine lv_icmp_gt (tgt := 502) hx hb qd_Model_isFile_462 (by decide) (fun hc => ?_) (fun hc => ?_)
          · have hF := xx_ip hc hF
            exact qw_Model_isFile_b502 C hA hK ih  u7 x3 _ _ _ hF (lv_sub hl [2, 4] rfl) hP hD hS
          · have hF := xx_in' hc hF
            refine lv_aload_n hx hb qd_Model_isFile_465 rfl (lv_at hl 2 rfl) ?_
            refine lv_iload hx hb qd_Model_isFile_466 (lv_at hl 1 rfl) ?_
            refine lv_iconst (v := (4 : Int32)) hx hb qd_Model_isFile_468 (by decide) ?_
            refine lv_iadd hx hb qd_Model_isFile_469 ?_
            obtain ⟨v10, u9, eu9, hF⟩ := xx_b2_some hF
            refine xx_callV (n := 1) (As := [.int (v2 + (4 : Int32))]) (rest := []) C (qc_Model_tapeWord l g u7 (v2 + (4 : Int32)) v10 u9 eu9) ⟨kw_1040, kw_1037, kw_1039, ks_Model_tapeWord, kw_9⟩ ⟨by decide +kernel, by decide +kernel, by decide +kernel⟩ rfl ⟨Nat.le_of_ble_eq_true rfl, Nat.le_of_ble_eq_true rfl⟩ 0 rfl rfl hl.1 rfl (Nat.le_of_ble_eq_true rfl) hA hK hP hD hS ⟨Nat.le_refl _, Nat.le_refl _⟩ rfl rfl rfl qd_Model_isFile_470 (fun H locs hP hD hS => ?_)
            refine lv_aload_n hx hb qd_Model_isFile_473 rfl (lv_at hl 2 rfl) ?_
            refine xx_get C ki_Model hK hP 0 rfl rfl 26 (by decide) kw_899 rfl rfl qd_Model_isFile_474 ?_
            obtain ⟨v12, u11, eu11, hF⟩ := xx_b2_some hF
            refine xx_callS (n := 2) (As := [.int v10, .int (u9.1 26)]) (rest := []) C (qc_Model_isOffset l g u9 v10 (u9.1 26) v12 u11 eu11) ⟨kw_1044, kw_1042, kw_1043, kw_9⟩ ⟨by decide +kernel, by decide +kernel, by decide +kernel⟩ rfl ⟨Nat.le_of_ble_eq_true rfl, Nat.le_of_ble_eq_true rfl⟩ hl.1 rfl (Nat.le_of_ble_eq_true rfl) hA hK hP hD hS ⟨Nat.le_refl _, Nat.le_refl _⟩ rfl rfl rfl qd_Model_isFile_477 (fun H locs hP hD hS => ?_)
            refine lv_if_eq (tgt := 502) hx hb qd_Model_isFile_480 (by decide) (fun hc => ?_) (fun hc => ?_)
            · have hF := xx_ip hc hF
              exact qw_Model_isFile_b502 C hA hK ih  u11 x3 _ _ _ hF (lv_sub hl [2, 4] rfl) hP hD hS
            · have hF := xx_in' hc hF
              refine lv_iload hx hb qd_Model_isFile_483 (lv_at hl 0 rfl) ?_
              refine lv_iconst (v := (-1 : Int32)) hx hb qd_Model_isFile_485 (by decide) ?_
              refine lv_icmp_lt (tgt := 502) hx hb qd_Model_isFile_486 (by decide) (fun hc => ?_) (fun hc => ?_)
              · have hF := xx_ip hc hF
                exact qw_Model_isFile_b502 C hA hK ih  u11 x3 _ _ _ hF (lv_sub hl [2, 4] rfl) hP hD hS
              · have hF := xx_in' hc hF
                refine lv_iload hx hb qd_Model_isFile_489 (lv_at hl 0 rfl) ?_
                refine lv_aload_n hx hb qd_Model_isFile_491 rfl (lv_at hl 2 rfl) ?_
                refine xx_get C ki_Model hK hP 0 rfl rfl 23 (by decide) kw_896 rfl rfl qd_Model_isFile_492 ?_
                refine lv_icmp_ge (tgt := 502) hx hb qd_Model_isFile_495 (by decide) (fun hc => ?_) (fun hc => ?_)
                · have hF := xx_ip hc hF
                  exact qw_Model_isFile_b502 C hA hK ih  u11 x3 _ _ _ hF (lv_sub hl [2, 4] rfl) hP hD hS
                · have hF := xx_in' hc hF
                  refine lv_iconst (v := (1 : Int32)) hx hb qd_Model_isFile_498 (by decide) ?_
                  refine lv_goto (tgt := 503) hx hb qd_Model_isFile_499 (by decide) ?_
                  exact qw_Model_isFile_b503 C hA hK ih  u11 x3 (1 : Int32) _ _ _ hF (lv_sub hl [2, 4] rfl) hP hD hS
set_option maxHeartbeats 4000000 in
set_option maxRecDepth 100000 in
theorem qw_Model_isFile_b308 {p : Program} {l : Launch} {e : Env} {s : State} {m : MethodId} {args : Array Value} {below : List Frame} {meth : Method} {c : Code} {A : Nat → Prop} {g : xx_G} {r : Int32} {u9 : qm_S} (C : xx_C p s m args meth c kb_Model_isFile 6 kr_Model (some .boolean)) (hA : ∀ q, s.heap.size ≤ q → A q) (hK : va_K g.1 xx_cls (qm_T g) s) : ∀ (n : Nat), ∀ (u : qm_S) (x2 : Int32) (x3 : Int32) (H : Heap) (locs : List Loc) (ls : Array Slot), qf_Model_isFile_b308 n u x2 x3 = some (r, u9) → lv_has ls 6 [(0, .ref (g.2.1 0)), (2, .int x2), (3, .int x3)] → va_P g.1 xx_cls (qm_W g u) H → va_D A (qm_W g u) → va_S A s.heap H locs → W p l e (xx_rm 3 63) s m args below meth c H locs 0 0 (MQ below (xx_Q g.1 (qm_T g) (qm_W g) (some (.int r)) u9 A) args s 0 0 A) (F0 m 308 ls []) := by
  have hx := C.1
  have hb := C.2.1
  have hown := C.2.2.2.1
  have hts := C.2.2.2.2.1
  intro n
  induction n with
  | zero =>
    intro u x2 x3 H locs ls hF
    rw [qf_Model_isFile_b308] at hF
    cases hF
  | succ n ih =>
    intro u x2 x3 H locs ls hF hl hP hD hS
    rw [qf_Model_isFile_b308] at hF
    refine lv_iload_n hx hb qd_Model_isFile_308 rfl (lv_at hl 2 rfl) ?_
    refine lv_aload_n hx hb qd_Model_isFile_309 rfl (lv_at hl 0 rfl) ?_
    refine xx_get C ki_Model hK hP 0 rfl rfl 24 (by decide) kw_897 rfl rfl qd_Model_isFile_310 ?_
    refine lv_icmp_ge (tgt := 414) hx hb qd_Model_isFile_313 (by decide) (fun hc => ?_) (fun hc => ?_)
    · have hF := xx_ip hc hF
      refine lv_iconst (v := (0 : Int32)) hx hb qd_Model_isFile_414 (by decide) ?_
      obtain ⟨v1, ev1, hF⟩ := xx_nm_some hF
      refine xx_topi ev1 ?_
      refine lv_istore_n hx hb qd_Model_isFile_415 rfl hl (by decide) rfl (fun ls hl => ?_)
      exact qw_Model_isFile_b416 C hA hK xx_fu u x2 v1 _ _ _ hF (lv_sub hl [1, 2, 0] rfl) hP hD hS
    · have hF := xx_in' hc hF
      refine lv_aload_n hx hb qd_Model_isFile_316 rfl (lv_at hl 0 rfl) ?_
      refine lv_iload_n hx hb qd_Model_isFile_317 rfl (lv_at hl 2 rfl) ?_
      obtain ⟨v3, u2, eu2, hF⟩ := xx_b2_some hF
      refine xx_callV (n := 1) (As := [.int x3]) (rest := []) C (qc_Model_exportAt l g u x3 v3 u2 eu2) ⟨kw_1052, kw_1049, kw_1051, ks_Model_exportAt, kw_9⟩ ⟨by decide +kernel, by decide +kernel, by decide +kernel⟩ rfl ⟨Nat.le_of_ble_eq_true rfl, Nat.le_of_ble_eq_true rfl⟩ 0 rfl rfl hl.1 rfl (Nat.le_of_ble_eq_true rfl) hA hK hP hD hS ⟨Nat.le_refl _, Nat.le_refl _⟩ rfl rfl rfl qd_Model_isFile_318 (fun H locs hP hD hS => ?_)
      refine lv_istore hx hb qd_Model_isFile_321 hl (by decide) rfl (fun ls hl => ?_)
      refine lv_iload_n hx hb qd_Model_isFile_323 rfl (lv_at hl 2 rfl) ?_
      refine lv_if_eq (tgt := 362) hx hb qd_Model_isFile_324 (by decide) (fun hc => ?_) (fun hc => ?_)
      · have hF := xx_ip hc hF
        exact qw_Model_isFile_b362 C hA hK ih  u2 x3 v3 _ _ _ hF (lv_sub hl [1, 3, 0] rfl) hP hD hS
      · have hF := xx_in' hc hF
        refine lv_aload_n hx hb qd_Model_isFile_327 rfl (lv_at hl 1 rfl) ?_
        refine lv_iload hx hb qd_Model_isFile_328 (lv_at hl 0 rfl) ?_
        obtain ⟨v5, u4, eu4, hF⟩ := xx_b2_some hF
        refine xx_callV (n := 1) (As := [.int v3]) (rest := []) C (qc_Model_tapeWord l g u2 v3 v5 u4 eu4) ⟨kw_1040, kw_1037, kw_1039, ks_Model_tapeWord, kw_9⟩ ⟨by decide +kernel, by decide +kernel, by decide +kernel⟩ rfl ⟨Nat.le_of_ble_eq_true rfl, Nat.le_of_ble_eq_true rfl⟩ 0 rfl rfl hl.1 rfl (Nat.le_of_ble_eq_true rfl) hA hK hP hD hS ⟨Nat.le_refl _, Nat.le_refl _⟩ rfl rfl rfl qd_Model_isFile_330 (fun H locs hP hD hS => ?_)
        obtain ⟨v7, u6, eu6, hF⟩ := xx_b2_some hF
        refine xx_callS (n := 1) (As := [.int v5]) (rest := []) C (qc_Model_isName l g u4 v5 v7 u6 eu6) ⟨kw_1008, kw_1006, kw_1007, kw_9⟩ ⟨by decide +kernel, by decide +kernel, by decide +kernel⟩ rfl ⟨Nat.le_of_ble_eq_true rfl, Nat.le_of_ble_eq_true rfl⟩ hl.1 rfl (Nat.le_of_ble_eq_true rfl) hA hK hP hD hS ⟨Nat.le_refl _, Nat.le_refl _⟩ rfl rfl rfl qd_Model_isFile_333 (fun H locs hP hD hS => ?_)
        refine lv_if_eq (tgt := 362) hx hb qd_Model_isFile_336 (by decide) (fun hc => ?_) (fun hc => ?_)
        · have hF := xx_ip hc hF
          exact qw_Model_isFile_b362 C hA hK ih  u6 x3 v3 _ _ _ hF (lv_sub hl [1, 3, 0] rfl) hP hD hS
        · have hF := xx_in' hc hF
          refine lv_aload_n hx hb qd_Model_isFile_339 rfl (lv_at hl 1 rfl) ?_
          refine lv_iload hx hb qd_Model_isFile_340 (lv_at hl 0 rfl) ?_
          refine lv_bipush (v := (8 : Int32)) hx hb qd_Model_isFile_342 (by decide) ?_
          refine lv_iadd hx hb qd_Model_isFile_344 ?_
          obtain ⟨v9, u8, eu8, hF⟩ := xx_b2_some hF
          refine xx_callV (n := 1) (As := [.int (v3 + (8 : Int32))]) (rest := []) C (qc_Model_tapeWord l g u6 (v3 + (8 : Int32)) v9 u8 eu8) ⟨kw_1040, kw_1037, kw_1039, ks_Model_tapeWord, kw_9⟩ ⟨by decide +kernel, by decide +kernel, by decide +kernel⟩ rfl ⟨Nat.le_of_ble_eq_true rfl, Nat.le_of_ble_eq_true rfl⟩ 0 rfl rfl hl.1 rfl (Nat.le_of_ble_eq_true rfl) hA hK hP hD hS ⟨Nat.le_refl _, Nat.le_refl _⟩ rfl rfl rfl qd_Model_isFile_345 (fun H locs hP hD hS => ?_)
          refine lv_aload_n hx hb qd_Model_isFile_348 rfl (lv_at hl 1 rfl) ?_
          refine xx_get C ki_Model hK hP 0 rfl rfl 26 (by decide) kw_899 rfl rfl qd_Model_isFile_349 ?_
          obtain ⟨v11, u10, eu10, hF⟩ := xx_b2_some hF
          refine xx_callS (n := 2) (As := [.int v9, .int (u8.1 26)]) (rest := []) C (qc_Model_isOffset l g u8 v9 (u8.1 26) v11 u10 eu10) ⟨kw_1044, kw_1042, kw_1043, kw_9⟩ ⟨by decide +kernel, by decide +kernel, by decide +kernel⟩ rfl ⟨Nat.le_of_ble_eq_true rfl, Nat.le_of_ble_eq_true rfl⟩ hl.1 rfl (Nat.le_of_ble_eq_true rfl) hA hK hP hD hS ⟨Nat.le_refl _, Nat.le_refl _⟩ rfl rfl rfl qd_Model_isFile_352 (fun H locs hP hD hS => ?_)
          refine lv_if_eq (tgt := 362) hx hb qd_Model_isFile_355 (by decide) (fun hc => ?_) (fun hc => ?_)
          · have hF := xx_ip hc hF
            exact qw_Model_isFile_b362 C hA hK ih  u10 x3 v3 _ _ _ hF (lv_sub hl [1, 3, 0] rfl) hP hD hS
          · have hF := xx_in' hc hF
            refine lv_iconst (v := (1 : Int32)) hx hb qd_Model_isFile_358 (by decide) ?_
            refine lv_goto (tgt := 363) hx hb qd_Model_isFile_359 (by decide) ?_
            exact qw_Model_isFile_b363 C hA hK ih  u10 x3 v3 (1 : Int32) _ _ _ hF (lv_sub hl [1, 3, 0] rfl) hP hD hS
set_option maxHeartbeats 4000000 in
set_option maxRecDepth 100000 in
theorem qw_Model_isFile_b267 {p : Program} {l : Launch} {e : Env} {s : State} {m : MethodId} {args : Array Value} {below : List Frame} {meth : Method} {c : Code} {A : Nat → Prop} {g : xx_G} {r : Int32} {u9 : qm_S} (C : xx_C p s m args meth c kb_Model_isFile 6 kr_Model (some .boolean)) (hA : ∀ q, s.heap.size ≤ q → A q) (hK : va_K g.1 xx_cls (qm_T g) s) : ∀ (n : Nat), ∀ (u : qm_S) (x2 : Int32) (x3 : Int32) (H : Heap) (locs : List Loc) (ls : Array Slot), qf_Model_isFile_b267 n u x2 x3 = some (r, u9) → lv_has ls 6 [(0, .ref (g.2.1 0)), (2, .int x2), (3, .int x3)] → va_P g.1 xx_cls (qm_W g u) H → va_D A (qm_W g u) → va_S A s.heap H locs → W p l e (xx_rm 3 63) s m args below meth c H locs 0 0 (MQ below (xx_Q g.1 (qm_T g) (qm_W g) (some (.int r)) u9 A) args s 0 0 A) (F0 m 267 ls []) := by
  have hx := C.1
  have hb := C.2.1
  have hown := C.2.2.2.1
  have hts := C.2.2.2.2.1
  intro n
  induction n with
  | zero =>
    intro u x2 x3 H locs ls hF
    rw [qf_Model_isFile_b267] at hF
    cases hF
  | succ n ih =>
    intro u x2 x3 H locs ls hF hl hP hD hS
    rw [qf_Model_isFile_b267] at hF
    refine lv_iload_n hx hb qd_Model_isFile_267 rfl (lv_at hl 2 rfl) ?_
    refine lv_aload_n hx hb qd_Model_isFile_268 rfl (lv_at hl 0 rfl) ?_
    refine xx_get C ki_Model hK hP 0 rfl rfl 23 (by decide) kw_896 rfl rfl qd_Model_isFile_269 ?_
    refine lv_icmp_ge (tgt := 306) hx hb qd_Model_isFile_272 (by decide) (fun hc => ?_) (fun hc => ?_)
    · have hF := xx_ip hc hF
      refine lv_iconst (v := (0 : Int32)) hx hb qd_Model_isFile_306 (by decide) ?_
      obtain ⟨v1, ev1, hF⟩ := xx_nm_some hF
      refine xx_topi ev1 ?_
      refine lv_istore_n hx hb qd_Model_isFile_307 rfl hl (by decide) rfl (fun ls hl => ?_)
      exact qw_Model_isFile_b308 C hA hK xx_fu u x2 v1 _ _ _ hF (lv_sub hl [1, 2, 0] rfl) hP hD hS
    · have hF := xx_in' hc hF
      refine lv_iload_n hx hb qd_Model_isFile_275 rfl (lv_at hl 1 rfl) ?_
      refine lv_if_eq (tgt := 298) hx hb qd_Model_isFile_276 (by decide) (fun hc => ?_) (fun hc => ?_)
      · have hF := xx_ip hc hF
        exact qw_Model_isFile_b298 C hA hK ih  u x3 _ _ _ hF (lv_sub hl [0, 2] rfl) hP hD hS
      · have hF := xx_in' hc hF
        refine lv_aload_n hx hb qd_Model_isFile_279 rfl (lv_at hl 0 rfl) ?_
        refine lv_aload_n hx hb qd_Model_isFile_280 rfl (lv_at hl 0 rfl) ?_
        refine lv_iload_n hx hb qd_Model_isFile_281 rfl (lv_at hl 2 rfl) ?_
        obtain ⟨v3, u2, eu2, hF⟩ := xx_b2_some hF
        refine xx_callV (n := 1) (As := [.int x3]) (rest := [.ref (g.2.1 0)]) C (qc_Model_importAt l g u x3 v3 u2 eu2) ⟨kw_1056, kw_1053, kw_1055, ks_Model_importAt, kw_9⟩ ⟨by decide +kernel, by decide +kernel, by decide +kernel⟩ rfl ⟨Nat.le_of_ble_eq_true rfl, Nat.le_of_ble_eq_true rfl⟩ 0 rfl rfl hl.1 rfl (Nat.le_of_ble_eq_true rfl) hA hK hP hD hS ⟨Nat.le_refl _, Nat.le_refl _⟩ rfl rfl rfl qd_Model_isFile_282 (fun H locs hP hD hS => ?_)
        obtain ⟨v5, u4, eu4, hF⟩ := xx_b2_some hF
        refine xx_callV (n := 1) (As := [.int v3]) (rest := []) C (qc_Model_tapeWord l g u2 v3 v5 u4 eu4) ⟨kw_1040, kw_1037, kw_1039, ks_Model_tapeWord, kw_9⟩ ⟨by decide +kernel, by decide +kernel, by decide +kernel⟩ rfl ⟨Nat.le_of_ble_eq_true rfl, Nat.le_of_ble_eq_true rfl⟩ 0 rfl rfl hl.1 rfl (Nat.le_of_ble_eq_true rfl) hA hK hP hD hS ⟨Nat.le_refl _, Nat.le_refl _⟩ rfl rfl rfl qd_Model_isFile_285 (fun H locs hP hD hS => ?_)
        obtain ⟨v7, u6, eu6, hF⟩ := xx_b2_some hF
        refine xx_callS (n := 1) (As := [.int v5]) (rest := []) C (qc_Model_isName l g u4 v5 v7 u6 eu6) ⟨kw_1008, kw_1006, kw_1007, kw_9⟩ ⟨by decide +kernel, by decide +kernel, by decide +kernel⟩ rfl ⟨Nat.le_of_ble_eq_true rfl, Nat.le_of_ble_eq_true rfl⟩ hl.1 rfl (Nat.le_of_ble_eq_true rfl) hA hK hP hD hS ⟨Nat.le_refl _, Nat.le_refl _⟩ rfl rfl rfl qd_Model_isFile_288 (fun H locs hP hD hS => ?_)
        refine lv_if_eq (tgt := 298) hx hb qd_Model_isFile_291 (by decide) (fun hc => ?_) (fun hc => ?_)
        · have hF := xx_ip hc hF
          exact qw_Model_isFile_b298 C hA hK ih  u6 x3 _ _ _ hF (lv_sub hl [0, 2] rfl) hP hD hS
        · have hF := xx_in' hc hF
          refine lv_iconst (v := (1 : Int32)) hx hb qd_Model_isFile_294 (by decide) ?_
          refine lv_goto (tgt := 299) hx hb qd_Model_isFile_295 (by decide) ?_
          exact qw_Model_isFile_b299 C hA hK ih  u6 x3 (1 : Int32) _ _ _ hF (lv_sub hl [0, 2] rfl) hP hD hS
set_option maxHeartbeats 4000000 in
set_option maxRecDepth 100000 in
theorem qw_Model_isFile_b246 {p : Program} {l : Launch} {e : Env} {s : State} {m : MethodId} {args : Array Value} {below : List Frame} {meth : Method} {c : Code} {A : Nat → Prop} {g : xx_G} {r : Int32} {u9 : qm_S} (C : xx_C p s m args meth c kb_Model_isFile 6 kr_Model (some .boolean)) (hA : ∀ q, s.heap.size ≤ q → A q) (hK : va_K g.1 xx_cls (qm_T g) s) : ∀ (u : qm_S) (x1 : Int32) (y0 : Int32) (H : Heap) (locs : List Loc) (ls : Array Slot), qf_Model_isFile_b246 u x1 y0 = some (r, u9) → lv_has ls 6 [(0, .ref (g.2.1 0)), (1, .int x1)] → va_P g.1 xx_cls (qm_W g u) H → va_D A (qm_W g u) → va_S A s.heap H locs → W p l e (xx_rm 3 63) s m args below meth c H locs 0 0 (MQ below (xx_Q g.1 (qm_T g) (qm_W g) (some (.int r)) u9 A) args s 0 0 A) (F0 m 246 ls [.int y0]) := by
  have hx := C.1
  have hb := C.2.1
  have hown := C.2.2.2.1
  have hts := C.2.2.2.2.1
  intro u x1 y0 H locs ls hF hl hP hD hS
  unfold qf_Model_isFile_b246 at hF
  refine lv_istore_n hx hb qd_Model_isFile_246 rfl hl (by decide) rfl (fun ls hl => ?_)
  refine lv_iload_n hx hb qd_Model_isFile_247 rfl (lv_at hl 0 rfl) ?_
  refine lv_if_eq (tgt := 263) hx hb qd_Model_isFile_248 (by decide) (fun hc => ?_) (fun hc => ?_)
  · have hF := xx_ip hc hF
    exact qw_Model_isFile_b263 C hA hK  u _ _ _ hF (lv_sub hl [] rfl) hP hD hS
  · have hF := xx_in' hc hF
    refine lv_iload_n hx hb qd_Model_isFile_251 rfl (lv_at hl 2 rfl) ?_
    refine lv_aload_n hx hb qd_Model_isFile_252 rfl (lv_at hl 1 rfl) ?_
    refine lv_aload_n hx hb qd_Model_isFile_253 rfl (lv_at hl 1 rfl) ?_
    refine xx_get C ki_Model hK hP 0 rfl rfl 25 (by decide) kw_898 rfl rfl qd_Model_isFile_254 ?_
    obtain ⟨v2, u1, eu1, hF⟩ := xx_b2_some hF
    refine xx_callV (n := 1) (As := [.int (u.1 25)]) (rest := [.int x1]) C (qc_Model_placeAt l g u (u.1 25) v2 u1 eu1) ⟨kw_1048, kw_1045, kw_1047, ks_Model_placeAt, kw_9⟩ ⟨by decide +kernel, by decide +kernel, by decide +kernel⟩ rfl ⟨Nat.le_of_ble_eq_true rfl, Nat.le_of_ble_eq_true rfl⟩ 0 rfl rfl hl.1 rfl (Nat.le_of_ble_eq_true rfl) hA hK hP hD hS ⟨Nat.le_refl _, Nat.le_refl _⟩ rfl rfl rfl qd_Model_isFile_257 (fun H locs hP hD hS => ?_)
    refine lv_icmp_eq (tgt := 265) hx hb qd_Model_isFile_260 (by decide) (fun hc => ?_) (fun hc => ?_)
    · have hF := xx_ip hc hF
      refine lv_iconst (v := (0 : Int32)) hx hb qd_Model_isFile_265 (by decide) ?_
      obtain ⟨v3, ev3, hF⟩ := xx_nm_some hF
      refine xx_topi ev3 ?_
      refine lv_istore_n hx hb qd_Model_isFile_266 rfl hl (by decide) rfl (fun ls hl => ?_)
      exact qw_Model_isFile_b267 C hA hK xx_fu u1 y0 v3 _ _ _ hF (lv_sub hl [2, 1, 0] rfl) hP hD hS
    · have hF := xx_in' hc hF
      exact qw_Model_isFile_b263 C hA hK  u1 _ _ _ hF (lv_sub hl [] rfl) hP hD hS
set_option maxHeartbeats 4000000 in
set_option maxRecDepth 100000 in
theorem qw_Model_isFile_b241 {p : Program} {l : Launch} {e : Env} {s : State} {m : MethodId} {args : Array Value} {below : List Frame} {meth : Method} {c : Code} {A : Nat → Prop} {g : xx_G} {r : Int32} {u9 : qm_S} (C : xx_C p s m args meth c kb_Model_isFile 6 kr_Model (some .boolean)) (hA : ∀ q, s.heap.size ≤ q → A q) (hK : va_K g.1 xx_cls (qm_T g) s) : ∀ (u : qm_S) (x1 : Int32) (H : Heap) (locs : List Loc) (ls : Array Slot), qf_Model_isFile_b241 u x1 = some (r, u9) → lv_has ls 6 [(0, .ref (g.2.1 0)), (1, .int x1)] → va_P g.1 xx_cls (qm_W g u) H → va_D A (qm_W g u) → va_S A s.heap H locs → W p l e (xx_rm 3 63) s m args below meth c H locs 0 0 (MQ below (xx_Q g.1 (qm_T g) (qm_W g) (some (.int r)) u9 A) args s 0 0 A) (F0 m 241 ls []) := by
  have hx := C.1
  have hb := C.2.1
  have hown := C.2.2.2.1
  have hts := C.2.2.2.2.1
  intro u x1 H locs ls hF hl hP hD hS
  unfold qf_Model_isFile_b241 at hF
  refine lv_iconst (v := (1 : Int32)) hx hb qd_Model_isFile_241 (by decide) ?_
  refine lv_goto (tgt := 246) hx hb qd_Model_isFile_242 (by decide) ?_
  exact qw_Model_isFile_b246 C hA hK  u x1 (1 : Int32) _ _ _ hF (lv_sub hl [0, 1] rfl) hP hD hS
set_option maxHeartbeats 4000000 in
set_option maxRecDepth 100000 in
theorem qw_Model_isFile_b245 {p : Program} {l : Launch} {e : Env} {s : State} {m : MethodId} {args : Array Value} {below : List Frame} {meth : Method} {c : Code} {A : Nat → Prop} {g : xx_G} {r : Int32} {u9 : qm_S} (C : xx_C p s m args meth c kb_Model_isFile 6 kr_Model (some .boolean)) (hA : ∀ q, s.heap.size ≤ q → A q) (hK : va_K g.1 xx_cls (qm_T g) s) : ∀ (u : qm_S) (x1 : Int32) (H : Heap) (locs : List Loc) (ls : Array Slot), qf_Model_isFile_b245 u x1 = some (r, u9) → lv_has ls 6 [(0, .ref (g.2.1 0)), (1, .int x1)] → va_P g.1 xx_cls (qm_W g u) H → va_D A (qm_W g u) → va_S A s.heap H locs → W p l e (xx_rm 3 63) s m args below meth c H locs 0 0 (MQ below (xx_Q g.1 (qm_T g) (qm_W g) (some (.int r)) u9 A) args s 0 0 A) (F0 m 245 ls []) := by
  have hx := C.1
  have hb := C.2.1
  have hown := C.2.2.2.1
  have hts := C.2.2.2.2.1
  intro u x1 H locs ls hF hl hP hD hS
  unfold qf_Model_isFile_b245 at hF
  refine lv_iconst (v := (0 : Int32)) hx hb qd_Model_isFile_245 (by decide) ?_
  exact qw_Model_isFile_b246 C hA hK  u x1 (0 : Int32) _ _ _ hF (lv_sub hl [0, 1] rfl) hP hD hS
set_option maxHeartbeats 4000000 in
set_option maxRecDepth 100000 in
theorem qw_Model_isFile_b216 {p : Program} {l : Launch} {e : Env} {s : State} {m : MethodId} {args : Array Value} {below : List Frame} {meth : Method} {c : Code} {A : Nat → Prop} {g : xx_G} {r : Int32} {u9 : qm_S} (C : xx_C p s m args meth c kb_Model_isFile 6 kr_Model (some .boolean)) (hA : ∀ q, s.heap.size ≤ q → A q) (hK : va_K g.1 xx_cls (qm_T g) s) : ∀ (u : qm_S) (x1 : Int32) (H : Heap) (locs : List Loc) (ls : Array Slot), qf_Model_isFile_b216 u x1 = some (r, u9) → lv_has ls 6 [(0, .ref (g.2.1 0)), (1, .int x1)] → va_P g.1 xx_cls (qm_W g u) H → va_D A (qm_W g u) → va_S A s.heap H locs → W p l e (xx_rm 3 63) s m args below meth c H locs 0 0 (MQ below (xx_Q g.1 (qm_T g) (qm_W g) (some (.int r)) u9 A) args s 0 0 A) (F0 m 216 ls []) := by
  have hx := C.1
  have hb := C.2.1
  have hown := C.2.2.2.1
  have hts := C.2.2.2.2.1
  intro u x1 H locs ls hF hl hP hD hS
  unfold qf_Model_isFile_b216 at hF
  refine lv_aload_n hx hb qd_Model_isFile_216 rfl (lv_at hl 0 rfl) ?_
  refine xx_get C ki_Model hK hP 0 rfl rfl 29 (by decide) kw_902 rfl rfl qd_Model_isFile_217 ?_
  refine lv_aload_n hx hb qd_Model_isFile_220 rfl (lv_at hl 0 rfl) ?_
  refine xx_get C ki_Model hK hP 0 rfl rfl 26 (by decide) kw_899 rfl rfl qd_Model_isFile_221 ?_
  refine lv_icmp_eq (tgt := 241) hx hb qd_Model_isFile_224 (by decide) (fun hc => ?_) (fun hc => ?_)
  · have hF := xx_ip hc hF
    exact qw_Model_isFile_b241 C hA hK  u x1 _ _ _ hF (lv_sub hl [0, 1] rfl) hP hD hS
  · have hF := xx_in' hc hF
    refine lv_aload_n hx hb qd_Model_isFile_227 rfl (lv_at hl 0 rfl) ?_
    refine xx_get C ki_Model hK hP 0 rfl rfl 29 (by decide) kw_902 rfl rfl qd_Model_isFile_228 ?_
    refine lv_aload_n hx hb qd_Model_isFile_231 rfl (lv_at hl 0 rfl) ?_
    refine xx_get C ki_Model hK hP 0 rfl rfl 26 (by decide) kw_899 rfl rfl qd_Model_isFile_232 ?_
    obtain ⟨v2, u1, eu1, hF⟩ := xx_b2_some hF
    refine xx_callS (n := 2) (As := [.int (u.1 29), .int (u.1 26)]) (rest := []) C (qc_Model_isOffset l g u (u.1 29) (u.1 26) v2 u1 eu1) ⟨kw_1044, kw_1042, kw_1043, kw_9⟩ ⟨by decide +kernel, by decide +kernel, by decide +kernel⟩ rfl ⟨Nat.le_of_ble_eq_true rfl, Nat.le_of_ble_eq_true rfl⟩ hl.1 rfl (Nat.le_of_ble_eq_true rfl) hA hK hP hD hS ⟨Nat.le_refl _, Nat.le_refl _⟩ rfl rfl rfl qd_Model_isFile_235 (fun H locs hP hD hS => ?_)
    refine lv_if_eq (tgt := 245) hx hb qd_Model_isFile_238 (by decide) (fun hc => ?_) (fun hc => ?_)
    · have hF := xx_ip hc hF
      exact qw_Model_isFile_b245 C hA hK  u1 x1 _ _ _ hF (lv_sub hl [0, 1] rfl) hP hD hS
    · have hF := xx_in' hc hF
      exact qw_Model_isFile_b241 C hA hK  u1 x1 _ _ _ hF (lv_sub hl [0, 1] rfl) hP hD hS
set_option maxHeartbeats 4000000 in
set_option maxRecDepth 100000 in
theorem qw_Model_isFile_b194 {p : Program} {l : Launch} {e : Env} {s : State} {m : MethodId} {args : Array Value} {below : List Frame} {meth : Method} {c : Code} {A : Nat → Prop} {g : xx_G} {r : Int32} {u9 : qm_S} (C : xx_C p s m args meth c kb_Model_isFile 6 kr_Model (some .boolean)) (hA : ∀ q, s.heap.size ≤ q → A q) (hK : va_K g.1 xx_cls (qm_T g) s) : ∀ (u : qm_S) (x1 : Int32) (H : Heap) (locs : List Loc) (ls : Array Slot), qf_Model_isFile_b194 u x1 = some (r, u9) → lv_has ls 6 [(0, .ref (g.2.1 0)), (1, .int x1)] → va_P g.1 xx_cls (qm_W g u) H → va_D A (qm_W g u) → va_S A s.heap H locs → W p l e (xx_rm 3 63) s m args below meth c H locs 0 0 (MQ below (xx_Q g.1 (qm_T g) (qm_W g) (some (.int r)) u9 A) args s 0 0 A) (F0 m 194 ls []) := by
  have hx := C.1
  have hb := C.2.1
  have hown := C.2.2.2.1
  have hts := C.2.2.2.2.1
  intro u x1 H locs ls hF hl hP hD hS
  unfold qf_Model_isFile_b194 at hF
  refine lv_aload_n hx hb qd_Model_isFile_194 rfl (lv_at hl 0 rfl) ?_
  refine xx_get C ki_Model hK hP 0 rfl rfl 28 (by decide) kw_901 rfl rfl qd_Model_isFile_195 ?_
  refine lv_iconst (v := (-1 : Int32)) hx hb qd_Model_isFile_198 (by decide) ?_
  refine lv_icmp_eq (tgt := 216) hx hb qd_Model_isFile_199 (by decide) (fun hc => ?_) (fun hc => ?_)
  · have hF := xx_ip hc hF
    exact qw_Model_isFile_b216 C hA hK  u x1 _ _ _ hF (lv_sub hl [0, 1] rfl) hP hD hS
  · have hF := xx_in' hc hF
    refine lv_aload_n hx hb qd_Model_isFile_202 rfl (lv_at hl 0 rfl) ?_
    refine xx_get C ki_Model hK hP 0 rfl rfl 28 (by decide) kw_901 rfl rfl qd_Model_isFile_203 ?_
    refine lv_aload_n hx hb qd_Model_isFile_206 rfl (lv_at hl 0 rfl) ?_
    refine xx_get C ki_Model hK hP 0 rfl rfl 26 (by decide) kw_899 rfl rfl qd_Model_isFile_207 ?_
    obtain ⟨v2, u1, eu1, hF⟩ := xx_b2_some hF
    refine xx_callS (n := 2) (As := [.int (u.1 28), .int (u.1 26)]) (rest := []) C (qc_Model_isOffset l g u (u.1 28) (u.1 26) v2 u1 eu1) ⟨kw_1044, kw_1042, kw_1043, kw_9⟩ ⟨by decide +kernel, by decide +kernel, by decide +kernel⟩ rfl ⟨Nat.le_of_ble_eq_true rfl, Nat.le_of_ble_eq_true rfl⟩ hl.1 rfl (Nat.le_of_ble_eq_true rfl) hA hK hP hD hS ⟨Nat.le_refl _, Nat.le_refl _⟩ rfl rfl rfl qd_Model_isFile_210 (fun H locs hP hD hS => ?_)
    refine lv_if_eq (tgt := 245) hx hb qd_Model_isFile_213 (by decide) (fun hc => ?_) (fun hc => ?_)
    · have hF := xx_ip hc hF
      exact qw_Model_isFile_b245 C hA hK  u1 x1 _ _ _ hF (lv_sub hl [0, 1] rfl) hP hD hS
    · have hF := xx_in' hc hF
      exact qw_Model_isFile_b216 C hA hK  u1 x1 _ _ _ hF (lv_sub hl [0, 1] rfl) hP hD hS
set_option maxHeartbeats 4000000 in
set_option maxRecDepth 100000 in
theorem qw_Model_isFile_b167 {p : Program} {l : Launch} {e : Env} {s : State} {m : MethodId} {args : Array Value} {below : List Frame} {meth : Method} {c : Code} {A : Nat → Prop} {g : xx_G} {r : Int32} {u9 : qm_S} (C : xx_C p s m args meth c kb_Model_isFile 6 kr_Model (some .boolean)) (hA : ∀ q, s.heap.size ≤ q → A q) (hK : va_K g.1 xx_cls (qm_T g) s) : ∀ (u : qm_S) (x1 : Int32) (y0 : Int32) (H : Heap) (locs : List Loc) (ls : Array Slot), qf_Model_isFile_b167 u x1 y0 = some (r, u9) → lv_has ls 6 [(0, .ref (g.2.1 0)), (1, .int x1)] → va_P g.1 xx_cls (qm_W g u) H → va_D A (qm_W g u) → va_S A s.heap H locs → W p l e (xx_rm 3 63) s m args below meth c H locs 0 0 (MQ below (xx_Q g.1 (qm_T g) (qm_W g) (some (.int r)) u9 A) args s 0 0 A) (F0 m 167 ls [.int y0]) := by
  have hx := C.1
  have hb := C.2.1
  have hown := C.2.2.2.1
  have hts := C.2.2.2.2.1
  intro u x1 y0 H locs ls hF hl hP hD hS
  unfold qf_Model_isFile_b167 at hF
  refine lv_istore_n hx hb qd_Model_isFile_167 rfl hl (by decide) rfl (fun ls hl => ?_)
  refine lv_iload_n hx hb qd_Model_isFile_168 rfl (lv_at hl 0 rfl) ?_
  refine lv_if_eq (tgt := 245) hx hb qd_Model_isFile_169 (by decide) (fun hc => ?_) (fun hc => ?_)
  · have hF := xx_ip hc hF
    exact qw_Model_isFile_b245 C hA hK  u x1 _ _ _ hF (lv_sub hl [1, 2] rfl) hP hD hS
  · have hF := xx_in' hc hF
    refine lv_aload_n hx hb qd_Model_isFile_172 rfl (lv_at hl 1 rfl) ?_
    refine xx_get C ki_Model hK hP 0 rfl rfl 27 (by decide) kw_900 rfl rfl qd_Model_isFile_173 ?_
    refine lv_iconst (v := (-1 : Int32)) hx hb qd_Model_isFile_176 (by decide) ?_
    refine lv_icmp_eq (tgt := 194) hx hb qd_Model_isFile_177 (by decide) (fun hc => ?_) (fun hc => ?_)
    · have hF := xx_ip hc hF
      exact qw_Model_isFile_b194 C hA hK  u x1 _ _ _ hF (lv_sub hl [1, 2] rfl) hP hD hS
    · have hF := xx_in' hc hF
      refine lv_aload_n hx hb qd_Model_isFile_180 rfl (lv_at hl 1 rfl) ?_
      refine xx_get C ki_Model hK hP 0 rfl rfl 27 (by decide) kw_900 rfl rfl qd_Model_isFile_181 ?_
      refine lv_aload_n hx hb qd_Model_isFile_184 rfl (lv_at hl 1 rfl) ?_
      refine xx_get C ki_Model hK hP 0 rfl rfl 26 (by decide) kw_899 rfl rfl qd_Model_isFile_185 ?_
      obtain ⟨v2, u1, eu1, hF⟩ := xx_b2_some hF
      refine xx_callS (n := 2) (As := [.int (u.1 27), .int (u.1 26)]) (rest := []) C (qc_Model_isOffset l g u (u.1 27) (u.1 26) v2 u1 eu1) ⟨kw_1044, kw_1042, kw_1043, kw_9⟩ ⟨by decide +kernel, by decide +kernel, by decide +kernel⟩ rfl ⟨Nat.le_of_ble_eq_true rfl, Nat.le_of_ble_eq_true rfl⟩ hl.1 rfl (Nat.le_of_ble_eq_true rfl) hA hK hP hD hS ⟨Nat.le_refl _, Nat.le_refl _⟩ rfl rfl rfl qd_Model_isFile_188 (fun H locs hP hD hS => ?_)
      refine lv_if_eq (tgt := 245) hx hb qd_Model_isFile_191 (by decide) (fun hc => ?_) (fun hc => ?_)
      · have hF := xx_ip hc hF
        exact qw_Model_isFile_b245 C hA hK  u1 x1 _ _ _ hF (lv_sub hl [1, 2] rfl) hP hD hS
      · have hF := xx_in' hc hF
        exact qw_Model_isFile_b194 C hA hK  u1 x1 _ _ _ hF (lv_sub hl [1, 2] rfl) hP hD hS
set_option maxHeartbeats 4000000 in
set_option maxRecDepth 100000 in
theorem qw_Model_isFile_b166 {p : Program} {l : Launch} {e : Env} {s : State} {m : MethodId} {args : Array Value} {below : List Frame} {meth : Method} {c : Code} {A : Nat → Prop} {g : xx_G} {r : Int32} {u9 : qm_S} (C : xx_C p s m args meth c kb_Model_isFile 6 kr_Model (some .boolean)) (hA : ∀ q, s.heap.size ≤ q → A q) (hK : va_K g.1 xx_cls (qm_T g) s) : ∀ (u : qm_S) (x1 : Int32) (H : Heap) (locs : List Loc) (ls : Array Slot), qf_Model_isFile_b166 u x1 = some (r, u9) → lv_has ls 6 [(0, .ref (g.2.1 0)), (1, .int x1)] → va_P g.1 xx_cls (qm_W g u) H → va_D A (qm_W g u) → va_S A s.heap H locs → W p l e (xx_rm 3 63) s m args below meth c H locs 0 0 (MQ below (xx_Q g.1 (qm_T g) (qm_W g) (some (.int r)) u9 A) args s 0 0 A) (F0 m 166 ls []) := by
  have hx := C.1
  have hb := C.2.1
  have hown := C.2.2.2.1
  have hts := C.2.2.2.2.1
  intro u x1 H locs ls hF hl hP hD hS
  unfold qf_Model_isFile_b166 at hF
  refine lv_iconst (v := (0 : Int32)) hx hb qd_Model_isFile_166 (by decide) ?_
  exact qw_Model_isFile_b167 C hA hK  u x1 (0 : Int32) _ _ _ hF (lv_sub hl [0, 1] rfl) hP hD hS
set_option maxHeartbeats 4000000 in
set_option maxRecDepth 100000 in
theorem qc_Model_isFile (l : Launch) (g : xx_G) (u : qm_S) (x1 : Int32) (r : Int32) (u9 : qm_S) (hF : qf_Model_isFile u x1 = some (r, u9)) : xx_M l g.1 (qm_T g) (qm_W g) ky_Model_isFile kb_Model_isFile 6 (some .boolean) (xx_rm 3 63) [.ref (g.2.1 0), .int x1] u (some (.int r)) u9 := by
  refine xx_body (by decide) (Nat.le_of_ble_eq_true rfl) ?_
  intro p e s m args below meth c A ls C hin hK hl hA hP hD hS
  have hx := C.1
  have hb := C.2.1
  have hown := C.2.2.2.1
  have hts := C.2.2.2.2.1
  have hl : lv_has ls 6 [(0, .ref (g.2.1 0)), (1, .int x1)] := hl
  unfold qf_Model_isFile at hF
  refine lv_iload_n hx hb qd_Model_isFile_0 rfl (lv_at hl 1 rfl) ?_
  refine lv_bipush (v := (32 : Int32)) hx hb qd_Model_isFile_1 (by decide) ?_
  refine lv_icmp_lt (tgt := 16) hx hb qd_Model_isFile_3 (by decide) (fun hc => ?_) (fun hc => ?_)
  · have hF := xx_ip hc hF
    exact qw_Model_isFile_b16 C hA hK  u _ _ _ hF (lv_sub hl [] rfl) hP hD hS
  · have hF := xx_in' hc hF
    refine lv_aload_n hx hb qd_Model_isFile_6 rfl (lv_at hl 0 rfl) ?_
    refine lv_iconst (v := (0 : Int32)) hx hb qd_Model_isFile_7 (by decide) ?_
    obtain ⟨v2, u1, eu1, hF⟩ := xx_b2_some hF
    refine xx_callV (n := 1) (As := [.int (0 : Int32)]) (rest := []) C (qc_Model_tapeWord l g u (0 : Int32) v2 u1 eu1) ⟨kw_1040, kw_1037, kw_1039, ks_Model_tapeWord, kw_9⟩ ⟨by decide +kernel, by decide +kernel, by decide +kernel⟩ rfl ⟨Nat.le_of_ble_eq_true rfl, Nat.le_of_ble_eq_true rfl⟩ 0 rfl rfl hl.1 rfl (Nat.le_of_ble_eq_true rfl) hA hK hP hD hS ⟨Nat.le_refl _, Nat.le_refl _⟩ rfl rfl rfl qd_Model_isFile_8 (fun H locs hP hD hS => ?_)
    refine lv_ldc (v := (1297040469 : Int32)) hx hb hown (hts _ kw_1041) qd_Model_isFile_11 ?_
    refine lv_icmp_eq (tgt := 18) hx hb qd_Model_isFile_13 (by decide) (fun hc => ?_) (fun hc => ?_)
    · have hF := xx_ip hc hF
      refine lv_aload_n hx hb qd_Model_isFile_18 rfl (lv_at hl 0 rfl) ?_
      refine lv_aload_n hx hb qd_Model_isFile_19 rfl (lv_at hl 0 rfl) ?_
      refine lv_iconst (v := (4 : Int32)) hx hb qd_Model_isFile_20 (by decide) ?_
      obtain ⟨v4, u3, eu3, hF⟩ := xx_b2_some hF
      refine xx_callV (n := 1) (As := [.int (4 : Int32)]) (rest := [.ref (g.2.1 0)]) C (qc_Model_tapeWord l g u1 (4 : Int32) v4 u3 eu3) ⟨kw_1040, kw_1037, kw_1039, ks_Model_tapeWord, kw_9⟩ ⟨by decide +kernel, by decide +kernel, by decide +kernel⟩ rfl ⟨Nat.le_of_ble_eq_true rfl, Nat.le_of_ble_eq_true rfl⟩ 0 rfl rfl hl.1 rfl (Nat.le_of_ble_eq_true rfl) hA hK hP hD hS ⟨Nat.le_refl _, Nat.le_refl _⟩ rfl rfl rfl qd_Model_isFile_21 (fun H locs hP hD hS => ?_)
      obtain ⟨u5, eu5, hF⟩ := xx_nm_some hF
      refine xx_put (ws1 := qm_W g u5) C ki_Model kt_Model ko_Model kn_Model hK hP hD hS 0 rfl rfl 26 (by decide) kw_899 rfl rfl rfl rfl (Nat.le_of_ble_eq_true rfl) (by rw [eu5]; rfl) qd_Model_isFile_24 (fun H locs hP hD hS => ?_)
      refine lv_aload_n hx hb qd_Model_isFile_27 rfl (lv_at hl 0 rfl) ?_
      refine lv_aload_n hx hb qd_Model_isFile_28 rfl (lv_at hl 0 rfl) ?_
      refine lv_bipush (v := (8 : Int32)) hx hb qd_Model_isFile_29 (by decide) ?_
      obtain ⟨v7, u6, eu6, hF⟩ := xx_b2_some hF
      refine xx_callV (n := 1) (As := [.int (8 : Int32)]) (rest := [.ref (g.2.1 0)]) C (qc_Model_tapeWord l g u5 (8 : Int32) v7 u6 eu6) ⟨kw_1040, kw_1037, kw_1039, ks_Model_tapeWord, kw_9⟩ ⟨by decide +kernel, by decide +kernel, by decide +kernel⟩ rfl ⟨Nat.le_of_ble_eq_true rfl, Nat.le_of_ble_eq_true rfl⟩ 0 rfl rfl hl.1 rfl (Nat.le_of_ble_eq_true rfl) hA hK hP hD hS ⟨Nat.le_refl _, Nat.le_refl _⟩ rfl rfl rfl qd_Model_isFile_31 (fun H locs hP hD hS => ?_)
      obtain ⟨u8, eu8, hF⟩ := xx_nm_some hF
      refine xx_put (ws1 := qm_W g u8) C ki_Model kt_Model ko_Model kn_Model hK hP hD hS 0 rfl rfl 23 (by decide) kw_896 rfl rfl rfl rfl (Nat.le_of_ble_eq_true rfl) (by rw [eu8]; rfl) qd_Model_isFile_34 (fun H locs hP hD hS => ?_)
      refine lv_aload_n hx hb qd_Model_isFile_37 rfl (lv_at hl 0 rfl) ?_
      refine lv_aload_n hx hb qd_Model_isFile_38 rfl (lv_at hl 0 rfl) ?_
      refine lv_bipush (v := (12 : Int32)) hx hb qd_Model_isFile_39 (by decide) ?_
      obtain ⟨v10, u9, eu9, hF⟩ := xx_b2_some hF
      refine xx_callV (n := 1) (As := [.int (12 : Int32)]) (rest := [.ref (g.2.1 0)]) C (qc_Model_tapeWord l g u8 (12 : Int32) v10 u9 eu9) ⟨kw_1040, kw_1037, kw_1039, ks_Model_tapeWord, kw_9⟩ ⟨by decide +kernel, by decide +kernel, by decide +kernel⟩ rfl ⟨Nat.le_of_ble_eq_true rfl, Nat.le_of_ble_eq_true rfl⟩ 0 rfl rfl hl.1 rfl (Nat.le_of_ble_eq_true rfl) hA hK hP hD hS ⟨Nat.le_refl _, Nat.le_refl _⟩ rfl rfl rfl qd_Model_isFile_41 (fun H locs hP hD hS => ?_)
      obtain ⟨u11, eu11, hF⟩ := xx_nm_some hF
      refine xx_put (ws1 := qm_W g u11) C ki_Model kt_Model ko_Model kn_Model hK hP hD hS 0 rfl rfl 24 (by decide) kw_897 rfl rfl rfl rfl (Nat.le_of_ble_eq_true rfl) (by rw [eu11]; rfl) qd_Model_isFile_44 (fun H locs hP hD hS => ?_)
      refine lv_aload_n hx hb qd_Model_isFile_47 rfl (lv_at hl 0 rfl) ?_
      refine lv_aload_n hx hb qd_Model_isFile_48 rfl (lv_at hl 0 rfl) ?_
      refine lv_bipush (v := (16 : Int32)) hx hb qd_Model_isFile_49 (by decide) ?_
      obtain ⟨v13, u12, eu12, hF⟩ := xx_b2_some hF
      refine xx_callV (n := 1) (As := [.int (16 : Int32)]) (rest := [.ref (g.2.1 0)]) C (qc_Model_tapeWord l g u11 (16 : Int32) v13 u12 eu12) ⟨kw_1040, kw_1037, kw_1039, ks_Model_tapeWord, kw_9⟩ ⟨by decide +kernel, by decide +kernel, by decide +kernel⟩ rfl ⟨Nat.le_of_ble_eq_true rfl, Nat.le_of_ble_eq_true rfl⟩ 0 rfl rfl hl.1 rfl (Nat.le_of_ble_eq_true rfl) hA hK hP hD hS ⟨Nat.le_refl _, Nat.le_refl _⟩ rfl rfl rfl qd_Model_isFile_51 (fun H locs hP hD hS => ?_)
      obtain ⟨u14, eu14, hF⟩ := xx_nm_some hF
      refine xx_put (ws1 := qm_W g u14) C ki_Model kt_Model ko_Model kn_Model hK hP hD hS 0 rfl rfl 25 (by decide) kw_898 rfl rfl rfl rfl (Nat.le_of_ble_eq_true rfl) (by rw [eu14]; rfl) qd_Model_isFile_54 (fun H locs hP hD hS => ?_)
      refine lv_aload_n hx hb qd_Model_isFile_57 rfl (lv_at hl 0 rfl) ?_
      refine lv_aload_n hx hb qd_Model_isFile_58 rfl (lv_at hl 0 rfl) ?_
      refine lv_bipush (v := (20 : Int32)) hx hb qd_Model_isFile_59 (by decide) ?_
      obtain ⟨v16, u15, eu15, hF⟩ := xx_b2_some hF
      refine xx_callV (n := 1) (As := [.int (20 : Int32)]) (rest := [.ref (g.2.1 0)]) C (qc_Model_tapeWord l g u14 (20 : Int32) v16 u15 eu15) ⟨kw_1040, kw_1037, kw_1039, ks_Model_tapeWord, kw_9⟩ ⟨by decide +kernel, by decide +kernel, by decide +kernel⟩ rfl ⟨Nat.le_of_ble_eq_true rfl, Nat.le_of_ble_eq_true rfl⟩ 0 rfl rfl hl.1 rfl (Nat.le_of_ble_eq_true rfl) hA hK hP hD hS ⟨Nat.le_refl _, Nat.le_refl _⟩ rfl rfl rfl qd_Model_isFile_61 (fun H locs hP hD hS => ?_)
      obtain ⟨u17, eu17, hF⟩ := xx_nm_some hF
      refine xx_put (ws1 := qm_W g u17) C ki_Model kt_Model ko_Model kn_Model hK hP hD hS 0 rfl rfl 27 (by decide) kw_900 rfl rfl rfl rfl (Nat.le_of_ble_eq_true rfl) (by rw [eu17]; rfl) qd_Model_isFile_64 (fun H locs hP hD hS => ?_)
      refine lv_aload_n hx hb qd_Model_isFile_67 rfl (lv_at hl 0 rfl) ?_
      refine lv_aload_n hx hb qd_Model_isFile_68 rfl (lv_at hl 0 rfl) ?_
      refine lv_bipush (v := (24 : Int32)) hx hb qd_Model_isFile_69 (by decide) ?_
      obtain ⟨v19, u18, eu18, hF⟩ := xx_b2_some hF
      refine xx_callV (n := 1) (As := [.int (24 : Int32)]) (rest := [.ref (g.2.1 0)]) C (qc_Model_tapeWord l g u17 (24 : Int32) v19 u18 eu18) ⟨kw_1040, kw_1037, kw_1039, ks_Model_tapeWord, kw_9⟩ ⟨by decide +kernel, by decide +kernel, by decide +kernel⟩ rfl ⟨Nat.le_of_ble_eq_true rfl, Nat.le_of_ble_eq_true rfl⟩ 0 rfl rfl hl.1 rfl (Nat.le_of_ble_eq_true rfl) hA hK hP hD hS ⟨Nat.le_refl _, Nat.le_refl _⟩ rfl rfl rfl qd_Model_isFile_71 (fun H locs hP hD hS => ?_)
      obtain ⟨u20, eu20, hF⟩ := xx_nm_some hF
      refine xx_put (ws1 := qm_W g u20) C ki_Model kt_Model ko_Model kn_Model hK hP hD hS 0 rfl rfl 28 (by decide) kw_901 rfl rfl rfl rfl (Nat.le_of_ble_eq_true rfl) (by rw [eu20]; rfl) qd_Model_isFile_74 (fun H locs hP hD hS => ?_)
      refine lv_aload_n hx hb qd_Model_isFile_77 rfl (lv_at hl 0 rfl) ?_
      refine lv_aload_n hx hb qd_Model_isFile_78 rfl (lv_at hl 0 rfl) ?_
      refine lv_bipush (v := (28 : Int32)) hx hb qd_Model_isFile_79 (by decide) ?_
      obtain ⟨v22, u21, eu21, hF⟩ := xx_b2_some hF
      refine xx_callV (n := 1) (As := [.int (28 : Int32)]) (rest := [.ref (g.2.1 0)]) C (qc_Model_tapeWord l g u20 (28 : Int32) v22 u21 eu21) ⟨kw_1040, kw_1037, kw_1039, ks_Model_tapeWord, kw_9⟩ ⟨by decide +kernel, by decide +kernel, by decide +kernel⟩ rfl ⟨Nat.le_of_ble_eq_true rfl, Nat.le_of_ble_eq_true rfl⟩ 0 rfl rfl hl.1 rfl (Nat.le_of_ble_eq_true rfl) hA hK hP hD hS ⟨Nat.le_refl _, Nat.le_refl _⟩ rfl rfl rfl qd_Model_isFile_81 (fun H locs hP hD hS => ?_)
      obtain ⟨u23, eu23, hF⟩ := xx_nm_some hF
      refine xx_put (ws1 := qm_W g u23) C ki_Model kt_Model ko_Model kn_Model hK hP hD hS 0 rfl rfl 29 (by decide) kw_902 rfl rfl rfl rfl (Nat.le_of_ble_eq_true rfl) (by rw [eu23]; rfl) qd_Model_isFile_84 (fun H locs hP hD hS => ?_)
      refine lv_aload_n hx hb qd_Model_isFile_87 rfl (lv_at hl 0 rfl) ?_
      refine xx_get C ki_Model hK hP 0 rfl rfl 26 (by decide) kw_899 rfl rfl qd_Model_isFile_88 ?_
      refine lv_iconst (v := (4 : Int32)) hx hb qd_Model_isFile_91 (by decide) ?_
      refine lv_icmp_lt (tgt := 166) hx hb qd_Model_isFile_92 (by decide) (fun hc => ?_) (fun hc => ?_)
      · have hF := xx_ip hc hF
        exact qw_Model_isFile_b166 C hA hK  u23 x1 _ _ _ hF (lv_sub hl [0, 1] rfl) hP hD hS
      · have hF := xx_in' hc hF
        refine lv_aload_n hx hb qd_Model_isFile_95 rfl (lv_at hl 0 rfl) ?_
        refine xx_get C ki_Model hK hP 0 rfl rfl 26 (by decide) kw_899 rfl rfl qd_Model_isFile_96 ?_
        refine lv_sipush (v := (512 : Int32)) hx hb qd_Model_isFile_99 (by decide) ?_
        refine lv_icmp_gt (tgt := 166) hx hb qd_Model_isFile_102 (by decide) (fun hc => ?_) (fun hc => ?_)
        · have hF := xx_ip hc hF
          exact qw_Model_isFile_b166 C hA hK  u23 x1 _ _ _ hF (lv_sub hl [0, 1] rfl) hP hD hS
        · have hF := xx_in' hc hF
          refine lv_aload_n hx hb qd_Model_isFile_105 rfl (lv_at hl 0 rfl) ?_
          refine xx_get C ki_Model hK hP 0 rfl rfl 26 (by decide) kw_899 rfl rfl qd_Model_isFile_106 ?_
          refine lv_iconst (v := (4 : Int32)) hx hb qd_Model_isFile_109 (by decide) ?_
          refine lv_irem hx hb qd_Model_isFile_110 (by decide) ?_
          refine lv_if_ne (tgt := 166) hx hb qd_Model_isFile_111 (by decide) (fun hc => ?_) (fun hc => ?_)
          · have hF := xx_in' hc hF
            exact qw_Model_isFile_b166 C hA hK  u23 x1 _ _ _ hF (lv_sub hl [0, 1] rfl) hP hD hS
          · have hF := xx_ip hc hF
            refine lv_aload_n hx hb qd_Model_isFile_114 rfl (lv_at hl 0 rfl) ?_
            refine xx_get C ki_Model hK hP 0 rfl rfl 23 (by decide) kw_896 rfl rfl qd_Model_isFile_115 ?_
            refine lv_if_lt (tgt := 166) hx hb qd_Model_isFile_118 (by decide) (fun hc => ?_) (fun hc => ?_)
            · have hF := xx_ip hc hF
              exact qw_Model_isFile_b166 C hA hK  u23 x1 _ _ _ hF (lv_sub hl [0, 1] rfl) hP hD hS
            · have hF := xx_in' hc hF
              refine lv_aload_n hx hb qd_Model_isFile_121 rfl (lv_at hl 0 rfl) ?_
              refine xx_get C ki_Model hK hP 0 rfl rfl 23 (by decide) kw_896 rfl rfl qd_Model_isFile_122 ?_
              refine lv_bipush (v := (8 : Int32)) hx hb qd_Model_isFile_125 (by decide) ?_
              refine lv_icmp_gt (tgt := 166) hx hb qd_Model_isFile_127 (by decide) (fun hc => ?_) (fun hc => ?_)
              · have hF := xx_ip hc hF
                exact qw_Model_isFile_b166 C hA hK  u23 x1 _ _ _ hF (lv_sub hl [0, 1] rfl) hP hD hS
              · have hF := xx_in' hc hF
                refine lv_aload_n hx hb qd_Model_isFile_130 rfl (lv_at hl 0 rfl) ?_
                refine xx_get C ki_Model hK hP 0 rfl rfl 24 (by decide) kw_897 rfl rfl qd_Model_isFile_131 ?_
                refine lv_if_lt (tgt := 166) hx hb qd_Model_isFile_134 (by decide) (fun hc => ?_) (fun hc => ?_)
                · have hF := xx_ip hc hF
                  exact qw_Model_isFile_b166 C hA hK  u23 x1 _ _ _ hF (lv_sub hl [0, 1] rfl) hP hD hS
                · have hF := xx_in' hc hF
                  refine lv_aload_n hx hb qd_Model_isFile_137 rfl (lv_at hl 0 rfl) ?_
                  refine xx_get C ki_Model hK hP 0 rfl rfl 24 (by decide) kw_897 rfl rfl qd_Model_isFile_138 ?_
                  refine lv_bipush (v := (8 : Int32)) hx hb qd_Model_isFile_141 (by decide) ?_
                  refine lv_icmp_gt (tgt := 166) hx hb qd_Model_isFile_143 (by decide) (fun hc => ?_) (fun hc => ?_)
                  · have hF := xx_ip hc hF
                    exact qw_Model_isFile_b166 C hA hK  u23 x1 _ _ _ hF (lv_sub hl [0, 1] rfl) hP hD hS
                  · have hF := xx_in' hc hF
                    refine lv_aload_n hx hb qd_Model_isFile_146 rfl (lv_at hl 0 rfl) ?_
                    refine xx_get C ki_Model hK hP 0 rfl rfl 25 (by decide) kw_898 rfl rfl qd_Model_isFile_147 ?_
                    refine lv_if_lt (tgt := 166) hx hb qd_Model_isFile_150 (by decide) (fun hc => ?_) (fun hc => ?_)
                    · have hF := xx_ip hc hF
                      exact qw_Model_isFile_b166 C hA hK  u23 x1 _ _ _ hF (lv_sub hl [0, 1] rfl) hP hD hS
                    · have hF := xx_in' hc hF
                      refine lv_aload_n hx hb qd_Model_isFile_153 rfl (lv_at hl 0 rfl) ?_
                      refine xx_get C ki_Model hK hP 0 rfl rfl 25 (by decide) kw_898 rfl rfl qd_Model_isFile_154 ?_
                      refine lv_bipush (v := (24 : Int32)) hx hb qd_Model_isFile_157 (by decide) ?_
                      refine lv_icmp_gt (tgt := 166) hx hb qd_Model_isFile_159 (by decide) (fun hc => ?_) (fun hc => ?_)
                      · have hF := xx_ip hc hF
                        exact qw_Model_isFile_b166 C hA hK  u23 x1 _ _ _ hF (lv_sub hl [0, 1] rfl) hP hD hS
                      · have hF := xx_in' hc hF
                        refine lv_iconst (v := (1 : Int32)) hx hb qd_Model_isFile_162 (by decide) ?_
                        refine lv_goto (tgt := 167) hx hb qd_Model_isFile_163 (by decide) ?_
                        exact qw_Model_isFile_b167 C hA hK  u23 x1 (1 : Int32) _ _ _ hF (lv_sub hl [0, 1] rfl) hP hD hS
    · have hF := xx_in' hc hF
      exact qw_Model_isFile_b16 C hA hK  u1 _ _ _ hF (lv_sub hl [] rfl) hP hD hS
