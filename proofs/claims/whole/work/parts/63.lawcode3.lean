theorem ld_law_257 : decode code 257 = .ok (.if_icmp .eq (493), 3) := by decide +kernel
theorem ld_law_260 : decode code 260 = .ok (.iconst 0, 1) := by decide +kernel
theorem ld_law_261 : decode code 261 = .ok (.ireturn, 1) := by decide +kernel
theorem ld_law_262 : decode code 262 = .ok (.aload_n 1, 1) := by decide +kernel
theorem ld_law_263 : decode code 263 = .ok (.aload_n 0, 1) := by decide +kernel
theorem ld_law_264 : decode code 264 = .ok (.iload 4, 2) := by decide +kernel
theorem ld_law_266 : decode code 266 = .ok (.iconst 1, 1) := by decide +kernel
theorem ld_law_267 : decode code 267 = .ok (.iadd, 1) := by decide +kernel
theorem ld_law_268 : decode code 268 = .ok (.iaload, 1) := by decide +kernel
theorem ld_law_269 : decode code 269 = .ok (.invokevirtual 65, 3) := by decide +kernel
theorem ld_law_272 : decode code 272 = .ok (.aload_n 2, 1) := by decide +kernel
theorem ld_law_273 : decode code 273 = .ok (.aload_n 0, 1) := by decide +kernel
theorem ld_law_274 : decode code 274 = .ok (.iload 4, 2) := by decide +kernel
theorem ld_law_276 : decode code 276 = .ok (.iconst 1, 1) := by decide +kernel
theorem ld_law_277 : decode code 277 = .ok (.iadd, 1) := by decide +kernel
theorem ld_law_278 : decode code 278 = .ok (.iaload, 1) := by decide +kernel
theorem ld_law_279 : decode code 279 = .ok (.invokevirtual 68, 3) := by decide +kernel
theorem ld_law_282 : decode code 282 = .ok (.if_icmp .eq (468), 3) := by decide +kernel
theorem ld_law_285 : decode code 285 = .ok (.iconst 0, 1) := by decide +kernel
theorem ld_law_286 : decode code 286 = .ok (.ireturn, 1) := by decide +kernel
theorem ld_law_287 : decode code 287 = .ok (.aload_n 1, 1) := by decide +kernel
theorem ld_law_288 : decode code 288 = .ok (.aload_n 0, 1) := by decide +kernel
theorem ld_law_289 : decode code 289 = .ok (.iload 4, 2) := by decide +kernel
theorem ld_law_291 : decode code 291 = .ok (.iconst 1, 1) := by decide +kernel
theorem ld_law_292 : decode code 292 = .ok (.iadd, 1) := by decide +kernel
theorem ld_law_293 : decode code 293 = .ok (.iaload, 1) := by decide +kernel
theorem ld_law_294 : decode code 294 = .ok (.aload_n 0, 1) := by decide +kernel
theorem ld_law_295 : decode code 295 = .ok (.iload 4, 2) := by decide +kernel
theorem ld_law_297 : decode code 297 = .ok (.iconst 2, 1) := by decide +kernel
theorem ld_law_298 : decode code 298 = .ok (.iadd, 1) := by decide +kernel
theorem ld_law_299 : decode code 299 = .ok (.iaload, 1) := by decide +kernel
theorem ld_law_300 : decode code 300 = .ok (.aload_n 3, 1) := by decide +kernel
theorem ld_law_301 : decode code 301 = .ok (.invokestatic 69, 3) := by decide +kernel
theorem ld_law_304 : decode code 304 = .ok (.istore 5, 2) := by decide +kernel
theorem ld_law_306 : decode code 306 = .ok (.aload_n 2, 1) := by decide +kernel
theorem ld_law_307 : decode code 307 = .ok (.aload_n 0, 1) := by decide +kernel
theorem ld_law_308 : decode code 308 = .ok (.iload 4, 2) := by decide +kernel
theorem ld_law_310 : decode code 310 = .ok (.iconst 1, 1) := by decide +kernel
theorem ld_law_311 : decode code 311 = .ok (.iadd, 1) := by decide +kernel
theorem ld_law_312 : decode code 312 = .ok (.iaload, 1) := by decide +kernel
theorem ld_law_313 : decode code 313 = .ok (.aload_n 0, 1) := by decide +kernel
theorem ld_law_314 : decode code 314 = .ok (.iload 4, 2) := by decide +kernel
theorem ld_law_316 : decode code 316 = .ok (.iconst 2, 1) := by decide +kernel
theorem ld_law_317 : decode code 317 = .ok (.iadd, 1) := by decide +kernel
theorem ld_law_318 : decode code 318 = .ok (.iaload, 1) := by decide +kernel
theorem ld_law_319 : decode code 319 = .ok (.invokevirtual 72, 3) := by decide +kernel
theorem ld_law_322 : decode code 322 = .ok (.istore 6, 2) := by decide +kernel
theorem ld_law_324 : decode code 324 = .ok (.aload_n 2, 1) := by decide +kernel
theorem ld_law_325 : decode code 325 = .ok (.invokevirtual 48, 3) := by decide +kernel
theorem ld_law_328 : decode code 328 = .ok (.iload 5, 2) := by decide +kernel
theorem ld_law_330 : decode code 330 = .ok (.if_icmp .eq (5), 3) := by decide +kernel
theorem ld_law_333 : decode code 333 = .ok (.iconst 0, 1) := by decide +kernel
theorem ld_law_334 : decode code 334 = .ok (.ireturn, 1) := by decide +kernel
theorem ld_law_335 : decode code 335 = .ok (.iload 5, 2) := by decide +kernel
theorem ld_law_337 : decode code 337 = .ok (.ifCond .ne (15), 3) := by decide +kernel
theorem ld_law_340 : decode code 340 = .ok (.aload_n 3, 1) := by decide +kernel
theorem ld_law_341 : decode code 341 = .ok (.iconst 0, 1) := by decide +kernel
theorem ld_law_342 : decode code 342 = .ok (.laload, 1) := by decide +kernel
theorem ld_law_343 : decode code 343 = .ok (.iload 6, 2) := by decide +kernel
theorem ld_law_345 : decode code 345 = .ok (.i2l, 1) := by decide +kernel
