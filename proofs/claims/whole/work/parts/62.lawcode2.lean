theorem ld_law_169 : decode code 169 = .ok (.invokevirtual 56, 3) := by decide +kernel
theorem ld_law_172 : decode code 172 = .ok (.if_icmp .eq (578), 3) := by decide +kernel
theorem ld_law_175 : decode code 175 = .ok (.iconst 0, 1) := by decide +kernel
theorem ld_law_176 : decode code 176 = .ok (.ireturn, 1) := by decide +kernel
theorem ld_law_177 : decode code 177 = .ok (.aload_n 1, 1) := by decide +kernel
theorem ld_law_178 : decode code 178 = .ok (.aload_n 0, 1) := by decide +kernel
theorem ld_law_179 : decode code 179 = .ok (.iload 4, 2) := by decide +kernel
theorem ld_law_181 : decode code 181 = .ok (.iconst 1, 1) := by decide +kernel
theorem ld_law_182 : decode code 182 = .ok (.iadd, 1) := by decide +kernel
theorem ld_law_183 : decode code 183 = .ok (.iaload, 1) := by decide +kernel
theorem ld_law_184 : decode code 184 = .ok (.aload_n 0, 1) := by decide +kernel
theorem ld_law_185 : decode code 185 = .ok (.iload 4, 2) := by decide +kernel
theorem ld_law_187 : decode code 187 = .ok (.iconst 2, 1) := by decide +kernel
theorem ld_law_188 : decode code 188 = .ok (.iadd, 1) := by decide +kernel
theorem ld_law_189 : decode code 189 = .ok (.iaload, 1) := by decide +kernel
theorem ld_law_190 : decode code 190 = .ok (.aload_n 0, 1) := by decide +kernel
theorem ld_law_191 : decode code 191 = .ok (.iload 4, 2) := by decide +kernel
theorem ld_law_193 : decode code 193 = .ok (.iconst 3, 1) := by decide +kernel
theorem ld_law_194 : decode code 194 = .ok (.iadd, 1) := by decide +kernel
theorem ld_law_195 : decode code 195 = .ok (.iaload, 1) := by decide +kernel
theorem ld_law_196 : decode code 196 = .ok (.invokestatic 57, 3) := by decide +kernel
theorem ld_law_199 : decode code 199 = .ok (.istore 5, 2) := by decide +kernel
theorem ld_law_201 : decode code 201 = .ok (.aload_n 2, 1) := by decide +kernel
theorem ld_law_202 : decode code 202 = .ok (.aload_n 0, 1) := by decide +kernel
theorem ld_law_203 : decode code 203 = .ok (.iload 4, 2) := by decide +kernel
theorem ld_law_205 : decode code 205 = .ok (.iconst 1, 1) := by decide +kernel
theorem ld_law_206 : decode code 206 = .ok (.iadd, 1) := by decide +kernel
theorem ld_law_207 : decode code 207 = .ok (.iaload, 1) := by decide +kernel
theorem ld_law_208 : decode code 208 = .ok (.aload_n 0, 1) := by decide +kernel
theorem ld_law_209 : decode code 209 = .ok (.iload 4, 2) := by decide +kernel
theorem ld_law_211 : decode code 211 = .ok (.iconst 2, 1) := by decide +kernel
theorem ld_law_212 : decode code 212 = .ok (.iadd, 1) := by decide +kernel
theorem ld_law_213 : decode code 213 = .ok (.iaload, 1) := by decide +kernel
theorem ld_law_214 : decode code 214 = .ok (.aload_n 0, 1) := by decide +kernel
theorem ld_law_215 : decode code 215 = .ok (.iload 4, 2) := by decide +kernel
theorem ld_law_217 : decode code 217 = .ok (.iconst 3, 1) := by decide +kernel
theorem ld_law_218 : decode code 218 = .ok (.iadd, 1) := by decide +kernel
theorem ld_law_219 : decode code 219 = .ok (.iaload, 1) := by decide +kernel
theorem ld_law_220 : decode code 220 = .ok (.invokevirtual 60, 3) := by decide +kernel
theorem ld_law_223 : decode code 223 = .ok (.aload_n 2, 1) := by decide +kernel
theorem ld_law_224 : decode code 224 = .ok (.invokevirtual 48, 3) := by decide +kernel
theorem ld_law_227 : decode code 227 = .ok (.iload 5, 2) := by decide +kernel
theorem ld_law_229 : decode code 229 = .ok (.if_icmp .eq (5), 3) := by decide +kernel
theorem ld_law_232 : decode code 232 = .ok (.iconst 0, 1) := by decide +kernel
theorem ld_law_233 : decode code 233 = .ok (.ireturn, 1) := by decide +kernel
theorem ld_law_234 : decode code 234 = .ok (.goto (516), 3) := by decide +kernel
theorem ld_law_237 : decode code 237 = .ok (.aload_n 1, 1) := by decide +kernel
theorem ld_law_238 : decode code 238 = .ok (.aload_n 0, 1) := by decide +kernel
theorem ld_law_239 : decode code 239 = .ok (.iload 4, 2) := by decide +kernel
theorem ld_law_241 : decode code 241 = .ok (.iconst 1, 1) := by decide +kernel
theorem ld_law_242 : decode code 242 = .ok (.iadd, 1) := by decide +kernel
theorem ld_law_243 : decode code 243 = .ok (.iaload, 1) := by decide +kernel
theorem ld_law_244 : decode code 244 = .ok (.invokevirtual 61, 3) := by decide +kernel
theorem ld_law_247 : decode code 247 = .ok (.aload_n 2, 1) := by decide +kernel
theorem ld_law_248 : decode code 248 = .ok (.aload_n 0, 1) := by decide +kernel
theorem ld_law_249 : decode code 249 = .ok (.iload 4, 2) := by decide +kernel
theorem ld_law_251 : decode code 251 = .ok (.iconst 1, 1) := by decide +kernel
theorem ld_law_252 : decode code 252 = .ok (.iadd, 1) := by decide +kernel
theorem ld_law_253 : decode code 253 = .ok (.iaload, 1) := by decide +kernel
theorem ld_law_254 : decode code 254 = .ok (.invokevirtual 64, 3) := by decide +kernel
