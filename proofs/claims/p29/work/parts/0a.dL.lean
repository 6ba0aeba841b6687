theorem kL_law_0 : (((((decode cL_law 0 = .ok (.new 7, 3)) ∧ (decode cL_law 3 = .ok (.dup, 1))) ∧ ((decode cL_law 4 = .ok (.invokespecial 9, 3)) ∧ (decode cL_law 7 = .ok (.astore_n 1, 1)))) ∧ (((decode cL_law 8 = .ok (.new 10, 3)) ∧ (decode cL_law 11 = .ok (.dup, 1))) ∧ ((decode cL_law 12 = .ok (.invokespecial 12, 3)) ∧ (decode cL_law 15 = .ok (.astore_n 2, 1))))) ∧ ((((decode cL_law 16 = .ok (.iconst 0, 1)) ∧ (decode cL_law 17 = .ok (.istore_n 3, 1))) ∧ ((decode cL_law 18 = .ok (.iload_n 3, 1)) ∧ (decode cL_law 19 = .ok (.aload_n 0, 1)))) ∧ (((decode cL_law 20 = .ok (.arraylength, 1)) ∧ (decode cL_law 21 = .ok (.bipush 7, 2))) ∧ ((decode cL_law 23 = .ok (.isub, 1)) ∧ (decode cL_law 24 = .ok (.if_icmp .gt 1176, 3)))))) := by decide +kernel
theorem dL_law_0 : decode cL_law 0 = .ok (.new 7, 3) := kL_law_0.1.1.1.1
theorem dL_law_3 : decode cL_law 3 = .ok (.dup, 1) := kL_law_0.1.1.1.2
theorem dL_law_4 : decode cL_law 4 = .ok (.invokespecial 9, 3) := kL_law_0.1.1.2.1
theorem dL_law_7 : decode cL_law 7 = .ok (.astore_n 1, 1) := kL_law_0.1.1.2.2
theorem dL_law_8 : decode cL_law 8 = .ok (.new 10, 3) := kL_law_0.1.2.1.1
theorem dL_law_11 : decode cL_law 11 = .ok (.dup, 1) := kL_law_0.1.2.1.2
theorem dL_law_12 : decode cL_law 12 = .ok (.invokespecial 12, 3) := kL_law_0.1.2.2.1
theorem dL_law_15 : decode cL_law 15 = .ok (.astore_n 2, 1) := kL_law_0.1.2.2.2
theorem dL_law_16 : decode cL_law 16 = .ok (.iconst 0, 1) := kL_law_0.2.1.1.1
theorem dL_law_17 : decode cL_law 17 = .ok (.istore_n 3, 1) := kL_law_0.2.1.1.2
theorem dL_law_18 : decode cL_law 18 = .ok (.iload_n 3, 1) := kL_law_0.2.1.2.1
theorem dL_law_19 : decode cL_law 19 = .ok (.aload_n 0, 1) := kL_law_0.2.1.2.2
theorem dL_law_20 : decode cL_law 20 = .ok (.arraylength, 1) := kL_law_0.2.2.1.1
theorem dL_law_21 : decode cL_law 21 = .ok (.bipush 7, 2) := kL_law_0.2.2.1.2
theorem dL_law_23 : decode cL_law 23 = .ok (.isub, 1) := kL_law_0.2.2.2.1
theorem dL_law_24 : decode cL_law 24 = .ok (.if_icmp .gt 1176, 3) := kL_law_0.2.2.2.2
theorem kL_law_27 : (((((decode cL_law 27 = .ok (.aload_n 0, 1)) ∧ (decode cL_law 28 = .ok (.iload_n 3, 1))) ∧ ((decode cL_law 29 = .ok (.iaload, 1)) ∧ (decode cL_law 30 = .ok (.bipush 31, 2)))) ∧ (((decode cL_law 32 = .ok (.iand, 1)) ∧ (decode cL_law 33 = .ok (.tableswitch 1161 0 31 #[143, 176, 209, 232, 245, 268, 291, 324, 357, 390, 413, 426, 449, 482, 505, 528, 541, 554, 587, 630, 673, 706, 729, 742, 785, 798, 811, 886, 949, 992, 1015, 1098], 143))) ∧ ((decode cL_law 176 = .ok (.aload_n 1, 1)) ∧ (decode cL_law 177 = .ok (.aload_n 0, 1))))) ∧ ((((decode cL_law 178 = .ok (.iload_n 3, 1)) ∧ (decode cL_law 179 = .ok (.iconst 1, 1))) ∧ ((decode cL_law 180 = .ok (.iadd, 1)) ∧ (decode cL_law 181 = .ok (.iaload, 1)))) ∧ (((decode cL_law 182 = .ok (.aload_n 0, 1)) ∧ (decode cL_law 183 = .ok (.iload_n 3, 1))) ∧ ((decode cL_law 184 = .ok (.iconst 2, 1)) ∧ (decode cL_law 185 = .ok (.iadd, 1)))))) := by decide +kernel
theorem dL_law_27 : decode cL_law 27 = .ok (.aload_n 0, 1) := kL_law_27.1.1.1.1
theorem dL_law_28 : decode cL_law 28 = .ok (.iload_n 3, 1) := kL_law_27.1.1.1.2
theorem dL_law_29 : decode cL_law 29 = .ok (.iaload, 1) := kL_law_27.1.1.2.1
theorem dL_law_30 : decode cL_law 30 = .ok (.bipush 31, 2) := kL_law_27.1.1.2.2
theorem dL_law_32 : decode cL_law 32 = .ok (.iand, 1) := kL_law_27.1.2.1.1
theorem dL_law_33 : decode cL_law 33 = .ok (.tableswitch 1161 0 31 #[143, 176, 209, 232, 245, 268, 291, 324, 357, 390, 413, 426, 449, 482, 505, 528, 541, 554, 587, 630, 673, 706, 729, 742, 785, 798, 811, 886, 949, 992, 1015, 1098], 143) := kL_law_27.1.2.1.2
theorem dL_law_176 : decode cL_law 176 = .ok (.aload_n 1, 1) := kL_law_27.1.2.2.1
theorem dL_law_177 : decode cL_law 177 = .ok (.aload_n 0, 1) := kL_law_27.1.2.2.2
theorem dL_law_178 : decode cL_law 178 = .ok (.iload_n 3, 1) := kL_law_27.2.1.1.1
theorem dL_law_179 : decode cL_law 179 = .ok (.iconst 1, 1) := kL_law_27.2.1.1.2
theorem dL_law_180 : decode cL_law 180 = .ok (.iadd, 1) := kL_law_27.2.1.2.1
theorem dL_law_181 : decode cL_law 181 = .ok (.iaload, 1) := kL_law_27.2.1.2.2
theorem dL_law_182 : decode cL_law 182 = .ok (.aload_n 0, 1) := kL_law_27.2.2.1.1
theorem dL_law_183 : decode cL_law 183 = .ok (.iload_n 3, 1) := kL_law_27.2.2.1.2
theorem dL_law_184 : decode cL_law 184 = .ok (.iconst 2, 1) := kL_law_27.2.2.2.1
theorem dL_law_185 : decode cL_law 185 = .ok (.iadd, 1) := kL_law_27.2.2.2.2
theorem kL_law_186 : (((((decode cL_law 186 = .ok (.iaload, 1)) ∧ (decode cL_law 187 = .ok (.invokevirtual 13, 3))) ∧ ((decode cL_law 190 = .ok (.pop, 1)) ∧ (decode cL_law 191 = .ok (.aload_n 2, 1)))) ∧ (((decode cL_law 192 = .ok (.aload_n 0, 1)) ∧ (decode cL_law 193 = .ok (.iload_n 3, 1))) ∧ ((decode cL_law 194 = .ok (.iconst 1, 1)) ∧ (decode cL_law 195 = .ok (.iadd, 1))))) ∧ ((((decode cL_law 196 = .ok (.iaload, 1)) ∧ (decode cL_law 197 = .ok (.aload_n 0, 1))) ∧ ((decode cL_law 198 = .ok (.iload_n 3, 1)) ∧ (decode cL_law 199 = .ok (.iconst 2, 1)))) ∧ (((decode cL_law 200 = .ok (.iadd, 1)) ∧ (decode cL_law 201 = .ok (.iaload, 1))) ∧ ((decode cL_law 202 = .ok (.invokevirtual 17, 3)) ∧ (decode cL_law 205 = .ok (.pop, 1)))))) := by decide +kernel
theorem dL_law_186 : decode cL_law 186 = .ok (.iaload, 1) := kL_law_186.1.1.1.1
theorem dL_law_187 : decode cL_law 187 = .ok (.invokevirtual 13, 3) := kL_law_186.1.1.1.2
theorem dL_law_190 : decode cL_law 190 = .ok (.pop, 1) := kL_law_186.1.1.2.1
theorem dL_law_191 : decode cL_law 191 = .ok (.aload_n 2, 1) := kL_law_186.1.1.2.2
theorem dL_law_192 : decode cL_law 192 = .ok (.aload_n 0, 1) := kL_law_186.1.2.1.1
theorem dL_law_193 : decode cL_law 193 = .ok (.iload_n 3, 1) := kL_law_186.1.2.1.2
theorem dL_law_194 : decode cL_law 194 = .ok (.iconst 1, 1) := kL_law_186.1.2.2.1
theorem dL_law_195 : decode cL_law 195 = .ok (.iadd, 1) := kL_law_186.1.2.2.2
theorem dL_law_196 : decode cL_law 196 = .ok (.iaload, 1) := kL_law_186.2.1.1.1
theorem dL_law_197 : decode cL_law 197 = .ok (.aload_n 0, 1) := kL_law_186.2.1.1.2
theorem dL_law_198 : decode cL_law 198 = .ok (.iload_n 3, 1) := kL_law_186.2.1.2.1
theorem dL_law_199 : decode cL_law 199 = .ok (.iconst 2, 1) := kL_law_186.2.1.2.2
theorem dL_law_200 : decode cL_law 200 = .ok (.iadd, 1) := kL_law_186.2.2.1.1
theorem dL_law_201 : decode cL_law 201 = .ok (.iaload, 1) := kL_law_186.2.2.1.2
theorem dL_law_202 : decode cL_law 202 = .ok (.invokevirtual 17, 3) := kL_law_186.2.2.2.1
theorem dL_law_205 : decode cL_law 205 = .ok (.pop, 1) := kL_law_186.2.2.2.2
theorem kL_law_206 : (((((decode cL_law 206 = .ok (.goto 988, 3)) ∧ (decode cL_law 209 = .ok (.aload_n 1, 1))) ∧ ((decode cL_law 210 = .ok (.aload_n 0, 1)) ∧ (decode cL_law 211 = .ok (.iload_n 3, 1)))) ∧ (((decode cL_law 212 = .ok (.iconst 1, 1)) ∧ (decode cL_law 213 = .ok (.iadd, 1))) ∧ ((decode cL_law 214 = .ok (.iaload, 1)) ∧ (decode cL_law 215 = .ok (.aload_n 0, 1))))) ∧ ((((decode cL_law 216 = .ok (.iload_n 3, 1)) ∧ (decode cL_law 217 = .ok (.iconst 2, 1))) ∧ ((decode cL_law 218 = .ok (.iadd, 1)) ∧ (decode cL_law 219 = .ok (.iaload, 1)))) ∧ (((decode cL_law 220 = .ok (.invokevirtual 18, 3)) ∧ (decode cL_law 223 = .ok (.pop, 1))) ∧ ((decode cL_law 224 = .ok (.aload_n 2, 1)) ∧ (decode cL_law 225 = .ok (.aload_n 0, 1)))))) := by decide +kernel
theorem dL_law_206 : decode cL_law 206 = .ok (.goto 988, 3) := kL_law_206.1.1.1.1
theorem dL_law_209 : decode cL_law 209 = .ok (.aload_n 1, 1) := kL_law_206.1.1.1.2
theorem dL_law_210 : decode cL_law 210 = .ok (.aload_n 0, 1) := kL_law_206.1.1.2.1
theorem dL_law_211 : decode cL_law 211 = .ok (.iload_n 3, 1) := kL_law_206.1.1.2.2
theorem dL_law_212 : decode cL_law 212 = .ok (.iconst 1, 1) := kL_law_206.1.2.1.1
theorem dL_law_213 : decode cL_law 213 = .ok (.iadd, 1) := kL_law_206.1.2.1.2
theorem dL_law_214 : decode cL_law 214 = .ok (.iaload, 1) := kL_law_206.1.2.2.1
theorem dL_law_215 : decode cL_law 215 = .ok (.aload_n 0, 1) := kL_law_206.1.2.2.2
theorem dL_law_216 : decode cL_law 216 = .ok (.iload_n 3, 1) := kL_law_206.2.1.1.1
theorem dL_law_217 : decode cL_law 217 = .ok (.iconst 2, 1) := kL_law_206.2.1.1.2
theorem dL_law_218 : decode cL_law 218 = .ok (.iadd, 1) := kL_law_206.2.1.2.1
theorem dL_law_219 : decode cL_law 219 = .ok (.iaload, 1) := kL_law_206.2.1.2.2
theorem dL_law_220 : decode cL_law 220 = .ok (.invokevirtual 18, 3) := kL_law_206.2.2.1.1
theorem dL_law_223 : decode cL_law 223 = .ok (.pop, 1) := kL_law_206.2.2.1.2
theorem dL_law_224 : decode cL_law 224 = .ok (.aload_n 2, 1) := kL_law_206.2.2.2.1
theorem dL_law_225 : decode cL_law 225 = .ok (.aload_n 0, 1) := kL_law_206.2.2.2.2
theorem kL_law_226 : (((((decode cL_law 226 = .ok (.iload_n 3, 1)) ∧ (decode cL_law 227 = .ok (.iconst 1, 1))) ∧ ((decode cL_law 228 = .ok (.iadd, 1)) ∧ (decode cL_law 229 = .ok (.iaload, 1)))) ∧ (((decode cL_law 230 = .ok (.aload_n 0, 1)) ∧ (decode cL_law 231 = .ok (.iload_n 3, 1))) ∧ ((decode cL_law 232 = .ok (.iconst 2, 1)) ∧ (decode cL_law 233 = .ok (.iadd, 1))))) ∧ ((((decode cL_law 234 = .ok (.iaload, 1)) ∧ (decode cL_law 235 = .ok (.invokevirtual 21, 3))) ∧ ((decode cL_law 238 = .ok (.pop, 1)) ∧ (decode cL_law 239 = .ok (.goto 955, 3)))) ∧ (((decode cL_law 242 = .ok (.aload_n 1, 1)) ∧ (decode cL_law 243 = .ok (.aload_n 0, 1))) ∧ ((decode cL_law 244 = .ok (.iload_n 3, 1)) ∧ (decode cL_law 245 = .ok (.iconst 1, 1)))))) := by decide +kernel
theorem dL_law_226 : decode cL_law 226 = .ok (.iload_n 3, 1) := kL_law_226.1.1.1.1
theorem dL_law_227 : decode cL_law 227 = .ok (.iconst 1, 1) := kL_law_226.1.1.1.2
theorem dL_law_228 : decode cL_law 228 = .ok (.iadd, 1) := kL_law_226.1.1.2.1
theorem dL_law_229 : decode cL_law 229 = .ok (.iaload, 1) := kL_law_226.1.1.2.2
theorem dL_law_230 : decode cL_law 230 = .ok (.aload_n 0, 1) := kL_law_226.1.2.1.1
theorem dL_law_231 : decode cL_law 231 = .ok (.iload_n 3, 1) := kL_law_226.1.2.1.2
theorem dL_law_232 : decode cL_law 232 = .ok (.iconst 2, 1) := kL_law_226.1.2.2.1
theorem dL_law_233 : decode cL_law 233 = .ok (.iadd, 1) := kL_law_226.1.2.2.2
theorem dL_law_234 : decode cL_law 234 = .ok (.iaload, 1) := kL_law_226.2.1.1.1
theorem dL_law_235 : decode cL_law 235 = .ok (.invokevirtual 21, 3) := kL_law_226.2.1.1.2
theorem dL_law_238 : decode cL_law 238 = .ok (.pop, 1) := kL_law_226.2.1.2.1
theorem dL_law_239 : decode cL_law 239 = .ok (.goto 955, 3) := kL_law_226.2.1.2.2
theorem dL_law_242 : decode cL_law 242 = .ok (.aload_n 1, 1) := kL_law_226.2.2.1.1
theorem dL_law_243 : decode cL_law 243 = .ok (.aload_n 0, 1) := kL_law_226.2.2.1.2
theorem dL_law_244 : decode cL_law 244 = .ok (.iload_n 3, 1) := kL_law_226.2.2.2.1
theorem dL_law_245 : decode cL_law 245 = .ok (.iconst 1, 1) := kL_law_226.2.2.2.2
theorem kL_law_246 : (((((decode cL_law 246 = .ok (.iadd, 1)) ∧ (decode cL_law 247 = .ok (.iaload, 1))) ∧ ((decode cL_law 248 = .ok (.invokevirtual 22, 3)) ∧ (decode cL_law 251 = .ok (.pop, 1)))) ∧ (((decode cL_law 252 = .ok (.aload_n 2, 1)) ∧ (decode cL_law 253 = .ok (.aload_n 0, 1))) ∧ ((decode cL_law 254 = .ok (.iload_n 3, 1)) ∧ (decode cL_law 255 = .ok (.iconst 1, 1))))) ∧ ((((decode cL_law 256 = .ok (.iadd, 1)) ∧ (decode cL_law 257 = .ok (.iaload, 1))) ∧ ((decode cL_law 258 = .ok (.invokevirtual 26, 3)) ∧ (decode cL_law 261 = .ok (.pop, 1)))) ∧ (((decode cL_law 262 = .ok (.goto 932, 3)) ∧ (decode cL_law 265 = .ok (.aload_n 1, 1))) ∧ ((decode cL_law 266 = .ok (.invokevirtual 27, 3)) ∧ (decode cL_law 269 = .ok (.pop, 1)))))) := by decide +kernel
theorem dL_law_246 : decode cL_law 246 = .ok (.iadd, 1) := kL_law_246.1.1.1.1
theorem dL_law_247 : decode cL_law 247 = .ok (.iaload, 1) := kL_law_246.1.1.1.2
theorem dL_law_248 : decode cL_law 248 = .ok (.invokevirtual 22, 3) := kL_law_246.1.1.2.1
theorem dL_law_251 : decode cL_law 251 = .ok (.pop, 1) := kL_law_246.1.1.2.2
theorem dL_law_252 : decode cL_law 252 = .ok (.aload_n 2, 1) := kL_law_246.1.2.1.1
theorem dL_law_253 : decode cL_law 253 = .ok (.aload_n 0, 1) := kL_law_246.1.2.1.2
theorem dL_law_254 : decode cL_law 254 = .ok (.iload_n 3, 1) := kL_law_246.1.2.2.1
theorem dL_law_255 : decode cL_law 255 = .ok (.iconst 1, 1) := kL_law_246.1.2.2.2
theorem dL_law_256 : decode cL_law 256 = .ok (.iadd, 1) := kL_law_246.2.1.1.1
theorem dL_law_257 : decode cL_law 257 = .ok (.iaload, 1) := kL_law_246.2.1.1.2
theorem dL_law_258 : decode cL_law 258 = .ok (.invokevirtual 26, 3) := kL_law_246.2.1.2.1
theorem dL_law_261 : decode cL_law 261 = .ok (.pop, 1) := kL_law_246.2.1.2.2
theorem dL_law_262 : decode cL_law 262 = .ok (.goto 932, 3) := kL_law_246.2.2.1.1
theorem dL_law_265 : decode cL_law 265 = .ok (.aload_n 1, 1) := kL_law_246.2.2.1.2
theorem dL_law_266 : decode cL_law 266 = .ok (.invokevirtual 27, 3) := kL_law_246.2.2.2.1
theorem dL_law_269 : decode cL_law 269 = .ok (.pop, 1) := kL_law_246.2.2.2.2
theorem kL_law_270 : (((((decode cL_law 270 = .ok (.aload_n 2, 1)) ∧ (decode cL_law 271 = .ok (.invokevirtual 31, 3))) ∧ ((decode cL_law 274 = .ok (.pop, 1)) ∧ (decode cL_law 275 = .ok (.goto 919, 3)))) ∧ (((decode cL_law 278 = .ok (.aload_n 1, 1)) ∧ (decode cL_law 279 = .ok (.aload_n 0, 1))) ∧ ((decode cL_law 280 = .ok (.iload_n 3, 1)) ∧ (decode cL_law 281 = .ok (.iconst 1, 1))))) ∧ ((((decode cL_law 282 = .ok (.iadd, 1)) ∧ (decode cL_law 283 = .ok (.iaload, 1))) ∧ ((decode cL_law 284 = .ok (.invokevirtual 32, 3)) ∧ (decode cL_law 287 = .ok (.pop, 1)))) ∧ (((decode cL_law 288 = .ok (.aload_n 2, 1)) ∧ (decode cL_law 289 = .ok (.aload_n 0, 1))) ∧ ((decode cL_law 290 = .ok (.iload_n 3, 1)) ∧ (decode cL_law 291 = .ok (.iconst 1, 1)))))) := by decide +kernel
theorem dL_law_270 : decode cL_law 270 = .ok (.aload_n 2, 1) := kL_law_270.1.1.1.1
theorem dL_law_271 : decode cL_law 271 = .ok (.invokevirtual 31, 3) := kL_law_270.1.1.1.2
theorem dL_law_274 : decode cL_law 274 = .ok (.pop, 1) := kL_law_270.1.1.2.1
theorem dL_law_275 : decode cL_law 275 = .ok (.goto 919, 3) := kL_law_270.1.1.2.2
theorem dL_law_278 : decode cL_law 278 = .ok (.aload_n 1, 1) := kL_law_270.1.2.1.1
theorem dL_law_279 : decode cL_law 279 = .ok (.aload_n 0, 1) := kL_law_270.1.2.1.2
theorem dL_law_280 : decode cL_law 280 = .ok (.iload_n 3, 1) := kL_law_270.1.2.2.1
theorem dL_law_281 : decode cL_law 281 = .ok (.iconst 1, 1) := kL_law_270.1.2.2.2
theorem dL_law_282 : decode cL_law 282 = .ok (.iadd, 1) := kL_law_270.2.1.1.1
theorem dL_law_283 : decode cL_law 283 = .ok (.iaload, 1) := kL_law_270.2.1.1.2
theorem dL_law_284 : decode cL_law 284 = .ok (.invokevirtual 32, 3) := kL_law_270.2.1.2.1
theorem dL_law_287 : decode cL_law 287 = .ok (.pop, 1) := kL_law_270.2.1.2.2
theorem dL_law_288 : decode cL_law 288 = .ok (.aload_n 2, 1) := kL_law_270.2.2.1.1
theorem dL_law_289 : decode cL_law 289 = .ok (.aload_n 0, 1) := kL_law_270.2.2.1.2
theorem dL_law_290 : decode cL_law 290 = .ok (.iload_n 3, 1) := kL_law_270.2.2.2.1
theorem dL_law_291 : decode cL_law 291 = .ok (.iconst 1, 1) := kL_law_270.2.2.2.2
theorem kL_law_292 : (((((decode cL_law 292 = .ok (.iadd, 1)) ∧ (decode cL_law 293 = .ok (.iaload, 1))) ∧ ((decode cL_law 294 = .ok (.invokevirtual 35, 3)) ∧ (decode cL_law 297 = .ok (.pop, 1)))) ∧ (((decode cL_law 298 = .ok (.goto 896, 3)) ∧ (decode cL_law 301 = .ok (.aload_n 1, 1))) ∧ ((decode cL_law 302 = .ok (.aload_n 0, 1)) ∧ (decode cL_law 303 = .ok (.iload_n 3, 1))))) ∧ ((((decode cL_law 304 = .ok (.iconst 1, 1)) ∧ (decode cL_law 305 = .ok (.iadd, 1))) ∧ ((decode cL_law 306 = .ok (.iaload, 1)) ∧ (decode cL_law 307 = .ok (.invokevirtual 36, 3)))) ∧ (((decode cL_law 310 = .ok (.pop, 1)) ∧ (decode cL_law 311 = .ok (.aload_n 2, 1))) ∧ ((decode cL_law 312 = .ok (.aload_n 0, 1)) ∧ (decode cL_law 313 = .ok (.iload_n 3, 1)))))) := by decide +kernel
theorem dL_law_292 : decode cL_law 292 = .ok (.iadd, 1) := kL_law_292.1.1.1.1
theorem dL_law_293 : decode cL_law 293 = .ok (.iaload, 1) := kL_law_292.1.1.1.2
theorem dL_law_294 : decode cL_law 294 = .ok (.invokevirtual 35, 3) := kL_law_292.1.1.2.1
theorem dL_law_297 : decode cL_law 297 = .ok (.pop, 1) := kL_law_292.1.1.2.2
theorem dL_law_298 : decode cL_law 298 = .ok (.goto 896, 3) := kL_law_292.1.2.1.1
theorem dL_law_301 : decode cL_law 301 = .ok (.aload_n 1, 1) := kL_law_292.1.2.1.2
theorem dL_law_302 : decode cL_law 302 = .ok (.aload_n 0, 1) := kL_law_292.1.2.2.1
theorem dL_law_303 : decode cL_law 303 = .ok (.iload_n 3, 1) := kL_law_292.1.2.2.2
theorem dL_law_304 : decode cL_law 304 = .ok (.iconst 1, 1) := kL_law_292.2.1.1.1
theorem dL_law_305 : decode cL_law 305 = .ok (.iadd, 1) := kL_law_292.2.1.1.2
theorem dL_law_306 : decode cL_law 306 = .ok (.iaload, 1) := kL_law_292.2.1.2.1
theorem dL_law_307 : decode cL_law 307 = .ok (.invokevirtual 36, 3) := kL_law_292.2.1.2.2
theorem dL_law_310 : decode cL_law 310 = .ok (.pop, 1) := kL_law_292.2.2.1.1
theorem dL_law_311 : decode cL_law 311 = .ok (.aload_n 2, 1) := kL_law_292.2.2.1.2
theorem dL_law_312 : decode cL_law 312 = .ok (.aload_n 0, 1) := kL_law_292.2.2.2.1
theorem dL_law_313 : decode cL_law 313 = .ok (.iload_n 3, 1) := kL_law_292.2.2.2.2
theorem kL_law_314 : (((((decode cL_law 314 = .ok (.iconst 1, 1)) ∧ (decode cL_law 315 = .ok (.iadd, 1))) ∧ ((decode cL_law 316 = .ok (.iaload, 1)) ∧ (decode cL_law 317 = .ok (.invokevirtual 39, 3)))) ∧ (((decode cL_law 320 = .ok (.pop, 1)) ∧ (decode cL_law 321 = .ok (.goto 873, 3))) ∧ ((decode cL_law 324 = .ok (.aload_n 1, 1)) ∧ (decode cL_law 325 = .ok (.aload_n 0, 1))))) ∧ ((((decode cL_law 326 = .ok (.iload_n 3, 1)) ∧ (decode cL_law 327 = .ok (.iconst 1, 1))) ∧ ((decode cL_law 328 = .ok (.iadd, 1)) ∧ (decode cL_law 329 = .ok (.iaload, 1)))) ∧ (((decode cL_law 330 = .ok (.aload_n 0, 1)) ∧ (decode cL_law 331 = .ok (.iload_n 3, 1))) ∧ ((decode cL_law 332 = .ok (.iconst 2, 1)) ∧ (decode cL_law 333 = .ok (.iadd, 1)))))) := by decide +kernel
theorem dL_law_314 : decode cL_law 314 = .ok (.iconst 1, 1) := kL_law_314.1.1.1.1
theorem dL_law_315 : decode cL_law 315 = .ok (.iadd, 1) := kL_law_314.1.1.1.2
theorem dL_law_316 : decode cL_law 316 = .ok (.iaload, 1) := kL_law_314.1.1.2.1
theorem dL_law_317 : decode cL_law 317 = .ok (.invokevirtual 39, 3) := kL_law_314.1.1.2.2
theorem dL_law_320 : decode cL_law 320 = .ok (.pop, 1) := kL_law_314.1.2.1.1
theorem dL_law_321 : decode cL_law 321 = .ok (.goto 873, 3) := kL_law_314.1.2.1.2
theorem dL_law_324 : decode cL_law 324 = .ok (.aload_n 1, 1) := kL_law_314.1.2.2.1
theorem dL_law_325 : decode cL_law 325 = .ok (.aload_n 0, 1) := kL_law_314.1.2.2.2
theorem dL_law_326 : decode cL_law 326 = .ok (.iload_n 3, 1) := kL_law_314.2.1.1.1
theorem dL_law_327 : decode cL_law 327 = .ok (.iconst 1, 1) := kL_law_314.2.1.1.2
theorem dL_law_328 : decode cL_law 328 = .ok (.iadd, 1) := kL_law_314.2.1.2.1
theorem dL_law_329 : decode cL_law 329 = .ok (.iaload, 1) := kL_law_314.2.1.2.2
theorem dL_law_330 : decode cL_law 330 = .ok (.aload_n 0, 1) := kL_law_314.2.2.1.1
theorem dL_law_331 : decode cL_law 331 = .ok (.iload_n 3, 1) := kL_law_314.2.2.1.2
theorem dL_law_332 : decode cL_law 332 = .ok (.iconst 2, 1) := kL_law_314.2.2.2.1
theorem dL_law_333 : decode cL_law 333 = .ok (.iadd, 1) := kL_law_314.2.2.2.2
theorem kL_law_334 : (((((decode cL_law 334 = .ok (.iaload, 1)) ∧ (decode cL_law 335 = .ok (.invokevirtual 40, 3))) ∧ ((decode cL_law 338 = .ok (.pop, 1)) ∧ (decode cL_law 339 = .ok (.aload_n 2, 1)))) ∧ (((decode cL_law 340 = .ok (.aload_n 0, 1)) ∧ (decode cL_law 341 = .ok (.iload_n 3, 1))) ∧ ((decode cL_law 342 = .ok (.iconst 1, 1)) ∧ (decode cL_law 343 = .ok (.iadd, 1))))) ∧ ((((decode cL_law 344 = .ok (.iaload, 1)) ∧ (decode cL_law 345 = .ok (.aload_n 0, 1))) ∧ ((decode cL_law 346 = .ok (.iload_n 3, 1)) ∧ (decode cL_law 347 = .ok (.iconst 2, 1)))) ∧ (((decode cL_law 348 = .ok (.iadd, 1)) ∧ (decode cL_law 349 = .ok (.iaload, 1))) ∧ ((decode cL_law 350 = .ok (.invokevirtual 43, 3)) ∧ (decode cL_law 353 = .ok (.pop, 1)))))) := by decide +kernel
theorem dL_law_334 : decode cL_law 334 = .ok (.iaload, 1) := kL_law_334.1.1.1.1
theorem dL_law_335 : decode cL_law 335 = .ok (.invokevirtual 40, 3) := kL_law_334.1.1.1.2
theorem dL_law_338 : decode cL_law 338 = .ok (.pop, 1) := kL_law_334.1.1.2.1
theorem dL_law_339 : decode cL_law 339 = .ok (.aload_n 2, 1) := kL_law_334.1.1.2.2
theorem dL_law_340 : decode cL_law 340 = .ok (.aload_n 0, 1) := kL_law_334.1.2.1.1
theorem dL_law_341 : decode cL_law 341 = .ok (.iload_n 3, 1) := kL_law_334.1.2.1.2
theorem dL_law_342 : decode cL_law 342 = .ok (.iconst 1, 1) := kL_law_334.1.2.2.1
theorem dL_law_343 : decode cL_law 343 = .ok (.iadd, 1) := kL_law_334.1.2.2.2
theorem dL_law_344 : decode cL_law 344 = .ok (.iaload, 1) := kL_law_334.2.1.1.1
theorem dL_law_345 : decode cL_law 345 = .ok (.aload_n 0, 1) := kL_law_334.2.1.1.2
theorem dL_law_346 : decode cL_law 346 = .ok (.iload_n 3, 1) := kL_law_334.2.1.2.1
theorem dL_law_347 : decode cL_law 347 = .ok (.iconst 2, 1) := kL_law_334.2.1.2.2
theorem dL_law_348 : decode cL_law 348 = .ok (.iadd, 1) := kL_law_334.2.2.1.1
theorem dL_law_349 : decode cL_law 349 = .ok (.iaload, 1) := kL_law_334.2.2.1.2
theorem dL_law_350 : decode cL_law 350 = .ok (.invokevirtual 43, 3) := kL_law_334.2.2.2.1
theorem dL_law_353 : decode cL_law 353 = .ok (.pop, 1) := kL_law_334.2.2.2.2
theorem kL_law_354 : (((((decode cL_law 354 = .ok (.goto 840, 3)) ∧ (decode cL_law 357 = .ok (.aload_n 1, 1))) ∧ ((decode cL_law 358 = .ok (.aload_n 0, 1)) ∧ (decode cL_law 359 = .ok (.iload_n 3, 1)))) ∧ (((decode cL_law 360 = .ok (.iconst 1, 1)) ∧ (decode cL_law 361 = .ok (.iadd, 1))) ∧ ((decode cL_law 362 = .ok (.iaload, 1)) ∧ (decode cL_law 363 = .ok (.aload_n 0, 1))))) ∧ ((((decode cL_law 364 = .ok (.iload_n 3, 1)) ∧ (decode cL_law 365 = .ok (.iconst 2, 1))) ∧ ((decode cL_law 366 = .ok (.iadd, 1)) ∧ (decode cL_law 367 = .ok (.iaload, 1)))) ∧ (((decode cL_law 368 = .ok (.invokevirtual 44, 3)) ∧ (decode cL_law 371 = .ok (.pop, 1))) ∧ ((decode cL_law 372 = .ok (.aload_n 2, 1)) ∧ (decode cL_law 373 = .ok (.aload_n 0, 1)))))) := by decide +kernel
theorem dL_law_354 : decode cL_law 354 = .ok (.goto 840, 3) := kL_law_354.1.1.1.1
theorem dL_law_357 : decode cL_law 357 = .ok (.aload_n 1, 1) := kL_law_354.1.1.1.2
theorem dL_law_358 : decode cL_law 358 = .ok (.aload_n 0, 1) := kL_law_354.1.1.2.1
theorem dL_law_359 : decode cL_law 359 = .ok (.iload_n 3, 1) := kL_law_354.1.1.2.2
theorem dL_law_360 : decode cL_law 360 = .ok (.iconst 1, 1) := kL_law_354.1.2.1.1
theorem dL_law_361 : decode cL_law 361 = .ok (.iadd, 1) := kL_law_354.1.2.1.2
theorem dL_law_362 : decode cL_law 362 = .ok (.iaload, 1) := kL_law_354.1.2.2.1
theorem dL_law_363 : decode cL_law 363 = .ok (.aload_n 0, 1) := kL_law_354.1.2.2.2
theorem dL_law_364 : decode cL_law 364 = .ok (.iload_n 3, 1) := kL_law_354.2.1.1.1
theorem dL_law_365 : decode cL_law 365 = .ok (.iconst 2, 1) := kL_law_354.2.1.1.2
theorem dL_law_366 : decode cL_law 366 = .ok (.iadd, 1) := kL_law_354.2.1.2.1
theorem dL_law_367 : decode cL_law 367 = .ok (.iaload, 1) := kL_law_354.2.1.2.2
theorem dL_law_368 : decode cL_law 368 = .ok (.invokevirtual 44, 3) := kL_law_354.2.2.1.1
theorem dL_law_371 : decode cL_law 371 = .ok (.pop, 1) := kL_law_354.2.2.1.2
theorem dL_law_372 : decode cL_law 372 = .ok (.aload_n 2, 1) := kL_law_354.2.2.2.1
theorem dL_law_373 : decode cL_law 373 = .ok (.aload_n 0, 1) := kL_law_354.2.2.2.2
theorem kL_law_374 : (((((decode cL_law 374 = .ok (.iload_n 3, 1)) ∧ (decode cL_law 375 = .ok (.iconst 1, 1))) ∧ ((decode cL_law 376 = .ok (.iadd, 1)) ∧ (decode cL_law 377 = .ok (.iaload, 1)))) ∧ (((decode cL_law 378 = .ok (.aload_n 0, 1)) ∧ (decode cL_law 379 = .ok (.iload_n 3, 1))) ∧ ((decode cL_law 380 = .ok (.iconst 2, 1)) ∧ (decode cL_law 381 = .ok (.iadd, 1))))) ∧ ((((decode cL_law 382 = .ok (.iaload, 1)) ∧ (decode cL_law 383 = .ok (.invokevirtual 47, 3))) ∧ ((decode cL_law 386 = .ok (.pop, 1)) ∧ (decode cL_law 387 = .ok (.goto 807, 3)))) ∧ (((decode cL_law 390 = .ok (.aload_n 1, 1)) ∧ (decode cL_law 391 = .ok (.aload_n 0, 1))) ∧ ((decode cL_law 392 = .ok (.iload_n 3, 1)) ∧ (decode cL_law 393 = .ok (.iconst 1, 1)))))) := by decide +kernel
theorem dL_law_374 : decode cL_law 374 = .ok (.iload_n 3, 1) := kL_law_374.1.1.1.1
theorem dL_law_375 : decode cL_law 375 = .ok (.iconst 1, 1) := kL_law_374.1.1.1.2
theorem dL_law_376 : decode cL_law 376 = .ok (.iadd, 1) := kL_law_374.1.1.2.1
theorem dL_law_377 : decode cL_law 377 = .ok (.iaload, 1) := kL_law_374.1.1.2.2
theorem dL_law_378 : decode cL_law 378 = .ok (.aload_n 0, 1) := kL_law_374.1.2.1.1
theorem dL_law_379 : decode cL_law 379 = .ok (.iload_n 3, 1) := kL_law_374.1.2.1.2
theorem dL_law_380 : decode cL_law 380 = .ok (.iconst 2, 1) := kL_law_374.1.2.2.1
theorem dL_law_381 : decode cL_law 381 = .ok (.iadd, 1) := kL_law_374.1.2.2.2
theorem dL_law_382 : decode cL_law 382 = .ok (.iaload, 1) := kL_law_374.2.1.1.1
theorem dL_law_383 : decode cL_law 383 = .ok (.invokevirtual 47, 3) := kL_law_374.2.1.1.2
theorem dL_law_386 : decode cL_law 386 = .ok (.pop, 1) := kL_law_374.2.1.2.1
theorem dL_law_387 : decode cL_law 387 = .ok (.goto 807, 3) := kL_law_374.2.1.2.2
theorem dL_law_390 : decode cL_law 390 = .ok (.aload_n 1, 1) := kL_law_374.2.2.1.1
theorem dL_law_391 : decode cL_law 391 = .ok (.aload_n 0, 1) := kL_law_374.2.2.1.2
theorem dL_law_392 : decode cL_law 392 = .ok (.iload_n 3, 1) := kL_law_374.2.2.2.1
theorem dL_law_393 : decode cL_law 393 = .ok (.iconst 1, 1) := kL_law_374.2.2.2.2
theorem kL_law_394 : (((((decode cL_law 394 = .ok (.iadd, 1)) ∧ (decode cL_law 395 = .ok (.iaload, 1))) ∧ ((decode cL_law 396 = .ok (.aload_n 0, 1)) ∧ (decode cL_law 397 = .ok (.iload_n 3, 1)))) ∧ (((decode cL_law 398 = .ok (.iconst 2, 1)) ∧ (decode cL_law 399 = .ok (.iadd, 1))) ∧ ((decode cL_law 400 = .ok (.iaload, 1)) ∧ (decode cL_law 401 = .ok (.invokevirtual 48, 3))))) ∧ ((((decode cL_law 404 = .ok (.pop, 1)) ∧ (decode cL_law 405 = .ok (.aload_n 2, 1))) ∧ ((decode cL_law 406 = .ok (.aload_n 0, 1)) ∧ (decode cL_law 407 = .ok (.iload_n 3, 1)))) ∧ (((decode cL_law 408 = .ok (.iconst 1, 1)) ∧ (decode cL_law 409 = .ok (.iadd, 1))) ∧ ((decode cL_law 410 = .ok (.iaload, 1)) ∧ (decode cL_law 411 = .ok (.aload_n 0, 1)))))) := by decide +kernel
theorem dL_law_394 : decode cL_law 394 = .ok (.iadd, 1) := kL_law_394.1.1.1.1
theorem dL_law_395 : decode cL_law 395 = .ok (.iaload, 1) := kL_law_394.1.1.1.2
theorem dL_law_396 : decode cL_law 396 = .ok (.aload_n 0, 1) := kL_law_394.1.1.2.1
theorem dL_law_397 : decode cL_law 397 = .ok (.iload_n 3, 1) := kL_law_394.1.1.2.2
theorem dL_law_398 : decode cL_law 398 = .ok (.iconst 2, 1) := kL_law_394.1.2.1.1
theorem dL_law_399 : decode cL_law 399 = .ok (.iadd, 1) := kL_law_394.1.2.1.2
theorem dL_law_400 : decode cL_law 400 = .ok (.iaload, 1) := kL_law_394.1.2.2.1
theorem dL_law_401 : decode cL_law 401 = .ok (.invokevirtual 48, 3) := kL_law_394.1.2.2.2
theorem dL_law_404 : decode cL_law 404 = .ok (.pop, 1) := kL_law_394.2.1.1.1
theorem dL_law_405 : decode cL_law 405 = .ok (.aload_n 2, 1) := kL_law_394.2.1.1.2
theorem dL_law_406 : decode cL_law 406 = .ok (.aload_n 0, 1) := kL_law_394.2.1.2.1
theorem dL_law_407 : decode cL_law 407 = .ok (.iload_n 3, 1) := kL_law_394.2.1.2.2
theorem dL_law_408 : decode cL_law 408 = .ok (.iconst 1, 1) := kL_law_394.2.2.1.1
theorem dL_law_409 : decode cL_law 409 = .ok (.iadd, 1) := kL_law_394.2.2.1.2
theorem dL_law_410 : decode cL_law 410 = .ok (.iaload, 1) := kL_law_394.2.2.2.1
theorem dL_law_411 : decode cL_law 411 = .ok (.aload_n 0, 1) := kL_law_394.2.2.2.2
theorem kL_law_412 : (((((decode cL_law 412 = .ok (.iload_n 3, 1)) ∧ (decode cL_law 413 = .ok (.iconst 2, 1))) ∧ ((decode cL_law 414 = .ok (.iadd, 1)) ∧ (decode cL_law 415 = .ok (.iaload, 1)))) ∧ (((decode cL_law 416 = .ok (.invokevirtual 51, 3)) ∧ (decode cL_law 419 = .ok (.pop, 1))) ∧ ((decode cL_law 420 = .ok (.goto 774, 3)) ∧ (decode cL_law 423 = .ok (.aload_n 1, 1))))) ∧ ((((decode cL_law 424 = .ok (.aload_n 0, 1)) ∧ (decode cL_law 425 = .ok (.iload_n 3, 1))) ∧ ((decode cL_law 426 = .ok (.iconst 1, 1)) ∧ (decode cL_law 427 = .ok (.iadd, 1)))) ∧ (((decode cL_law 428 = .ok (.iaload, 1)) ∧ (decode cL_law 429 = .ok (.invokevirtual 52, 3))) ∧ ((decode cL_law 432 = .ok (.pop, 1)) ∧ (decode cL_law 433 = .ok (.aload_n 2, 1)))))) := by decide +kernel
theorem dL_law_412 : decode cL_law 412 = .ok (.iload_n 3, 1) := kL_law_412.1.1.1.1
theorem dL_law_413 : decode cL_law 413 = .ok (.iconst 2, 1) := kL_law_412.1.1.1.2
theorem dL_law_414 : decode cL_law 414 = .ok (.iadd, 1) := kL_law_412.1.1.2.1
theorem dL_law_415 : decode cL_law 415 = .ok (.iaload, 1) := kL_law_412.1.1.2.2
theorem dL_law_416 : decode cL_law 416 = .ok (.invokevirtual 51, 3) := kL_law_412.1.2.1.1
theorem dL_law_419 : decode cL_law 419 = .ok (.pop, 1) := kL_law_412.1.2.1.2
theorem dL_law_420 : decode cL_law 420 = .ok (.goto 774, 3) := kL_law_412.1.2.2.1
theorem dL_law_423 : decode cL_law 423 = .ok (.aload_n 1, 1) := kL_law_412.1.2.2.2
theorem dL_law_424 : decode cL_law 424 = .ok (.aload_n 0, 1) := kL_law_412.2.1.1.1
theorem dL_law_425 : decode cL_law 425 = .ok (.iload_n 3, 1) := kL_law_412.2.1.1.2
theorem dL_law_426 : decode cL_law 426 = .ok (.iconst 1, 1) := kL_law_412.2.1.2.1
theorem dL_law_427 : decode cL_law 427 = .ok (.iadd, 1) := kL_law_412.2.1.2.2
theorem dL_law_428 : decode cL_law 428 = .ok (.iaload, 1) := kL_law_412.2.2.1.1
theorem dL_law_429 : decode cL_law 429 = .ok (.invokevirtual 52, 3) := kL_law_412.2.2.1.2
theorem dL_law_432 : decode cL_law 432 = .ok (.pop, 1) := kL_law_412.2.2.2.1
theorem dL_law_433 : decode cL_law 433 = .ok (.aload_n 2, 1) := kL_law_412.2.2.2.2
theorem kL_law_434 : (((((decode cL_law 434 = .ok (.aload_n 0, 1)) ∧ (decode cL_law 435 = .ok (.iload_n 3, 1))) ∧ ((decode cL_law 436 = .ok (.iconst 1, 1)) ∧ (decode cL_law 437 = .ok (.iadd, 1)))) ∧ (((decode cL_law 438 = .ok (.iaload, 1)) ∧ (decode cL_law 439 = .ok (.invokevirtual 55, 3))) ∧ ((decode cL_law 442 = .ok (.pop, 1)) ∧ (decode cL_law 443 = .ok (.goto 751, 3))))) ∧ ((((decode cL_law 446 = .ok (.aload_n 1, 1)) ∧ (decode cL_law 447 = .ok (.invokevirtual 56, 3))) ∧ ((decode cL_law 450 = .ok (.pop, 1)) ∧ (decode cL_law 451 = .ok (.aload_n 2, 1)))) ∧ (((decode cL_law 452 = .ok (.invokevirtual 59, 3)) ∧ (decode cL_law 455 = .ok (.pop, 1))) ∧ ((decode cL_law 456 = .ok (.goto 738, 3)) ∧ (decode cL_law 459 = .ok (.aload_n 1, 1)))))) := by decide +kernel
theorem dL_law_434 : decode cL_law 434 = .ok (.aload_n 0, 1) := kL_law_434.1.1.1.1
theorem dL_law_435 : decode cL_law 435 = .ok (.iload_n 3, 1) := kL_law_434.1.1.1.2
theorem dL_law_436 : decode cL_law 436 = .ok (.iconst 1, 1) := kL_law_434.1.1.2.1
theorem dL_law_437 : decode cL_law 437 = .ok (.iadd, 1) := kL_law_434.1.1.2.2
theorem dL_law_438 : decode cL_law 438 = .ok (.iaload, 1) := kL_law_434.1.2.1.1
theorem dL_law_439 : decode cL_law 439 = .ok (.invokevirtual 55, 3) := kL_law_434.1.2.1.2
theorem dL_law_442 : decode cL_law 442 = .ok (.pop, 1) := kL_law_434.1.2.2.1
theorem dL_law_443 : decode cL_law 443 = .ok (.goto 751, 3) := kL_law_434.1.2.2.2
theorem dL_law_446 : decode cL_law 446 = .ok (.aload_n 1, 1) := kL_law_434.2.1.1.1
theorem dL_law_447 : decode cL_law 447 = .ok (.invokevirtual 56, 3) := kL_law_434.2.1.1.2
theorem dL_law_450 : decode cL_law 450 = .ok (.pop, 1) := kL_law_434.2.1.2.1
theorem dL_law_451 : decode cL_law 451 = .ok (.aload_n 2, 1) := kL_law_434.2.1.2.2
theorem dL_law_452 : decode cL_law 452 = .ok (.invokevirtual 59, 3) := kL_law_434.2.2.1.1
theorem dL_law_455 : decode cL_law 455 = .ok (.pop, 1) := kL_law_434.2.2.1.2
theorem dL_law_456 : decode cL_law 456 = .ok (.goto 738, 3) := kL_law_434.2.2.2.1
theorem dL_law_459 : decode cL_law 459 = .ok (.aload_n 1, 1) := kL_law_434.2.2.2.2
theorem kL_law_460 : (((((decode cL_law 460 = .ok (.aload_n 0, 1)) ∧ (decode cL_law 461 = .ok (.iload_n 3, 1))) ∧ ((decode cL_law 462 = .ok (.iconst 1, 1)) ∧ (decode cL_law 463 = .ok (.iadd, 1)))) ∧ (((decode cL_law 464 = .ok (.iaload, 1)) ∧ (decode cL_law 465 = .ok (.invokevirtual 60, 3))) ∧ ((decode cL_law 468 = .ok (.pop, 1)) ∧ (decode cL_law 469 = .ok (.aload_n 2, 1))))) ∧ ((((decode cL_law 470 = .ok (.aload_n 0, 1)) ∧ (decode cL_law 471 = .ok (.iload_n 3, 1))) ∧ ((decode cL_law 472 = .ok (.iconst 1, 1)) ∧ (decode cL_law 473 = .ok (.iadd, 1)))) ∧ (((decode cL_law 474 = .ok (.iaload, 1)) ∧ (decode cL_law 475 = .ok (.invokevirtual 63, 3))) ∧ ((decode cL_law 478 = .ok (.pop, 1)) ∧ (decode cL_law 479 = .ok (.goto 715, 3)))))) := by decide +kernel
theorem dL_law_460 : decode cL_law 460 = .ok (.aload_n 0, 1) := kL_law_460.1.1.1.1
theorem dL_law_461 : decode cL_law 461 = .ok (.iload_n 3, 1) := kL_law_460.1.1.1.2
theorem dL_law_462 : decode cL_law 462 = .ok (.iconst 1, 1) := kL_law_460.1.1.2.1
theorem dL_law_463 : decode cL_law 463 = .ok (.iadd, 1) := kL_law_460.1.1.2.2
theorem dL_law_464 : decode cL_law 464 = .ok (.iaload, 1) := kL_law_460.1.2.1.1
theorem dL_law_465 : decode cL_law 465 = .ok (.invokevirtual 60, 3) := kL_law_460.1.2.1.2
theorem dL_law_468 : decode cL_law 468 = .ok (.pop, 1) := kL_law_460.1.2.2.1
theorem dL_law_469 : decode cL_law 469 = .ok (.aload_n 2, 1) := kL_law_460.1.2.2.2
theorem dL_law_470 : decode cL_law 470 = .ok (.aload_n 0, 1) := kL_law_460.2.1.1.1
theorem dL_law_471 : decode cL_law 471 = .ok (.iload_n 3, 1) := kL_law_460.2.1.1.2
theorem dL_law_472 : decode cL_law 472 = .ok (.iconst 1, 1) := kL_law_460.2.1.2.1
theorem dL_law_473 : decode cL_law 473 = .ok (.iadd, 1) := kL_law_460.2.1.2.2
theorem dL_law_474 : decode cL_law 474 = .ok (.iaload, 1) := kL_law_460.2.2.1.1
theorem dL_law_475 : decode cL_law 475 = .ok (.invokevirtual 63, 3) := kL_law_460.2.2.1.2
theorem dL_law_478 : decode cL_law 478 = .ok (.pop, 1) := kL_law_460.2.2.2.1
theorem dL_law_479 : decode cL_law 479 = .ok (.goto 715, 3) := kL_law_460.2.2.2.2
theorem kL_law_482 : (((((decode cL_law 482 = .ok (.aload_n 1, 1)) ∧ (decode cL_law 483 = .ok (.aload_n 0, 1))) ∧ ((decode cL_law 484 = .ok (.iload_n 3, 1)) ∧ (decode cL_law 485 = .ok (.iconst 1, 1)))) ∧ (((decode cL_law 486 = .ok (.iadd, 1)) ∧ (decode cL_law 487 = .ok (.iaload, 1))) ∧ ((decode cL_law 488 = .ok (.aload_n 0, 1)) ∧ (decode cL_law 489 = .ok (.iload_n 3, 1))))) ∧ ((((decode cL_law 490 = .ok (.iconst 2, 1)) ∧ (decode cL_law 491 = .ok (.iadd, 1))) ∧ ((decode cL_law 492 = .ok (.iaload, 1)) ∧ (decode cL_law 493 = .ok (.invokevirtual 64, 3)))) ∧ (((decode cL_law 496 = .ok (.pop, 1)) ∧ (decode cL_law 497 = .ok (.aload_n 2, 1))) ∧ ((decode cL_law 498 = .ok (.aload_n 0, 1)) ∧ (decode cL_law 499 = .ok (.iload_n 3, 1)))))) := by decide +kernel
theorem dL_law_482 : decode cL_law 482 = .ok (.aload_n 1, 1) := kL_law_482.1.1.1.1
theorem dL_law_483 : decode cL_law 483 = .ok (.aload_n 0, 1) := kL_law_482.1.1.1.2
theorem dL_law_484 : decode cL_law 484 = .ok (.iload_n 3, 1) := kL_law_482.1.1.2.1
theorem dL_law_485 : decode cL_law 485 = .ok (.iconst 1, 1) := kL_law_482.1.1.2.2
theorem dL_law_486 : decode cL_law 486 = .ok (.iadd, 1) := kL_law_482.1.2.1.1
theorem dL_law_487 : decode cL_law 487 = .ok (.iaload, 1) := kL_law_482.1.2.1.2
theorem dL_law_488 : decode cL_law 488 = .ok (.aload_n 0, 1) := kL_law_482.1.2.2.1
theorem dL_law_489 : decode cL_law 489 = .ok (.iload_n 3, 1) := kL_law_482.1.2.2.2
theorem dL_law_490 : decode cL_law 490 = .ok (.iconst 2, 1) := kL_law_482.2.1.1.1
theorem dL_law_491 : decode cL_law 491 = .ok (.iadd, 1) := kL_law_482.2.1.1.2
theorem dL_law_492 : decode cL_law 492 = .ok (.iaload, 1) := kL_law_482.2.1.2.1
theorem dL_law_493 : decode cL_law 493 = .ok (.invokevirtual 64, 3) := kL_law_482.2.1.2.2
theorem dL_law_496 : decode cL_law 496 = .ok (.pop, 1) := kL_law_482.2.2.1.1
theorem dL_law_497 : decode cL_law 497 = .ok (.aload_n 2, 1) := kL_law_482.2.2.1.2
theorem dL_law_498 : decode cL_law 498 = .ok (.aload_n 0, 1) := kL_law_482.2.2.2.1
theorem dL_law_499 : decode cL_law 499 = .ok (.iload_n 3, 1) := kL_law_482.2.2.2.2
theorem kL_law_500 : (((((decode cL_law 500 = .ok (.iconst 1, 1)) ∧ (decode cL_law 501 = .ok (.iadd, 1))) ∧ ((decode cL_law 502 = .ok (.iaload, 1)) ∧ (decode cL_law 503 = .ok (.aload_n 0, 1)))) ∧ (((decode cL_law 504 = .ok (.iload_n 3, 1)) ∧ (decode cL_law 505 = .ok (.iconst 2, 1))) ∧ ((decode cL_law 506 = .ok (.iadd, 1)) ∧ (decode cL_law 507 = .ok (.iaload, 1))))) ∧ ((((decode cL_law 508 = .ok (.invokevirtual 67, 3)) ∧ (decode cL_law 511 = .ok (.pop, 1))) ∧ ((decode cL_law 512 = .ok (.goto 682, 3)) ∧ (decode cL_law 515 = .ok (.aload_n 1, 1)))) ∧ (((decode cL_law 516 = .ok (.aload_n 0, 1)) ∧ (decode cL_law 517 = .ok (.iload_n 3, 1))) ∧ ((decode cL_law 518 = .ok (.iconst 1, 1)) ∧ (decode cL_law 519 = .ok (.iadd, 1)))))) := by decide +kernel
theorem dL_law_500 : decode cL_law 500 = .ok (.iconst 1, 1) := kL_law_500.1.1.1.1
theorem dL_law_501 : decode cL_law 501 = .ok (.iadd, 1) := kL_law_500.1.1.1.2
theorem dL_law_502 : decode cL_law 502 = .ok (.iaload, 1) := kL_law_500.1.1.2.1
theorem dL_law_503 : decode cL_law 503 = .ok (.aload_n 0, 1) := kL_law_500.1.1.2.2
theorem dL_law_504 : decode cL_law 504 = .ok (.iload_n 3, 1) := kL_law_500.1.2.1.1
theorem dL_law_505 : decode cL_law 505 = .ok (.iconst 2, 1) := kL_law_500.1.2.1.2
theorem dL_law_506 : decode cL_law 506 = .ok (.iadd, 1) := kL_law_500.1.2.2.1
theorem dL_law_507 : decode cL_law 507 = .ok (.iaload, 1) := kL_law_500.1.2.2.2
theorem dL_law_508 : decode cL_law 508 = .ok (.invokevirtual 67, 3) := kL_law_500.2.1.1.1
theorem dL_law_511 : decode cL_law 511 = .ok (.pop, 1) := kL_law_500.2.1.1.2
theorem dL_law_512 : decode cL_law 512 = .ok (.goto 682, 3) := kL_law_500.2.1.2.1
theorem dL_law_515 : decode cL_law 515 = .ok (.aload_n 1, 1) := kL_law_500.2.1.2.2
theorem dL_law_516 : decode cL_law 516 = .ok (.aload_n 0, 1) := kL_law_500.2.2.1.1
theorem dL_law_517 : decode cL_law 517 = .ok (.iload_n 3, 1) := kL_law_500.2.2.1.2
theorem dL_law_518 : decode cL_law 518 = .ok (.iconst 1, 1) := kL_law_500.2.2.2.1
theorem dL_law_519 : decode cL_law 519 = .ok (.iadd, 1) := kL_law_500.2.2.2.2
theorem kL_law_520 : (((((decode cL_law 520 = .ok (.iaload, 1)) ∧ (decode cL_law 521 = .ok (.invokevirtual 68, 3))) ∧ ((decode cL_law 524 = .ok (.pop, 1)) ∧ (decode cL_law 525 = .ok (.aload_n 2, 1)))) ∧ (((decode cL_law 526 = .ok (.aload_n 0, 1)) ∧ (decode cL_law 527 = .ok (.iload_n 3, 1))) ∧ ((decode cL_law 528 = .ok (.iconst 1, 1)) ∧ (decode cL_law 529 = .ok (.iadd, 1))))) ∧ ((((decode cL_law 530 = .ok (.iaload, 1)) ∧ (decode cL_law 531 = .ok (.invokevirtual 71, 3))) ∧ ((decode cL_law 534 = .ok (.pop, 1)) ∧ (decode cL_law 535 = .ok (.goto 659, 3)))) ∧ (((decode cL_law 538 = .ok (.aload_n 1, 1)) ∧ (decode cL_law 539 = .ok (.aload_n 0, 1))) ∧ ((decode cL_law 540 = .ok (.iload_n 3, 1)) ∧ (decode cL_law 541 = .ok (.iconst 1, 1)))))) := by decide +kernel
theorem dL_law_520 : decode cL_law 520 = .ok (.iaload, 1) := kL_law_520.1.1.1.1
theorem dL_law_521 : decode cL_law 521 = .ok (.invokevirtual 68, 3) := kL_law_520.1.1.1.2
theorem dL_law_524 : decode cL_law 524 = .ok (.pop, 1) := kL_law_520.1.1.2.1
theorem dL_law_525 : decode cL_law 525 = .ok (.aload_n 2, 1) := kL_law_520.1.1.2.2
theorem dL_law_526 : decode cL_law 526 = .ok (.aload_n 0, 1) := kL_law_520.1.2.1.1
theorem dL_law_527 : decode cL_law 527 = .ok (.iload_n 3, 1) := kL_law_520.1.2.1.2
theorem dL_law_528 : decode cL_law 528 = .ok (.iconst 1, 1) := kL_law_520.1.2.2.1
theorem dL_law_529 : decode cL_law 529 = .ok (.iadd, 1) := kL_law_520.1.2.2.2
theorem dL_law_530 : decode cL_law 530 = .ok (.iaload, 1) := kL_law_520.2.1.1.1
theorem dL_law_531 : decode cL_law 531 = .ok (.invokevirtual 71, 3) := kL_law_520.2.1.1.2
theorem dL_law_534 : decode cL_law 534 = .ok (.pop, 1) := kL_law_520.2.1.2.1
theorem dL_law_535 : decode cL_law 535 = .ok (.goto 659, 3) := kL_law_520.2.1.2.2
theorem dL_law_538 : decode cL_law 538 = .ok (.aload_n 1, 1) := kL_law_520.2.2.1.1
theorem dL_law_539 : decode cL_law 539 = .ok (.aload_n 0, 1) := kL_law_520.2.2.1.2
theorem dL_law_540 : decode cL_law 540 = .ok (.iload_n 3, 1) := kL_law_520.2.2.2.1
theorem dL_law_541 : decode cL_law 541 = .ok (.iconst 1, 1) := kL_law_520.2.2.2.2
theorem kL_law_542 : (((((decode cL_law 542 = .ok (.iadd, 1)) ∧ (decode cL_law 543 = .ok (.iaload, 1))) ∧ ((decode cL_law 544 = .ok (.invokevirtual 72, 3)) ∧ (decode cL_law 547 = .ok (.pop, 1)))) ∧ (((decode cL_law 548 = .ok (.aload_n 2, 1)) ∧ (decode cL_law 549 = .ok (.aload_n 0, 1))) ∧ ((decode cL_law 550 = .ok (.iload_n 3, 1)) ∧ (decode cL_law 551 = .ok (.iconst 1, 1))))) ∧ ((((decode cL_law 552 = .ok (.iadd, 1)) ∧ (decode cL_law 553 = .ok (.iaload, 1))) ∧ ((decode cL_law 554 = .ok (.invokevirtual 75, 3)) ∧ (decode cL_law 557 = .ok (.pop, 1)))) ∧ (((decode cL_law 558 = .ok (.goto 636, 3)) ∧ (decode cL_law 561 = .ok (.aload_n 1, 1))) ∧ ((decode cL_law 562 = .ok (.invokevirtual 76, 3)) ∧ (decode cL_law 565 = .ok (.pop, 1)))))) := by decide +kernel
theorem dL_law_542 : decode cL_law 542 = .ok (.iadd, 1) := kL_law_542.1.1.1.1
theorem dL_law_543 : decode cL_law 543 = .ok (.iaload, 1) := kL_law_542.1.1.1.2
theorem dL_law_544 : decode cL_law 544 = .ok (.invokevirtual 72, 3) := kL_law_542.1.1.2.1
theorem dL_law_547 : decode cL_law 547 = .ok (.pop, 1) := kL_law_542.1.1.2.2
theorem dL_law_548 : decode cL_law 548 = .ok (.aload_n 2, 1) := kL_law_542.1.2.1.1
theorem dL_law_549 : decode cL_law 549 = .ok (.aload_n 0, 1) := kL_law_542.1.2.1.2
theorem dL_law_550 : decode cL_law 550 = .ok (.iload_n 3, 1) := kL_law_542.1.2.2.1
theorem dL_law_551 : decode cL_law 551 = .ok (.iconst 1, 1) := kL_law_542.1.2.2.2
theorem dL_law_552 : decode cL_law 552 = .ok (.iadd, 1) := kL_law_542.2.1.1.1
theorem dL_law_553 : decode cL_law 553 = .ok (.iaload, 1) := kL_law_542.2.1.1.2
theorem dL_law_554 : decode cL_law 554 = .ok (.invokevirtual 75, 3) := kL_law_542.2.1.2.1
theorem dL_law_557 : decode cL_law 557 = .ok (.pop, 1) := kL_law_542.2.1.2.2
theorem dL_law_558 : decode cL_law 558 = .ok (.goto 636, 3) := kL_law_542.2.2.1.1
theorem dL_law_561 : decode cL_law 561 = .ok (.aload_n 1, 1) := kL_law_542.2.2.1.2
theorem dL_law_562 : decode cL_law 562 = .ok (.invokevirtual 76, 3) := kL_law_542.2.2.2.1
theorem dL_law_565 : decode cL_law 565 = .ok (.pop, 1) := kL_law_542.2.2.2.2
theorem kL_law_566 : (((((decode cL_law 566 = .ok (.aload_n 2, 1)) ∧ (decode cL_law 567 = .ok (.invokevirtual 79, 3))) ∧ ((decode cL_law 570 = .ok (.pop, 1)) ∧ (decode cL_law 571 = .ok (.goto 623, 3)))) ∧ (((decode cL_law 574 = .ok (.aload_n 1, 1)) ∧ (decode cL_law 575 = .ok (.invokevirtual 80, 3))) ∧ ((decode cL_law 578 = .ok (.pop, 1)) ∧ (decode cL_law 579 = .ok (.aload_n 2, 1))))) ∧ ((((decode cL_law 580 = .ok (.invokevirtual 83, 3)) ∧ (decode cL_law 583 = .ok (.pop, 1))) ∧ ((decode cL_law 584 = .ok (.goto 610, 3)) ∧ (decode cL_law 587 = .ok (.aload_n 1, 1)))) ∧ (((decode cL_law 588 = .ok (.aload_n 0, 1)) ∧ (decode cL_law 589 = .ok (.iload_n 3, 1))) ∧ ((decode cL_law 590 = .ok (.iconst 1, 1)) ∧ (decode cL_law 591 = .ok (.iadd, 1)))))) := by decide +kernel
theorem dL_law_566 : decode cL_law 566 = .ok (.aload_n 2, 1) := kL_law_566.1.1.1.1
theorem dL_law_567 : decode cL_law 567 = .ok (.invokevirtual 79, 3) := kL_law_566.1.1.1.2
theorem dL_law_570 : decode cL_law 570 = .ok (.pop, 1) := kL_law_566.1.1.2.1
theorem dL_law_571 : decode cL_law 571 = .ok (.goto 623, 3) := kL_law_566.1.1.2.2
theorem dL_law_574 : decode cL_law 574 = .ok (.aload_n 1, 1) := kL_law_566.1.2.1.1
theorem dL_law_575 : decode cL_law 575 = .ok (.invokevirtual 80, 3) := kL_law_566.1.2.1.2
theorem dL_law_578 : decode cL_law 578 = .ok (.pop, 1) := kL_law_566.1.2.2.1
theorem dL_law_579 : decode cL_law 579 = .ok (.aload_n 2, 1) := kL_law_566.1.2.2.2
theorem dL_law_580 : decode cL_law 580 = .ok (.invokevirtual 83, 3) := kL_law_566.2.1.1.1
theorem dL_law_583 : decode cL_law 583 = .ok (.pop, 1) := kL_law_566.2.1.1.2
theorem dL_law_584 : decode cL_law 584 = .ok (.goto 610, 3) := kL_law_566.2.1.2.1
theorem dL_law_587 : decode cL_law 587 = .ok (.aload_n 1, 1) := kL_law_566.2.1.2.2
theorem dL_law_588 : decode cL_law 588 = .ok (.aload_n 0, 1) := kL_law_566.2.2.1.1
theorem dL_law_589 : decode cL_law 589 = .ok (.iload_n 3, 1) := kL_law_566.2.2.1.2
theorem dL_law_590 : decode cL_law 590 = .ok (.iconst 1, 1) := kL_law_566.2.2.2.1
theorem dL_law_591 : decode cL_law 591 = .ok (.iadd, 1) := kL_law_566.2.2.2.2
theorem kL_law_592 : (((((decode cL_law 592 = .ok (.iaload, 1)) ∧ (decode cL_law 593 = .ok (.aload_n 0, 1))) ∧ ((decode cL_law 594 = .ok (.iload_n 3, 1)) ∧ (decode cL_law 595 = .ok (.iconst 2, 1)))) ∧ (((decode cL_law 596 = .ok (.iadd, 1)) ∧ (decode cL_law 597 = .ok (.iaload, 1))) ∧ ((decode cL_law 598 = .ok (.invokevirtual 84, 3)) ∧ (decode cL_law 601 = .ok (.pop, 1))))) ∧ ((((decode cL_law 602 = .ok (.aload_n 2, 1)) ∧ (decode cL_law 603 = .ok (.aload_n 0, 1))) ∧ ((decode cL_law 604 = .ok (.iload_n 3, 1)) ∧ (decode cL_law 605 = .ok (.iconst 1, 1)))) ∧ (((decode cL_law 606 = .ok (.iadd, 1)) ∧ (decode cL_law 607 = .ok (.iaload, 1))) ∧ ((decode cL_law 608 = .ok (.aload_n 0, 1)) ∧ (decode cL_law 609 = .ok (.iload_n 3, 1)))))) := by decide +kernel
theorem dL_law_592 : decode cL_law 592 = .ok (.iaload, 1) := kL_law_592.1.1.1.1
theorem dL_law_593 : decode cL_law 593 = .ok (.aload_n 0, 1) := kL_law_592.1.1.1.2
theorem dL_law_594 : decode cL_law 594 = .ok (.iload_n 3, 1) := kL_law_592.1.1.2.1
theorem dL_law_595 : decode cL_law 595 = .ok (.iconst 2, 1) := kL_law_592.1.1.2.2
theorem dL_law_596 : decode cL_law 596 = .ok (.iadd, 1) := kL_law_592.1.2.1.1
theorem dL_law_597 : decode cL_law 597 = .ok (.iaload, 1) := kL_law_592.1.2.1.2
theorem dL_law_598 : decode cL_law 598 = .ok (.invokevirtual 84, 3) := kL_law_592.1.2.2.1
theorem dL_law_601 : decode cL_law 601 = .ok (.pop, 1) := kL_law_592.1.2.2.2
theorem dL_law_602 : decode cL_law 602 = .ok (.aload_n 2, 1) := kL_law_592.2.1.1.1
theorem dL_law_603 : decode cL_law 603 = .ok (.aload_n 0, 1) := kL_law_592.2.1.1.2
theorem dL_law_604 : decode cL_law 604 = .ok (.iload_n 3, 1) := kL_law_592.2.1.2.1
theorem dL_law_605 : decode cL_law 605 = .ok (.iconst 1, 1) := kL_law_592.2.1.2.2
theorem dL_law_606 : decode cL_law 606 = .ok (.iadd, 1) := kL_law_592.2.2.1.1
theorem dL_law_607 : decode cL_law 607 = .ok (.iaload, 1) := kL_law_592.2.2.1.2
theorem dL_law_608 : decode cL_law 608 = .ok (.aload_n 0, 1) := kL_law_592.2.2.2.1
theorem dL_law_609 : decode cL_law 609 = .ok (.iload_n 3, 1) := kL_law_592.2.2.2.2
theorem kL_law_610 : (((((decode cL_law 610 = .ok (.iconst 2, 1)) ∧ (decode cL_law 611 = .ok (.iadd, 1))) ∧ ((decode cL_law 612 = .ok (.iaload, 1)) ∧ (decode cL_law 613 = .ok (.invokevirtual 87, 3)))) ∧ (((decode cL_law 616 = .ok (.pop, 1)) ∧ (decode cL_law 617 = .ok (.goto 577, 3))) ∧ ((decode cL_law 620 = .ok (.aload_n 1, 1)) ∧ (decode cL_law 621 = .ok (.aload_n 0, 1))))) ∧ ((((decode cL_law 622 = .ok (.iload_n 3, 1)) ∧ (decode cL_law 623 = .ok (.iconst 1, 1))) ∧ ((decode cL_law 624 = .ok (.iadd, 1)) ∧ (decode cL_law 625 = .ok (.iaload, 1)))) ∧ (((decode cL_law 626 = .ok (.aload_n 0, 1)) ∧ (decode cL_law 627 = .ok (.iload_n 3, 1))) ∧ ((decode cL_law 628 = .ok (.iconst 2, 1)) ∧ (decode cL_law 629 = .ok (.iadd, 1)))))) := by decide +kernel
theorem dL_law_610 : decode cL_law 610 = .ok (.iconst 2, 1) := kL_law_610.1.1.1.1
theorem dL_law_611 : decode cL_law 611 = .ok (.iadd, 1) := kL_law_610.1.1.1.2
theorem dL_law_612 : decode cL_law 612 = .ok (.iaload, 1) := kL_law_610.1.1.2.1
theorem dL_law_613 : decode cL_law 613 = .ok (.invokevirtual 87, 3) := kL_law_610.1.1.2.2
theorem dL_law_616 : decode cL_law 616 = .ok (.pop, 1) := kL_law_610.1.2.1.1
theorem dL_law_617 : decode cL_law 617 = .ok (.goto 577, 3) := kL_law_610.1.2.1.2
theorem dL_law_620 : decode cL_law 620 = .ok (.aload_n 1, 1) := kL_law_610.1.2.2.1
theorem dL_law_621 : decode cL_law 621 = .ok (.aload_n 0, 1) := kL_law_610.1.2.2.2
theorem dL_law_622 : decode cL_law 622 = .ok (.iload_n 3, 1) := kL_law_610.2.1.1.1
theorem dL_law_623 : decode cL_law 623 = .ok (.iconst 1, 1) := kL_law_610.2.1.1.2
theorem dL_law_624 : decode cL_law 624 = .ok (.iadd, 1) := kL_law_610.2.1.2.1
theorem dL_law_625 : decode cL_law 625 = .ok (.iaload, 1) := kL_law_610.2.1.2.2
theorem dL_law_626 : decode cL_law 626 = .ok (.aload_n 0, 1) := kL_law_610.2.2.1.1
theorem dL_law_627 : decode cL_law 627 = .ok (.iload_n 3, 1) := kL_law_610.2.2.1.2
theorem dL_law_628 : decode cL_law 628 = .ok (.iconst 2, 1) := kL_law_610.2.2.2.1
theorem dL_law_629 : decode cL_law 629 = .ok (.iadd, 1) := kL_law_610.2.2.2.2
theorem kL_law_630 : (((((decode cL_law 630 = .ok (.iaload, 1)) ∧ (decode cL_law 631 = .ok (.aload_n 0, 1))) ∧ ((decode cL_law 632 = .ok (.iload_n 3, 1)) ∧ (decode cL_law 633 = .ok (.iconst 3, 1)))) ∧ (((decode cL_law 634 = .ok (.iadd, 1)) ∧ (decode cL_law 635 = .ok (.iaload, 1))) ∧ ((decode cL_law 636 = .ok (.invokevirtual 88, 3)) ∧ (decode cL_law 639 = .ok (.pop, 1))))) ∧ ((((decode cL_law 640 = .ok (.aload_n 2, 1)) ∧ (decode cL_law 641 = .ok (.aload_n 0, 1))) ∧ ((decode cL_law 642 = .ok (.iload_n 3, 1)) ∧ (decode cL_law 643 = .ok (.iconst 1, 1)))) ∧ (((decode cL_law 644 = .ok (.iadd, 1)) ∧ (decode cL_law 645 = .ok (.iaload, 1))) ∧ ((decode cL_law 646 = .ok (.aload_n 0, 1)) ∧ (decode cL_law 647 = .ok (.iload_n 3, 1)))))) := by decide +kernel
theorem dL_law_630 : decode cL_law 630 = .ok (.iaload, 1) := kL_law_630.1.1.1.1
theorem dL_law_631 : decode cL_law 631 = .ok (.aload_n 0, 1) := kL_law_630.1.1.1.2
theorem dL_law_632 : decode cL_law 632 = .ok (.iload_n 3, 1) := kL_law_630.1.1.2.1
theorem dL_law_633 : decode cL_law 633 = .ok (.iconst 3, 1) := kL_law_630.1.1.2.2
theorem dL_law_634 : decode cL_law 634 = .ok (.iadd, 1) := kL_law_630.1.2.1.1
theorem dL_law_635 : decode cL_law 635 = .ok (.iaload, 1) := kL_law_630.1.2.1.2
theorem dL_law_636 : decode cL_law 636 = .ok (.invokevirtual 88, 3) := kL_law_630.1.2.2.1
theorem dL_law_639 : decode cL_law 639 = .ok (.pop, 1) := kL_law_630.1.2.2.2
theorem dL_law_640 : decode cL_law 640 = .ok (.aload_n 2, 1) := kL_law_630.2.1.1.1
theorem dL_law_641 : decode cL_law 641 = .ok (.aload_n 0, 1) := kL_law_630.2.1.1.2
theorem dL_law_642 : decode cL_law 642 = .ok (.iload_n 3, 1) := kL_law_630.2.1.2.1
theorem dL_law_643 : decode cL_law 643 = .ok (.iconst 1, 1) := kL_law_630.2.1.2.2
theorem dL_law_644 : decode cL_law 644 = .ok (.iadd, 1) := kL_law_630.2.2.1.1
theorem dL_law_645 : decode cL_law 645 = .ok (.iaload, 1) := kL_law_630.2.2.1.2
theorem dL_law_646 : decode cL_law 646 = .ok (.aload_n 0, 1) := kL_law_630.2.2.2.1
theorem dL_law_647 : decode cL_law 647 = .ok (.iload_n 3, 1) := kL_law_630.2.2.2.2
theorem kL_law_648 : (((((decode cL_law 648 = .ok (.iconst 2, 1)) ∧ (decode cL_law 649 = .ok (.iadd, 1))) ∧ ((decode cL_law 650 = .ok (.iaload, 1)) ∧ (decode cL_law 651 = .ok (.aload_n 0, 1)))) ∧ (((decode cL_law 652 = .ok (.iload_n 3, 1)) ∧ (decode cL_law 653 = .ok (.iconst 3, 1))) ∧ ((decode cL_law 654 = .ok (.iadd, 1)) ∧ (decode cL_law 655 = .ok (.iaload, 1))))) ∧ ((((decode cL_law 656 = .ok (.invokevirtual 92, 3)) ∧ (decode cL_law 659 = .ok (.pop, 1))) ∧ ((decode cL_law 660 = .ok (.goto 534, 3)) ∧ (decode cL_law 663 = .ok (.aload_n 1, 1)))) ∧ (((decode cL_law 664 = .ok (.aload_n 0, 1)) ∧ (decode cL_law 665 = .ok (.iload_n 3, 1))) ∧ ((decode cL_law 666 = .ok (.iconst 1, 1)) ∧ (decode cL_law 667 = .ok (.iadd, 1)))))) := by decide +kernel
theorem dL_law_648 : decode cL_law 648 = .ok (.iconst 2, 1) := kL_law_648.1.1.1.1
theorem dL_law_649 : decode cL_law 649 = .ok (.iadd, 1) := kL_law_648.1.1.1.2
theorem dL_law_650 : decode cL_law 650 = .ok (.iaload, 1) := kL_law_648.1.1.2.1
theorem dL_law_651 : decode cL_law 651 = .ok (.aload_n 0, 1) := kL_law_648.1.1.2.2
theorem dL_law_652 : decode cL_law 652 = .ok (.iload_n 3, 1) := kL_law_648.1.2.1.1
theorem dL_law_653 : decode cL_law 653 = .ok (.iconst 3, 1) := kL_law_648.1.2.1.2
theorem dL_law_654 : decode cL_law 654 = .ok (.iadd, 1) := kL_law_648.1.2.2.1
theorem dL_law_655 : decode cL_law 655 = .ok (.iaload, 1) := kL_law_648.1.2.2.2
theorem dL_law_656 : decode cL_law 656 = .ok (.invokevirtual 92, 3) := kL_law_648.2.1.1.1
theorem dL_law_659 : decode cL_law 659 = .ok (.pop, 1) := kL_law_648.2.1.1.2
theorem dL_law_660 : decode cL_law 660 = .ok (.goto 534, 3) := kL_law_648.2.1.2.1
theorem dL_law_663 : decode cL_law 663 = .ok (.aload_n 1, 1) := kL_law_648.2.1.2.2
theorem dL_law_664 : decode cL_law 664 = .ok (.aload_n 0, 1) := kL_law_648.2.2.1.1
theorem dL_law_665 : decode cL_law 665 = .ok (.iload_n 3, 1) := kL_law_648.2.2.1.2
theorem dL_law_666 : decode cL_law 666 = .ok (.iconst 1, 1) := kL_law_648.2.2.2.1
theorem dL_law_667 : decode cL_law 667 = .ok (.iadd, 1) := kL_law_648.2.2.2.2
theorem kL_law_668 : (((((decode cL_law 668 = .ok (.iaload, 1)) ∧ (decode cL_law 669 = .ok (.aload_n 0, 1))) ∧ ((decode cL_law 670 = .ok (.iload_n 3, 1)) ∧ (decode cL_law 671 = .ok (.iconst 2, 1)))) ∧ (((decode cL_law 672 = .ok (.iadd, 1)) ∧ (decode cL_law 673 = .ok (.iaload, 1))) ∧ ((decode cL_law 674 = .ok (.aload_n 0, 1)) ∧ (decode cL_law 675 = .ok (.iload_n 3, 1))))) ∧ ((((decode cL_law 676 = .ok (.iconst 3, 1)) ∧ (decode cL_law 677 = .ok (.iadd, 1))) ∧ ((decode cL_law 678 = .ok (.iaload, 1)) ∧ (decode cL_law 679 = .ok (.invokevirtual 93, 3)))) ∧ (((decode cL_law 682 = .ok (.pop, 1)) ∧ (decode cL_law 683 = .ok (.aload_n 2, 1))) ∧ ((decode cL_law 684 = .ok (.aload_n 0, 1)) ∧ (decode cL_law 685 = .ok (.iload_n 3, 1)))))) := by decide +kernel
theorem dL_law_668 : decode cL_law 668 = .ok (.iaload, 1) := kL_law_668.1.1.1.1
theorem dL_law_669 : decode cL_law 669 = .ok (.aload_n 0, 1) := kL_law_668.1.1.1.2
theorem dL_law_670 : decode cL_law 670 = .ok (.iload_n 3, 1) := kL_law_668.1.1.2.1
theorem dL_law_671 : decode cL_law 671 = .ok (.iconst 2, 1) := kL_law_668.1.1.2.2
theorem dL_law_672 : decode cL_law 672 = .ok (.iadd, 1) := kL_law_668.1.2.1.1
theorem dL_law_673 : decode cL_law 673 = .ok (.iaload, 1) := kL_law_668.1.2.1.2
theorem dL_law_674 : decode cL_law 674 = .ok (.aload_n 0, 1) := kL_law_668.1.2.2.1
theorem dL_law_675 : decode cL_law 675 = .ok (.iload_n 3, 1) := kL_law_668.1.2.2.2
theorem dL_law_676 : decode cL_law 676 = .ok (.iconst 3, 1) := kL_law_668.2.1.1.1
theorem dL_law_677 : decode cL_law 677 = .ok (.iadd, 1) := kL_law_668.2.1.1.2
theorem dL_law_678 : decode cL_law 678 = .ok (.iaload, 1) := kL_law_668.2.1.2.1
theorem dL_law_679 : decode cL_law 679 = .ok (.invokevirtual 93, 3) := kL_law_668.2.1.2.2
theorem dL_law_682 : decode cL_law 682 = .ok (.pop, 1) := kL_law_668.2.2.1.1
theorem dL_law_683 : decode cL_law 683 = .ok (.aload_n 2, 1) := kL_law_668.2.2.1.2
theorem dL_law_684 : decode cL_law 684 = .ok (.aload_n 0, 1) := kL_law_668.2.2.2.1
theorem dL_law_685 : decode cL_law 685 = .ok (.iload_n 3, 1) := kL_law_668.2.2.2.2
theorem kL_law_686 : (((((decode cL_law 686 = .ok (.iconst 1, 1)) ∧ (decode cL_law 687 = .ok (.iadd, 1))) ∧ ((decode cL_law 688 = .ok (.iaload, 1)) ∧ (decode cL_law 689 = .ok (.aload_n 0, 1)))) ∧ (((decode cL_law 690 = .ok (.iload_n 3, 1)) ∧ (decode cL_law 691 = .ok (.iconst 2, 1))) ∧ ((decode cL_law 692 = .ok (.iadd, 1)) ∧ (decode cL_law 693 = .ok (.iaload, 1))))) ∧ ((((decode cL_law 694 = .ok (.aload_n 0, 1)) ∧ (decode cL_law 695 = .ok (.iload_n 3, 1))) ∧ ((decode cL_law 696 = .ok (.iconst 3, 1)) ∧ (decode cL_law 697 = .ok (.iadd, 1)))) ∧ (((decode cL_law 698 = .ok (.iaload, 1)) ∧ (decode cL_law 699 = .ok (.invokevirtual 96, 3))) ∧ ((decode cL_law 702 = .ok (.pop, 1)) ∧ (decode cL_law 703 = .ok (.goto 491, 3)))))) := by decide +kernel
theorem dL_law_686 : decode cL_law 686 = .ok (.iconst 1, 1) := kL_law_686.1.1.1.1
theorem dL_law_687 : decode cL_law 687 = .ok (.iadd, 1) := kL_law_686.1.1.1.2
theorem dL_law_688 : decode cL_law 688 = .ok (.iaload, 1) := kL_law_686.1.1.2.1
theorem dL_law_689 : decode cL_law 689 = .ok (.aload_n 0, 1) := kL_law_686.1.1.2.2
theorem dL_law_690 : decode cL_law 690 = .ok (.iload_n 3, 1) := kL_law_686.1.2.1.1
theorem dL_law_691 : decode cL_law 691 = .ok (.iconst 2, 1) := kL_law_686.1.2.1.2
theorem dL_law_692 : decode cL_law 692 = .ok (.iadd, 1) := kL_law_686.1.2.2.1
theorem dL_law_693 : decode cL_law 693 = .ok (.iaload, 1) := kL_law_686.1.2.2.2
theorem dL_law_694 : decode cL_law 694 = .ok (.aload_n 0, 1) := kL_law_686.2.1.1.1
theorem dL_law_695 : decode cL_law 695 = .ok (.iload_n 3, 1) := kL_law_686.2.1.1.2
theorem dL_law_696 : decode cL_law 696 = .ok (.iconst 3, 1) := kL_law_686.2.1.2.1
theorem dL_law_697 : decode cL_law 697 = .ok (.iadd, 1) := kL_law_686.2.1.2.2
theorem dL_law_698 : decode cL_law 698 = .ok (.iaload, 1) := kL_law_686.2.2.1.1
theorem dL_law_699 : decode cL_law 699 = .ok (.invokevirtual 96, 3) := kL_law_686.2.2.1.2
theorem dL_law_702 : decode cL_law 702 = .ok (.pop, 1) := kL_law_686.2.2.2.1
theorem dL_law_703 : decode cL_law 703 = .ok (.goto 491, 3) := kL_law_686.2.2.2.2
theorem kL_law_706 : (((((decode cL_law 706 = .ok (.aload_n 1, 1)) ∧ (decode cL_law 707 = .ok (.aload_n 0, 1))) ∧ ((decode cL_law 708 = .ok (.iload_n 3, 1)) ∧ (decode cL_law 709 = .ok (.iconst 1, 1)))) ∧ (((decode cL_law 710 = .ok (.iadd, 1)) ∧ (decode cL_law 711 = .ok (.iaload, 1))) ∧ ((decode cL_law 712 = .ok (.aload_n 0, 1)) ∧ (decode cL_law 713 = .ok (.iload_n 3, 1))))) ∧ ((((decode cL_law 714 = .ok (.iconst 2, 1)) ∧ (decode cL_law 715 = .ok (.iadd, 1))) ∧ ((decode cL_law 716 = .ok (.iaload, 1)) ∧ (decode cL_law 717 = .ok (.invokevirtual 97, 3)))) ∧ (((decode cL_law 720 = .ok (.pop, 1)) ∧ (decode cL_law 721 = .ok (.aload_n 2, 1))) ∧ ((decode cL_law 722 = .ok (.aload_n 0, 1)) ∧ (decode cL_law 723 = .ok (.iload_n 3, 1)))))) := by decide +kernel
theorem dL_law_706 : decode cL_law 706 = .ok (.aload_n 1, 1) := kL_law_706.1.1.1.1
theorem dL_law_707 : decode cL_law 707 = .ok (.aload_n 0, 1) := kL_law_706.1.1.1.2
theorem dL_law_708 : decode cL_law 708 = .ok (.iload_n 3, 1) := kL_law_706.1.1.2.1
theorem dL_law_709 : decode cL_law 709 = .ok (.iconst 1, 1) := kL_law_706.1.1.2.2
theorem dL_law_710 : decode cL_law 710 = .ok (.iadd, 1) := kL_law_706.1.2.1.1
theorem dL_law_711 : decode cL_law 711 = .ok (.iaload, 1) := kL_law_706.1.2.1.2
theorem dL_law_712 : decode cL_law 712 = .ok (.aload_n 0, 1) := kL_law_706.1.2.2.1
theorem dL_law_713 : decode cL_law 713 = .ok (.iload_n 3, 1) := kL_law_706.1.2.2.2
theorem dL_law_714 : decode cL_law 714 = .ok (.iconst 2, 1) := kL_law_706.2.1.1.1
theorem dL_law_715 : decode cL_law 715 = .ok (.iadd, 1) := kL_law_706.2.1.1.2
theorem dL_law_716 : decode cL_law 716 = .ok (.iaload, 1) := kL_law_706.2.1.2.1
theorem dL_law_717 : decode cL_law 717 = .ok (.invokevirtual 97, 3) := kL_law_706.2.1.2.2
theorem dL_law_720 : decode cL_law 720 = .ok (.pop, 1) := kL_law_706.2.2.1.1
theorem dL_law_721 : decode cL_law 721 = .ok (.aload_n 2, 1) := kL_law_706.2.2.1.2
theorem dL_law_722 : decode cL_law 722 = .ok (.aload_n 0, 1) := kL_law_706.2.2.2.1
theorem dL_law_723 : decode cL_law 723 = .ok (.iload_n 3, 1) := kL_law_706.2.2.2.2
theorem kL_law_724 : (((((decode cL_law 724 = .ok (.iconst 1, 1)) ∧ (decode cL_law 725 = .ok (.iadd, 1))) ∧ ((decode cL_law 726 = .ok (.iaload, 1)) ∧ (decode cL_law 727 = .ok (.aload_n 0, 1)))) ∧ (((decode cL_law 728 = .ok (.iload_n 3, 1)) ∧ (decode cL_law 729 = .ok (.iconst 2, 1))) ∧ ((decode cL_law 730 = .ok (.iadd, 1)) ∧ (decode cL_law 731 = .ok (.iaload, 1))))) ∧ ((((decode cL_law 732 = .ok (.invokevirtual 100, 3)) ∧ (decode cL_law 735 = .ok (.pop, 1))) ∧ ((decode cL_law 736 = .ok (.goto 458, 3)) ∧ (decode cL_law 739 = .ok (.aload_n 1, 1)))) ∧ (((decode cL_law 740 = .ok (.aload_n 0, 1)) ∧ (decode cL_law 741 = .ok (.iload_n 3, 1))) ∧ ((decode cL_law 742 = .ok (.iconst 1, 1)) ∧ (decode cL_law 743 = .ok (.iadd, 1)))))) := by decide +kernel
theorem dL_law_724 : decode cL_law 724 = .ok (.iconst 1, 1) := kL_law_724.1.1.1.1
theorem dL_law_725 : decode cL_law 725 = .ok (.iadd, 1) := kL_law_724.1.1.1.2
theorem dL_law_726 : decode cL_law 726 = .ok (.iaload, 1) := kL_law_724.1.1.2.1
theorem dL_law_727 : decode cL_law 727 = .ok (.aload_n 0, 1) := kL_law_724.1.1.2.2
theorem dL_law_728 : decode cL_law 728 = .ok (.iload_n 3, 1) := kL_law_724.1.2.1.1
theorem dL_law_729 : decode cL_law 729 = .ok (.iconst 2, 1) := kL_law_724.1.2.1.2
theorem dL_law_730 : decode cL_law 730 = .ok (.iadd, 1) := kL_law_724.1.2.2.1
theorem dL_law_731 : decode cL_law 731 = .ok (.iaload, 1) := kL_law_724.1.2.2.2
theorem dL_law_732 : decode cL_law 732 = .ok (.invokevirtual 100, 3) := kL_law_724.2.1.1.1
theorem dL_law_735 : decode cL_law 735 = .ok (.pop, 1) := kL_law_724.2.1.1.2
theorem dL_law_736 : decode cL_law 736 = .ok (.goto 458, 3) := kL_law_724.2.1.2.1
theorem dL_law_739 : decode cL_law 739 = .ok (.aload_n 1, 1) := kL_law_724.2.1.2.2
theorem dL_law_740 : decode cL_law 740 = .ok (.aload_n 0, 1) := kL_law_724.2.2.1.1
theorem dL_law_741 : decode cL_law 741 = .ok (.iload_n 3, 1) := kL_law_724.2.2.1.2
theorem dL_law_742 : decode cL_law 742 = .ok (.iconst 1, 1) := kL_law_724.2.2.2.1
theorem dL_law_743 : decode cL_law 743 = .ok (.iadd, 1) := kL_law_724.2.2.2.2
theorem kL_law_744 : (((((decode cL_law 744 = .ok (.iaload, 1)) ∧ (decode cL_law 745 = .ok (.invokevirtual 101, 3))) ∧ ((decode cL_law 748 = .ok (.pop, 1)) ∧ (decode cL_law 749 = .ok (.aload_n 2, 1)))) ∧ (((decode cL_law 750 = .ok (.aload_n 0, 1)) ∧ (decode cL_law 751 = .ok (.iload_n 3, 1))) ∧ ((decode cL_law 752 = .ok (.iconst 1, 1)) ∧ (decode cL_law 753 = .ok (.iadd, 1))))) ∧ ((((decode cL_law 754 = .ok (.iaload, 1)) ∧ (decode cL_law 755 = .ok (.invokevirtual 104, 3))) ∧ ((decode cL_law 758 = .ok (.pop, 1)) ∧ (decode cL_law 759 = .ok (.goto 435, 3)))) ∧ (((decode cL_law 762 = .ok (.aload_n 1, 1)) ∧ (decode cL_law 763 = .ok (.invokevirtual 105, 3))) ∧ ((decode cL_law 766 = .ok (.pop, 1)) ∧ (decode cL_law 767 = .ok (.aload_n 2, 1)))))) := by decide +kernel
theorem dL_law_744 : decode cL_law 744 = .ok (.iaload, 1) := kL_law_744.1.1.1.1
theorem dL_law_745 : decode cL_law 745 = .ok (.invokevirtual 101, 3) := kL_law_744.1.1.1.2
theorem dL_law_748 : decode cL_law 748 = .ok (.pop, 1) := kL_law_744.1.1.2.1
theorem dL_law_749 : decode cL_law 749 = .ok (.aload_n 2, 1) := kL_law_744.1.1.2.2
theorem dL_law_750 : decode cL_law 750 = .ok (.aload_n 0, 1) := kL_law_744.1.2.1.1
theorem dL_law_751 : decode cL_law 751 = .ok (.iload_n 3, 1) := kL_law_744.1.2.1.2
theorem dL_law_752 : decode cL_law 752 = .ok (.iconst 1, 1) := kL_law_744.1.2.2.1
theorem dL_law_753 : decode cL_law 753 = .ok (.iadd, 1) := kL_law_744.1.2.2.2
theorem dL_law_754 : decode cL_law 754 = .ok (.iaload, 1) := kL_law_744.2.1.1.1
theorem dL_law_755 : decode cL_law 755 = .ok (.invokevirtual 104, 3) := kL_law_744.2.1.1.2
theorem dL_law_758 : decode cL_law 758 = .ok (.pop, 1) := kL_law_744.2.1.2.1
theorem dL_law_759 : decode cL_law 759 = .ok (.goto 435, 3) := kL_law_744.2.1.2.2
theorem dL_law_762 : decode cL_law 762 = .ok (.aload_n 1, 1) := kL_law_744.2.2.1.1
theorem dL_law_763 : decode cL_law 763 = .ok (.invokevirtual 105, 3) := kL_law_744.2.2.1.2
theorem dL_law_766 : decode cL_law 766 = .ok (.pop, 1) := kL_law_744.2.2.2.1
theorem dL_law_767 : decode cL_law 767 = .ok (.aload_n 2, 1) := kL_law_744.2.2.2.2
theorem kL_law_768 : (((((decode cL_law 768 = .ok (.invokevirtual 108, 3)) ∧ (decode cL_law 771 = .ok (.pop, 1))) ∧ ((decode cL_law 772 = .ok (.goto 422, 3)) ∧ (decode cL_law 775 = .ok (.aload_n 1, 1)))) ∧ (((decode cL_law 776 = .ok (.aload_n 0, 1)) ∧ (decode cL_law 777 = .ok (.iload_n 3, 1))) ∧ ((decode cL_law 778 = .ok (.iconst 1, 1)) ∧ (decode cL_law 779 = .ok (.iadd, 1))))) ∧ ((((decode cL_law 780 = .ok (.iaload, 1)) ∧ (decode cL_law 781 = .ok (.aload_n 0, 1))) ∧ ((decode cL_law 782 = .ok (.iload_n 3, 1)) ∧ (decode cL_law 783 = .ok (.iconst 2, 1)))) ∧ (((decode cL_law 784 = .ok (.iadd, 1)) ∧ (decode cL_law 785 = .ok (.iaload, 1))) ∧ ((decode cL_law 786 = .ok (.aload_n 0, 1)) ∧ (decode cL_law 787 = .ok (.iload_n 3, 1)))))) := by decide +kernel
theorem dL_law_768 : decode cL_law 768 = .ok (.invokevirtual 108, 3) := kL_law_768.1.1.1.1
theorem dL_law_771 : decode cL_law 771 = .ok (.pop, 1) := kL_law_768.1.1.1.2
theorem dL_law_772 : decode cL_law 772 = .ok (.goto 422, 3) := kL_law_768.1.1.2.1
theorem dL_law_775 : decode cL_law 775 = .ok (.aload_n 1, 1) := kL_law_768.1.1.2.2
theorem dL_law_776 : decode cL_law 776 = .ok (.aload_n 0, 1) := kL_law_768.1.2.1.1
theorem dL_law_777 : decode cL_law 777 = .ok (.iload_n 3, 1) := kL_law_768.1.2.1.2
theorem dL_law_778 : decode cL_law 778 = .ok (.iconst 1, 1) := kL_law_768.1.2.2.1
theorem dL_law_779 : decode cL_law 779 = .ok (.iadd, 1) := kL_law_768.1.2.2.2
theorem dL_law_780 : decode cL_law 780 = .ok (.iaload, 1) := kL_law_768.2.1.1.1
theorem dL_law_781 : decode cL_law 781 = .ok (.aload_n 0, 1) := kL_law_768.2.1.1.2
theorem dL_law_782 : decode cL_law 782 = .ok (.iload_n 3, 1) := kL_law_768.2.1.2.1
theorem dL_law_783 : decode cL_law 783 = .ok (.iconst 2, 1) := kL_law_768.2.1.2.2
theorem dL_law_784 : decode cL_law 784 = .ok (.iadd, 1) := kL_law_768.2.2.1.1
theorem dL_law_785 : decode cL_law 785 = .ok (.iaload, 1) := kL_law_768.2.2.1.2
theorem dL_law_786 : decode cL_law 786 = .ok (.aload_n 0, 1) := kL_law_768.2.2.2.1
theorem dL_law_787 : decode cL_law 787 = .ok (.iload_n 3, 1) := kL_law_768.2.2.2.2
theorem kL_law_788 : (((((decode cL_law 788 = .ok (.iconst 3, 1)) ∧ (decode cL_law 789 = .ok (.iadd, 1))) ∧ ((decode cL_law 790 = .ok (.iaload, 1)) ∧ (decode cL_law 791 = .ok (.invokevirtual 109, 3)))) ∧ (((decode cL_law 794 = .ok (.pop, 1)) ∧ (decode cL_law 795 = .ok (.aload_n 2, 1))) ∧ ((decode cL_law 796 = .ok (.aload_n 0, 1)) ∧ (decode cL_law 797 = .ok (.iload_n 3, 1))))) ∧ ((((decode cL_law 798 = .ok (.iconst 1, 1)) ∧ (decode cL_law 799 = .ok (.iadd, 1))) ∧ ((decode cL_law 800 = .ok (.iaload, 1)) ∧ (decode cL_law 801 = .ok (.aload_n 0, 1)))) ∧ (((decode cL_law 802 = .ok (.iload_n 3, 1)) ∧ (decode cL_law 803 = .ok (.iconst 2, 1))) ∧ ((decode cL_law 804 = .ok (.iadd, 1)) ∧ (decode cL_law 805 = .ok (.iaload, 1)))))) := by decide +kernel
theorem dL_law_788 : decode cL_law 788 = .ok (.iconst 3, 1) := kL_law_788.1.1.1.1
theorem dL_law_789 : decode cL_law 789 = .ok (.iadd, 1) := kL_law_788.1.1.1.2
theorem dL_law_790 : decode cL_law 790 = .ok (.iaload, 1) := kL_law_788.1.1.2.1
theorem dL_law_791 : decode cL_law 791 = .ok (.invokevirtual 109, 3) := kL_law_788.1.1.2.2
theorem dL_law_794 : decode cL_law 794 = .ok (.pop, 1) := kL_law_788.1.2.1.1
theorem dL_law_795 : decode cL_law 795 = .ok (.aload_n 2, 1) := kL_law_788.1.2.1.2
theorem dL_law_796 : decode cL_law 796 = .ok (.aload_n 0, 1) := kL_law_788.1.2.2.1
theorem dL_law_797 : decode cL_law 797 = .ok (.iload_n 3, 1) := kL_law_788.1.2.2.2
theorem dL_law_798 : decode cL_law 798 = .ok (.iconst 1, 1) := kL_law_788.2.1.1.1
theorem dL_law_799 : decode cL_law 799 = .ok (.iadd, 1) := kL_law_788.2.1.1.2
theorem dL_law_800 : decode cL_law 800 = .ok (.iaload, 1) := kL_law_788.2.1.2.1
theorem dL_law_801 : decode cL_law 801 = .ok (.aload_n 0, 1) := kL_law_788.2.1.2.2
theorem dL_law_802 : decode cL_law 802 = .ok (.iload_n 3, 1) := kL_law_788.2.2.1.1
theorem dL_law_803 : decode cL_law 803 = .ok (.iconst 2, 1) := kL_law_788.2.2.1.2
theorem dL_law_804 : decode cL_law 804 = .ok (.iadd, 1) := kL_law_788.2.2.2.1
theorem dL_law_805 : decode cL_law 805 = .ok (.iaload, 1) := kL_law_788.2.2.2.2
theorem kL_law_806 : (((((decode cL_law 806 = .ok (.aload_n 0, 1)) ∧ (decode cL_law 807 = .ok (.iload_n 3, 1))) ∧ ((decode cL_law 808 = .ok (.iconst 3, 1)) ∧ (decode cL_law 809 = .ok (.iadd, 1)))) ∧ (((decode cL_law 810 = .ok (.iaload, 1)) ∧ (decode cL_law 811 = .ok (.invokevirtual 112, 3))) ∧ ((decode cL_law 814 = .ok (.pop, 1)) ∧ (decode cL_law 815 = .ok (.goto 379, 3))))) ∧ ((((decode cL_law 818 = .ok (.aload_n 1, 1)) ∧ (decode cL_law 819 = .ok (.invokevirtual 113, 3))) ∧ ((decode cL_law 822 = .ok (.pop, 1)) ∧ (decode cL_law 823 = .ok (.aload_n 2, 1)))) ∧ (((decode cL_law 824 = .ok (.invokevirtual 116, 3)) ∧ (decode cL_law 827 = .ok (.pop, 1))) ∧ ((decode cL_law 828 = .ok (.goto 366, 3)) ∧ (decode cL_law 831 = .ok (.aload_n 1, 1)))))) := by decide +kernel
theorem dL_law_806 : decode cL_law 806 = .ok (.aload_n 0, 1) := kL_law_806.1.1.1.1
theorem dL_law_807 : decode cL_law 807 = .ok (.iload_n 3, 1) := kL_law_806.1.1.1.2
theorem dL_law_808 : decode cL_law 808 = .ok (.iconst 3, 1) := kL_law_806.1.1.2.1
theorem dL_law_809 : decode cL_law 809 = .ok (.iadd, 1) := kL_law_806.1.1.2.2
theorem dL_law_810 : decode cL_law 810 = .ok (.iaload, 1) := kL_law_806.1.2.1.1
theorem dL_law_811 : decode cL_law 811 = .ok (.invokevirtual 112, 3) := kL_law_806.1.2.1.2
theorem dL_law_814 : decode cL_law 814 = .ok (.pop, 1) := kL_law_806.1.2.2.1
theorem dL_law_815 : decode cL_law 815 = .ok (.goto 379, 3) := kL_law_806.1.2.2.2
theorem dL_law_818 : decode cL_law 818 = .ok (.aload_n 1, 1) := kL_law_806.2.1.1.1
theorem dL_law_819 : decode cL_law 819 = .ok (.invokevirtual 113, 3) := kL_law_806.2.1.1.2
theorem dL_law_822 : decode cL_law 822 = .ok (.pop, 1) := kL_law_806.2.1.2.1
theorem dL_law_823 : decode cL_law 823 = .ok (.aload_n 2, 1) := kL_law_806.2.1.2.2
theorem dL_law_824 : decode cL_law 824 = .ok (.invokevirtual 116, 3) := kL_law_806.2.2.1.1
theorem dL_law_827 : decode cL_law 827 = .ok (.pop, 1) := kL_law_806.2.2.1.2
theorem dL_law_828 : decode cL_law 828 = .ok (.goto 366, 3) := kL_law_806.2.2.2.1
theorem dL_law_831 : decode cL_law 831 = .ok (.aload_n 1, 1) := kL_law_806.2.2.2.2
theorem kL_law_832 : (((((decode cL_law 832 = .ok (.invokevirtual 117, 3)) ∧ (decode cL_law 835 = .ok (.pop, 1))) ∧ ((decode cL_law 836 = .ok (.aload_n 2, 1)) ∧ (decode cL_law 837 = .ok (.invokevirtual 120, 3)))) ∧ (((decode cL_law 840 = .ok (.pop, 1)) ∧ (decode cL_law 841 = .ok (.goto 353, 3))) ∧ ((decode cL_law 844 = .ok (.aload_n 1, 1)) ∧ (decode cL_law 845 = .ok (.aload_n 0, 1))))) ∧ ((((decode cL_law 846 = .ok (.iload_n 3, 1)) ∧ (decode cL_law 847 = .ok (.iconst 1, 1))) ∧ ((decode cL_law 848 = .ok (.iadd, 1)) ∧ (decode cL_law 849 = .ok (.iaload, 1)))) ∧ (((decode cL_law 850 = .ok (.aload_n 0, 1)) ∧ (decode cL_law 851 = .ok (.iload_n 3, 1))) ∧ ((decode cL_law 852 = .ok (.iconst 2, 1)) ∧ (decode cL_law 853 = .ok (.iadd, 1)))))) := by decide +kernel
theorem dL_law_832 : decode cL_law 832 = .ok (.invokevirtual 117, 3) := kL_law_832.1.1.1.1
theorem dL_law_835 : decode cL_law 835 = .ok (.pop, 1) := kL_law_832.1.1.1.2
theorem dL_law_836 : decode cL_law 836 = .ok (.aload_n 2, 1) := kL_law_832.1.1.2.1
theorem dL_law_837 : decode cL_law 837 = .ok (.invokevirtual 120, 3) := kL_law_832.1.1.2.2
theorem dL_law_840 : decode cL_law 840 = .ok (.pop, 1) := kL_law_832.1.2.1.1
theorem dL_law_841 : decode cL_law 841 = .ok (.goto 353, 3) := kL_law_832.1.2.1.2
theorem dL_law_844 : decode cL_law 844 = .ok (.aload_n 1, 1) := kL_law_832.1.2.2.1
theorem dL_law_845 : decode cL_law 845 = .ok (.aload_n 0, 1) := kL_law_832.1.2.2.2
theorem dL_law_846 : decode cL_law 846 = .ok (.iload_n 3, 1) := kL_law_832.2.1.1.1
theorem dL_law_847 : decode cL_law 847 = .ok (.iconst 1, 1) := kL_law_832.2.1.1.2
theorem dL_law_848 : decode cL_law 848 = .ok (.iadd, 1) := kL_law_832.2.1.2.1
theorem dL_law_849 : decode cL_law 849 = .ok (.iaload, 1) := kL_law_832.2.1.2.2
theorem dL_law_850 : decode cL_law 850 = .ok (.aload_n 0, 1) := kL_law_832.2.2.1.1
theorem dL_law_851 : decode cL_law 851 = .ok (.iload_n 3, 1) := kL_law_832.2.2.1.2
theorem dL_law_852 : decode cL_law 852 = .ok (.iconst 2, 1) := kL_law_832.2.2.2.1
theorem dL_law_853 : decode cL_law 853 = .ok (.iadd, 1) := kL_law_832.2.2.2.2
theorem kL_law_854 : (((((decode cL_law 854 = .ok (.iaload, 1)) ∧ (decode cL_law 855 = .ok (.aload_n 0, 1))) ∧ ((decode cL_law 856 = .ok (.iload_n 3, 1)) ∧ (decode cL_law 857 = .ok (.iconst 3, 1)))) ∧ (((decode cL_law 858 = .ok (.iadd, 1)) ∧ (decode cL_law 859 = .ok (.iaload, 1))) ∧ ((decode cL_law 860 = .ok (.aload_n 0, 1)) ∧ (decode cL_law 861 = .ok (.iload_n 3, 1))))) ∧ ((((decode cL_law 862 = .ok (.iconst 4, 1)) ∧ (decode cL_law 863 = .ok (.iadd, 1))) ∧ ((decode cL_law 864 = .ok (.iaload, 1)) ∧ (decode cL_law 865 = .ok (.aload_n 0, 1)))) ∧ (((decode cL_law 866 = .ok (.iload_n 3, 1)) ∧ (decode cL_law 867 = .ok (.iconst 5, 1))) ∧ ((decode cL_law 868 = .ok (.iadd, 1)) ∧ (decode cL_law 869 = .ok (.iaload, 1)))))) := by decide +kernel
theorem dL_law_854 : decode cL_law 854 = .ok (.iaload, 1) := kL_law_854.1.1.1.1
theorem dL_law_855 : decode cL_law 855 = .ok (.aload_n 0, 1) := kL_law_854.1.1.1.2
theorem dL_law_856 : decode cL_law 856 = .ok (.iload_n 3, 1) := kL_law_854.1.1.2.1
theorem dL_law_857 : decode cL_law 857 = .ok (.iconst 3, 1) := kL_law_854.1.1.2.2
theorem dL_law_858 : decode cL_law 858 = .ok (.iadd, 1) := kL_law_854.1.2.1.1
theorem dL_law_859 : decode cL_law 859 = .ok (.iaload, 1) := kL_law_854.1.2.1.2
theorem dL_law_860 : decode cL_law 860 = .ok (.aload_n 0, 1) := kL_law_854.1.2.2.1
theorem dL_law_861 : decode cL_law 861 = .ok (.iload_n 3, 1) := kL_law_854.1.2.2.2
theorem dL_law_862 : decode cL_law 862 = .ok (.iconst 4, 1) := kL_law_854.2.1.1.1
theorem dL_law_863 : decode cL_law 863 = .ok (.iadd, 1) := kL_law_854.2.1.1.2
theorem dL_law_864 : decode cL_law 864 = .ok (.iaload, 1) := kL_law_854.2.1.2.1
theorem dL_law_865 : decode cL_law 865 = .ok (.aload_n 0, 1) := kL_law_854.2.1.2.2
theorem dL_law_866 : decode cL_law 866 = .ok (.iload_n 3, 1) := kL_law_854.2.2.1.1
theorem dL_law_867 : decode cL_law 867 = .ok (.iconst 5, 1) := kL_law_854.2.2.1.2
theorem dL_law_868 : decode cL_law 868 = .ok (.iadd, 1) := kL_law_854.2.2.2.1
theorem dL_law_869 : decode cL_law 869 = .ok (.iaload, 1) := kL_law_854.2.2.2.2
theorem kL_law_870 : (((((decode cL_law 870 = .ok (.aload_n 0, 1)) ∧ (decode cL_law 871 = .ok (.iload_n 3, 1))) ∧ ((decode cL_law 872 = .ok (.bipush 6, 2)) ∧ (decode cL_law 874 = .ok (.iadd, 1)))) ∧ (((decode cL_law 875 = .ok (.iaload, 1)) ∧ (decode cL_law 876 = .ok (.invokevirtual 121, 3))) ∧ ((decode cL_law 879 = .ok (.pop, 1)) ∧ (decode cL_law 880 = .ok (.aload_n 2, 1))))) ∧ ((((decode cL_law 881 = .ok (.aload_n 0, 1)) ∧ (decode cL_law 882 = .ok (.iload_n 3, 1))) ∧ ((decode cL_law 883 = .ok (.iconst 1, 1)) ∧ (decode cL_law 884 = .ok (.iadd, 1)))) ∧ (((decode cL_law 885 = .ok (.iaload, 1)) ∧ (decode cL_law 886 = .ok (.aload_n 0, 1))) ∧ ((decode cL_law 887 = .ok (.iload_n 3, 1)) ∧ (decode cL_law 888 = .ok (.iconst 2, 1)))))) := by decide +kernel
theorem dL_law_870 : decode cL_law 870 = .ok (.aload_n 0, 1) := kL_law_870.1.1.1.1
theorem dL_law_871 : decode cL_law 871 = .ok (.iload_n 3, 1) := kL_law_870.1.1.1.2
theorem dL_law_872 : decode cL_law 872 = .ok (.bipush 6, 2) := kL_law_870.1.1.2.1
theorem dL_law_874 : decode cL_law 874 = .ok (.iadd, 1) := kL_law_870.1.1.2.2
theorem dL_law_875 : decode cL_law 875 = .ok (.iaload, 1) := kL_law_870.1.2.1.1
theorem dL_law_876 : decode cL_law 876 = .ok (.invokevirtual 121, 3) := kL_law_870.1.2.1.2
theorem dL_law_879 : decode cL_law 879 = .ok (.pop, 1) := kL_law_870.1.2.2.1
theorem dL_law_880 : decode cL_law 880 = .ok (.aload_n 2, 1) := kL_law_870.1.2.2.2
theorem dL_law_881 : decode cL_law 881 = .ok (.aload_n 0, 1) := kL_law_870.2.1.1.1
theorem dL_law_882 : decode cL_law 882 = .ok (.iload_n 3, 1) := kL_law_870.2.1.1.2
theorem dL_law_883 : decode cL_law 883 = .ok (.iconst 1, 1) := kL_law_870.2.1.2.1
theorem dL_law_884 : decode cL_law 884 = .ok (.iadd, 1) := kL_law_870.2.1.2.2
theorem dL_law_885 : decode cL_law 885 = .ok (.iaload, 1) := kL_law_870.2.2.1.1
theorem dL_law_886 : decode cL_law 886 = .ok (.aload_n 0, 1) := kL_law_870.2.2.1.2
theorem dL_law_887 : decode cL_law 887 = .ok (.iload_n 3, 1) := kL_law_870.2.2.2.1
theorem dL_law_888 : decode cL_law 888 = .ok (.iconst 2, 1) := kL_law_870.2.2.2.2
theorem kL_law_889 : (((((decode cL_law 889 = .ok (.iadd, 1)) ∧ (decode cL_law 890 = .ok (.iaload, 1))) ∧ ((decode cL_law 891 = .ok (.aload_n 0, 1)) ∧ (decode cL_law 892 = .ok (.iload_n 3, 1)))) ∧ (((decode cL_law 893 = .ok (.iconst 3, 1)) ∧ (decode cL_law 894 = .ok (.iadd, 1))) ∧ ((decode cL_law 895 = .ok (.iaload, 1)) ∧ (decode cL_law 896 = .ok (.aload_n 0, 1))))) ∧ ((((decode cL_law 897 = .ok (.iload_n 3, 1)) ∧ (decode cL_law 898 = .ok (.iconst 4, 1))) ∧ ((decode cL_law 899 = .ok (.iadd, 1)) ∧ (decode cL_law 900 = .ok (.iaload, 1)))) ∧ (((decode cL_law 901 = .ok (.aload_n 0, 1)) ∧ (decode cL_law 902 = .ok (.iload_n 3, 1))) ∧ ((decode cL_law 903 = .ok (.iconst 5, 1)) ∧ (decode cL_law 904 = .ok (.iadd, 1)))))) := by decide +kernel
theorem dL_law_889 : decode cL_law 889 = .ok (.iadd, 1) := kL_law_889.1.1.1.1
theorem dL_law_890 : decode cL_law 890 = .ok (.iaload, 1) := kL_law_889.1.1.1.2
theorem dL_law_891 : decode cL_law 891 = .ok (.aload_n 0, 1) := kL_law_889.1.1.2.1
theorem dL_law_892 : decode cL_law 892 = .ok (.iload_n 3, 1) := kL_law_889.1.1.2.2
theorem dL_law_893 : decode cL_law 893 = .ok (.iconst 3, 1) := kL_law_889.1.2.1.1
theorem dL_law_894 : decode cL_law 894 = .ok (.iadd, 1) := kL_law_889.1.2.1.2
theorem dL_law_895 : decode cL_law 895 = .ok (.iaload, 1) := kL_law_889.1.2.2.1
theorem dL_law_896 : decode cL_law 896 = .ok (.aload_n 0, 1) := kL_law_889.1.2.2.2
theorem dL_law_897 : decode cL_law 897 = .ok (.iload_n 3, 1) := kL_law_889.2.1.1.1
theorem dL_law_898 : decode cL_law 898 = .ok (.iconst 4, 1) := kL_law_889.2.1.1.2
theorem dL_law_899 : decode cL_law 899 = .ok (.iadd, 1) := kL_law_889.2.1.2.1
theorem dL_law_900 : decode cL_law 900 = .ok (.iaload, 1) := kL_law_889.2.1.2.2
theorem dL_law_901 : decode cL_law 901 = .ok (.aload_n 0, 1) := kL_law_889.2.2.1.1
theorem dL_law_902 : decode cL_law 902 = .ok (.iload_n 3, 1) := kL_law_889.2.2.1.2
theorem dL_law_903 : decode cL_law 903 = .ok (.iconst 5, 1) := kL_law_889.2.2.2.1
theorem dL_law_904 : decode cL_law 904 = .ok (.iadd, 1) := kL_law_889.2.2.2.2
theorem kL_law_905 : (((((decode cL_law 905 = .ok (.iaload, 1)) ∧ (decode cL_law 906 = .ok (.aload_n 0, 1))) ∧ ((decode cL_law 907 = .ok (.iload_n 3, 1)) ∧ (decode cL_law 908 = .ok (.bipush 6, 2)))) ∧ (((decode cL_law 910 = .ok (.iadd, 1)) ∧ (decode cL_law 911 = .ok (.iaload, 1))) ∧ ((decode cL_law 912 = .ok (.invokevirtual 125, 3)) ∧ (decode cL_law 915 = .ok (.pop, 1))))) ∧ ((((decode cL_law 916 = .ok (.goto 278, 3)) ∧ (decode cL_law 919 = .ok (.aload_n 1, 1))) ∧ ((decode cL_law 920 = .ok (.aload_n 0, 1)) ∧ (decode cL_law 921 = .ok (.iload_n 3, 1)))) ∧ (((decode cL_law 922 = .ok (.iconst 1, 1)) ∧ (decode cL_law 923 = .ok (.iadd, 1))) ∧ ((decode cL_law 924 = .ok (.iaload, 1)) ∧ (decode cL_law 925 = .ok (.aload_n 0, 1)))))) := by decide +kernel
theorem dL_law_905 : decode cL_law 905 = .ok (.iaload, 1) := kL_law_905.1.1.1.1
theorem dL_law_906 : decode cL_law 906 = .ok (.aload_n 0, 1) := kL_law_905.1.1.1.2
theorem dL_law_907 : decode cL_law 907 = .ok (.iload_n 3, 1) := kL_law_905.1.1.2.1
theorem dL_law_908 : decode cL_law 908 = .ok (.bipush 6, 2) := kL_law_905.1.1.2.2
theorem dL_law_910 : decode cL_law 910 = .ok (.iadd, 1) := kL_law_905.1.2.1.1
theorem dL_law_911 : decode cL_law 911 = .ok (.iaload, 1) := kL_law_905.1.2.1.2
theorem dL_law_912 : decode cL_law 912 = .ok (.invokevirtual 125, 3) := kL_law_905.1.2.2.1
theorem dL_law_915 : decode cL_law 915 = .ok (.pop, 1) := kL_law_905.1.2.2.2
theorem dL_law_916 : decode cL_law 916 = .ok (.goto 278, 3) := kL_law_905.2.1.1.1
theorem dL_law_919 : decode cL_law 919 = .ok (.aload_n 1, 1) := kL_law_905.2.1.1.2
theorem dL_law_920 : decode cL_law 920 = .ok (.aload_n 0, 1) := kL_law_905.2.1.2.1
theorem dL_law_921 : decode cL_law 921 = .ok (.iload_n 3, 1) := kL_law_905.2.1.2.2
theorem dL_law_922 : decode cL_law 922 = .ok (.iconst 1, 1) := kL_law_905.2.2.1.1
theorem dL_law_923 : decode cL_law 923 = .ok (.iadd, 1) := kL_law_905.2.2.1.2
theorem dL_law_924 : decode cL_law 924 = .ok (.iaload, 1) := kL_law_905.2.2.2.1
theorem dL_law_925 : decode cL_law 925 = .ok (.aload_n 0, 1) := kL_law_905.2.2.2.2
theorem kL_law_926 : (((((decode cL_law 926 = .ok (.iload_n 3, 1)) ∧ (decode cL_law 927 = .ok (.iconst 2, 1))) ∧ ((decode cL_law 928 = .ok (.iadd, 1)) ∧ (decode cL_law 929 = .ok (.iaload, 1)))) ∧ (((decode cL_law 930 = .ok (.aload_n 0, 1)) ∧ (decode cL_law 931 = .ok (.iload_n 3, 1))) ∧ ((decode cL_law 932 = .ok (.iconst 3, 1)) ∧ (decode cL_law 933 = .ok (.iadd, 1))))) ∧ ((((decode cL_law 934 = .ok (.iaload, 1)) ∧ (decode cL_law 935 = .ok (.aload_n 0, 1))) ∧ ((decode cL_law 936 = .ok (.iload_n 3, 1)) ∧ (decode cL_law 937 = .ok (.iconst 4, 1)))) ∧ (((decode cL_law 938 = .ok (.iadd, 1)) ∧ (decode cL_law 939 = .ok (.iaload, 1))) ∧ ((decode cL_law 940 = .ok (.aload_n 0, 1)) ∧ (decode cL_law 941 = .ok (.iload_n 3, 1)))))) := by decide +kernel
theorem dL_law_926 : decode cL_law 926 = .ok (.iload_n 3, 1) := kL_law_926.1.1.1.1
theorem dL_law_927 : decode cL_law 927 = .ok (.iconst 2, 1) := kL_law_926.1.1.1.2
theorem dL_law_928 : decode cL_law 928 = .ok (.iadd, 1) := kL_law_926.1.1.2.1
theorem dL_law_929 : decode cL_law 929 = .ok (.iaload, 1) := kL_law_926.1.1.2.2
theorem dL_law_930 : decode cL_law 930 = .ok (.aload_n 0, 1) := kL_law_926.1.2.1.1
theorem dL_law_931 : decode cL_law 931 = .ok (.iload_n 3, 1) := kL_law_926.1.2.1.2
theorem dL_law_932 : decode cL_law 932 = .ok (.iconst 3, 1) := kL_law_926.1.2.2.1
theorem dL_law_933 : decode cL_law 933 = .ok (.iadd, 1) := kL_law_926.1.2.2.2
theorem dL_law_934 : decode cL_law 934 = .ok (.iaload, 1) := kL_law_926.2.1.1.1
theorem dL_law_935 : decode cL_law 935 = .ok (.aload_n 0, 1) := kL_law_926.2.1.1.2
theorem dL_law_936 : decode cL_law 936 = .ok (.iload_n 3, 1) := kL_law_926.2.1.2.1
theorem dL_law_937 : decode cL_law 937 = .ok (.iconst 4, 1) := kL_law_926.2.1.2.2
theorem dL_law_938 : decode cL_law 938 = .ok (.iadd, 1) := kL_law_926.2.2.1.1
theorem dL_law_939 : decode cL_law 939 = .ok (.iaload, 1) := kL_law_926.2.2.1.2
theorem dL_law_940 : decode cL_law 940 = .ok (.aload_n 0, 1) := kL_law_926.2.2.2.1
theorem dL_law_941 : decode cL_law 941 = .ok (.iload_n 3, 1) := kL_law_926.2.2.2.2
theorem kL_law_942 : (((((decode cL_law 942 = .ok (.iconst 5, 1)) ∧ (decode cL_law 943 = .ok (.iadd, 1))) ∧ ((decode cL_law 944 = .ok (.iaload, 1)) ∧ (decode cL_law 945 = .ok (.invokevirtual 126, 3)))) ∧ (((decode cL_law 948 = .ok (.aload_n 2, 1)) ∧ (decode cL_law 949 = .ok (.aload_n 0, 1))) ∧ ((decode cL_law 950 = .ok (.iload_n 3, 1)) ∧ (decode cL_law 951 = .ok (.iconst 1, 1))))) ∧ ((((decode cL_law 952 = .ok (.iadd, 1)) ∧ (decode cL_law 953 = .ok (.iaload, 1))) ∧ ((decode cL_law 954 = .ok (.aload_n 0, 1)) ∧ (decode cL_law 955 = .ok (.iload_n 3, 1)))) ∧ (((decode cL_law 956 = .ok (.iconst 2, 1)) ∧ (decode cL_law 957 = .ok (.iadd, 1))) ∧ ((decode cL_law 958 = .ok (.iaload, 1)) ∧ (decode cL_law 959 = .ok (.aload_n 0, 1)))))) := by decide +kernel
theorem dL_law_942 : decode cL_law 942 = .ok (.iconst 5, 1) := kL_law_942.1.1.1.1
theorem dL_law_943 : decode cL_law 943 = .ok (.iadd, 1) := kL_law_942.1.1.1.2
theorem dL_law_944 : decode cL_law 944 = .ok (.iaload, 1) := kL_law_942.1.1.2.1
theorem dL_law_945 : decode cL_law 945 = .ok (.invokevirtual 126, 3) := kL_law_942.1.1.2.2
theorem dL_law_948 : decode cL_law 948 = .ok (.aload_n 2, 1) := kL_law_942.1.2.1.1
theorem dL_law_949 : decode cL_law 949 = .ok (.aload_n 0, 1) := kL_law_942.1.2.1.2
theorem dL_law_950 : decode cL_law 950 = .ok (.iload_n 3, 1) := kL_law_942.1.2.2.1
theorem dL_law_951 : decode cL_law 951 = .ok (.iconst 1, 1) := kL_law_942.1.2.2.2
theorem dL_law_952 : decode cL_law 952 = .ok (.iadd, 1) := kL_law_942.2.1.1.1
theorem dL_law_953 : decode cL_law 953 = .ok (.iaload, 1) := kL_law_942.2.1.1.2
theorem dL_law_954 : decode cL_law 954 = .ok (.aload_n 0, 1) := kL_law_942.2.1.2.1
theorem dL_law_955 : decode cL_law 955 = .ok (.iload_n 3, 1) := kL_law_942.2.1.2.2
theorem dL_law_956 : decode cL_law 956 = .ok (.iconst 2, 1) := kL_law_942.2.2.1.1
theorem dL_law_957 : decode cL_law 957 = .ok (.iadd, 1) := kL_law_942.2.2.1.2
theorem dL_law_958 : decode cL_law 958 = .ok (.iaload, 1) := kL_law_942.2.2.2.1
theorem dL_law_959 : decode cL_law 959 = .ok (.aload_n 0, 1) := kL_law_942.2.2.2.2
theorem kL_law_960 : (((((decode cL_law 960 = .ok (.iload_n 3, 1)) ∧ (decode cL_law 961 = .ok (.iconst 3, 1))) ∧ ((decode cL_law 962 = .ok (.iadd, 1)) ∧ (decode cL_law 963 = .ok (.iaload, 1)))) ∧ (((decode cL_law 964 = .ok (.aload_n 0, 1)) ∧ (decode cL_law 965 = .ok (.iload_n 3, 1))) ∧ ((decode cL_law 966 = .ok (.iconst 4, 1)) ∧ (decode cL_law 967 = .ok (.iadd, 1))))) ∧ ((((decode cL_law 968 = .ok (.iaload, 1)) ∧ (decode cL_law 969 = .ok (.aload_n 0, 1))) ∧ ((decode cL_law 970 = .ok (.iload_n 3, 1)) ∧ (decode cL_law 971 = .ok (.iconst 5, 1)))) ∧ (((decode cL_law 972 = .ok (.iadd, 1)) ∧ (decode cL_law 973 = .ok (.iaload, 1))) ∧ ((decode cL_law 974 = .ok (.invokevirtual 130, 3)) ∧ (decode cL_law 977 = .ok (.if_icmp .eq 217, 3)))))) := by decide +kernel
theorem dL_law_960 : decode cL_law 960 = .ok (.iload_n 3, 1) := kL_law_960.1.1.1.1
theorem dL_law_961 : decode cL_law 961 = .ok (.iconst 3, 1) := kL_law_960.1.1.1.2
theorem dL_law_962 : decode cL_law 962 = .ok (.iadd, 1) := kL_law_960.1.1.2.1
theorem dL_law_963 : decode cL_law 963 = .ok (.iaload, 1) := kL_law_960.1.1.2.2
theorem dL_law_964 : decode cL_law 964 = .ok (.aload_n 0, 1) := kL_law_960.1.2.1.1
theorem dL_law_965 : decode cL_law 965 = .ok (.iload_n 3, 1) := kL_law_960.1.2.1.2
theorem dL_law_966 : decode cL_law 966 = .ok (.iconst 4, 1) := kL_law_960.1.2.2.1
theorem dL_law_967 : decode cL_law 967 = .ok (.iadd, 1) := kL_law_960.1.2.2.2
theorem dL_law_968 : decode cL_law 968 = .ok (.iaload, 1) := kL_law_960.2.1.1.1
theorem dL_law_969 : decode cL_law 969 = .ok (.aload_n 0, 1) := kL_law_960.2.1.1.2
theorem dL_law_970 : decode cL_law 970 = .ok (.iload_n 3, 1) := kL_law_960.2.1.2.1
theorem dL_law_971 : decode cL_law 971 = .ok (.iconst 5, 1) := kL_law_960.2.1.2.2
theorem dL_law_972 : decode cL_law 972 = .ok (.iadd, 1) := kL_law_960.2.2.1.1
theorem dL_law_973 : decode cL_law 973 = .ok (.iaload, 1) := kL_law_960.2.2.1.2
theorem dL_law_974 : decode cL_law 974 = .ok (.invokevirtual 130, 3) := kL_law_960.2.2.2.1
theorem dL_law_977 : decode cL_law 977 = .ok (.if_icmp .eq 217, 3) := kL_law_960.2.2.2.2
theorem kL_law_980 : (((((decode cL_law 980 = .ok (.iconst 0, 1)) ∧ (decode cL_law 981 = .ok (.ireturn, 1))) ∧ ((decode cL_law 982 = .ok (.aload_n 1, 1)) ∧ (decode cL_law 983 = .ok (.aload_n 0, 1)))) ∧ (((decode cL_law 984 = .ok (.iload_n 3, 1)) ∧ (decode cL_law 985 = .ok (.iconst 1, 1))) ∧ ((decode cL_law 986 = .ok (.iadd, 1)) ∧ (decode cL_law 987 = .ok (.iaload, 1))))) ∧ ((((decode cL_law 988 = .ok (.aload_n 0, 1)) ∧ (decode cL_law 989 = .ok (.iload_n 3, 1))) ∧ ((decode cL_law 990 = .ok (.iconst 2, 1)) ∧ (decode cL_law 991 = .ok (.iadd, 1)))) ∧ (((decode cL_law 992 = .ok (.iaload, 1)) ∧ (decode cL_law 993 = .ok (.aload_n 0, 1))) ∧ ((decode cL_law 994 = .ok (.iload_n 3, 1)) ∧ (decode cL_law 995 = .ok (.iconst 3, 1)))))) := by decide +kernel
theorem dL_law_980 : decode cL_law 980 = .ok (.iconst 0, 1) := kL_law_980.1.1.1.1
theorem dL_law_981 : decode cL_law 981 = .ok (.ireturn, 1) := kL_law_980.1.1.1.2
theorem dL_law_982 : decode cL_law 982 = .ok (.aload_n 1, 1) := kL_law_980.1.1.2.1
theorem dL_law_983 : decode cL_law 983 = .ok (.aload_n 0, 1) := kL_law_980.1.1.2.2
theorem dL_law_984 : decode cL_law 984 = .ok (.iload_n 3, 1) := kL_law_980.1.2.1.1
theorem dL_law_985 : decode cL_law 985 = .ok (.iconst 1, 1) := kL_law_980.1.2.1.2
theorem dL_law_986 : decode cL_law 986 = .ok (.iadd, 1) := kL_law_980.1.2.2.1
theorem dL_law_987 : decode cL_law 987 = .ok (.iaload, 1) := kL_law_980.1.2.2.2
theorem dL_law_988 : decode cL_law 988 = .ok (.aload_n 0, 1) := kL_law_980.2.1.1.1
theorem dL_law_989 : decode cL_law 989 = .ok (.iload_n 3, 1) := kL_law_980.2.1.1.2
theorem dL_law_990 : decode cL_law 990 = .ok (.iconst 2, 1) := kL_law_980.2.1.2.1
theorem dL_law_991 : decode cL_law 991 = .ok (.iadd, 1) := kL_law_980.2.1.2.2
theorem dL_law_992 : decode cL_law 992 = .ok (.iaload, 1) := kL_law_980.2.2.1.1
theorem dL_law_993 : decode cL_law 993 = .ok (.aload_n 0, 1) := kL_law_980.2.2.1.2
theorem dL_law_994 : decode cL_law 994 = .ok (.iload_n 3, 1) := kL_law_980.2.2.2.1
theorem dL_law_995 : decode cL_law 995 = .ok (.iconst 3, 1) := kL_law_980.2.2.2.2
theorem kL_law_996 : (((((decode cL_law 996 = .ok (.iadd, 1)) ∧ (decode cL_law 997 = .ok (.iaload, 1))) ∧ ((decode cL_law 998 = .ok (.invokevirtual 131, 3)) ∧ (decode cL_law 1001 = .ok (.pop, 1)))) ∧ (((decode cL_law 1002 = .ok (.aload_n 2, 1)) ∧ (decode cL_law 1003 = .ok (.aload_n 0, 1))) ∧ ((decode cL_law 1004 = .ok (.iload_n 3, 1)) ∧ (decode cL_law 1005 = .ok (.iconst 1, 1))))) ∧ ((((decode cL_law 1006 = .ok (.iadd, 1)) ∧ (decode cL_law 1007 = .ok (.iaload, 1))) ∧ ((decode cL_law 1008 = .ok (.aload_n 0, 1)) ∧ (decode cL_law 1009 = .ok (.iload_n 3, 1)))) ∧ (((decode cL_law 1010 = .ok (.iconst 2, 1)) ∧ (decode cL_law 1011 = .ok (.iadd, 1))) ∧ ((decode cL_law 1012 = .ok (.iaload, 1)) ∧ (decode cL_law 1013 = .ok (.aload_n 0, 1)))))) := by decide +kernel
theorem dL_law_996 : decode cL_law 996 = .ok (.iadd, 1) := kL_law_996.1.1.1.1
theorem dL_law_997 : decode cL_law 997 = .ok (.iaload, 1) := kL_law_996.1.1.1.2
theorem dL_law_998 : decode cL_law 998 = .ok (.invokevirtual 131, 3) := kL_law_996.1.1.2.1
theorem dL_law_1001 : decode cL_law 1001 = .ok (.pop, 1) := kL_law_996.1.1.2.2
theorem dL_law_1002 : decode cL_law 1002 = .ok (.aload_n 2, 1) := kL_law_996.1.2.1.1
theorem dL_law_1003 : decode cL_law 1003 = .ok (.aload_n 0, 1) := kL_law_996.1.2.1.2
theorem dL_law_1004 : decode cL_law 1004 = .ok (.iload_n 3, 1) := kL_law_996.1.2.2.1
theorem dL_law_1005 : decode cL_law 1005 = .ok (.iconst 1, 1) := kL_law_996.1.2.2.2
theorem dL_law_1006 : decode cL_law 1006 = .ok (.iadd, 1) := kL_law_996.2.1.1.1
theorem dL_law_1007 : decode cL_law 1007 = .ok (.iaload, 1) := kL_law_996.2.1.1.2
theorem dL_law_1008 : decode cL_law 1008 = .ok (.aload_n 0, 1) := kL_law_996.2.1.2.1
theorem dL_law_1009 : decode cL_law 1009 = .ok (.iload_n 3, 1) := kL_law_996.2.1.2.2
theorem dL_law_1010 : decode cL_law 1010 = .ok (.iconst 2, 1) := kL_law_996.2.2.1.1
theorem dL_law_1011 : decode cL_law 1011 = .ok (.iadd, 1) := kL_law_996.2.2.1.2
theorem dL_law_1012 : decode cL_law 1012 = .ok (.iaload, 1) := kL_law_996.2.2.2.1
theorem dL_law_1013 : decode cL_law 1013 = .ok (.aload_n 0, 1) := kL_law_996.2.2.2.2
theorem kL_law_1014 : (((((decode cL_law 1014 = .ok (.iload_n 3, 1)) ∧ (decode cL_law 1015 = .ok (.iconst 3, 1))) ∧ ((decode cL_law 1016 = .ok (.iadd, 1)) ∧ (decode cL_law 1017 = .ok (.iaload, 1)))) ∧ (((decode cL_law 1018 = .ok (.invokevirtual 134, 3)) ∧ (decode cL_law 1021 = .ok (.pop, 1))) ∧ ((decode cL_law 1022 = .ok (.goto 172, 3)) ∧ (decode cL_law 1025 = .ok (.aload_n 1, 1))))) ∧ ((((decode cL_law 1026 = .ok (.aload_n 0, 1)) ∧ (decode cL_law 1027 = .ok (.iload_n 3, 1))) ∧ ((decode cL_law 1028 = .ok (.iconst 1, 1)) ∧ (decode cL_law 1029 = .ok (.iadd, 1)))) ∧ (((decode cL_law 1030 = .ok (.iaload, 1)) ∧ (decode cL_law 1031 = .ok (.invokevirtual 135, 3))) ∧ ((decode cL_law 1034 = .ok (.pop, 1)) ∧ (decode cL_law 1035 = .ok (.aload_n 2, 1)))))) := by decide +kernel
theorem dL_law_1014 : decode cL_law 1014 = .ok (.iload_n 3, 1) := kL_law_1014.1.1.1.1
theorem dL_law_1015 : decode cL_law 1015 = .ok (.iconst 3, 1) := kL_law_1014.1.1.1.2
theorem dL_law_1016 : decode cL_law 1016 = .ok (.iadd, 1) := kL_law_1014.1.1.2.1
theorem dL_law_1017 : decode cL_law 1017 = .ok (.iaload, 1) := kL_law_1014.1.1.2.2
theorem dL_law_1018 : decode cL_law 1018 = .ok (.invokevirtual 134, 3) := kL_law_1014.1.2.1.1
theorem dL_law_1021 : decode cL_law 1021 = .ok (.pop, 1) := kL_law_1014.1.2.1.2
theorem dL_law_1022 : decode cL_law 1022 = .ok (.goto 172, 3) := kL_law_1014.1.2.2.1
theorem dL_law_1025 : decode cL_law 1025 = .ok (.aload_n 1, 1) := kL_law_1014.1.2.2.2
theorem dL_law_1026 : decode cL_law 1026 = .ok (.aload_n 0, 1) := kL_law_1014.2.1.1.1
theorem dL_law_1027 : decode cL_law 1027 = .ok (.iload_n 3, 1) := kL_law_1014.2.1.1.2
theorem dL_law_1028 : decode cL_law 1028 = .ok (.iconst 1, 1) := kL_law_1014.2.1.2.1
theorem dL_law_1029 : decode cL_law 1029 = .ok (.iadd, 1) := kL_law_1014.2.1.2.2
theorem dL_law_1030 : decode cL_law 1030 = .ok (.iaload, 1) := kL_law_1014.2.2.1.1
theorem dL_law_1031 : decode cL_law 1031 = .ok (.invokevirtual 135, 3) := kL_law_1014.2.2.1.2
theorem dL_law_1034 : decode cL_law 1034 = .ok (.pop, 1) := kL_law_1014.2.2.2.1
theorem dL_law_1035 : decode cL_law 1035 = .ok (.aload_n 2, 1) := kL_law_1014.2.2.2.2
theorem kL_law_1036 : (((((decode cL_law 1036 = .ok (.aload_n 0, 1)) ∧ (decode cL_law 1037 = .ok (.iload_n 3, 1))) ∧ ((decode cL_law 1038 = .ok (.iconst 1, 1)) ∧ (decode cL_law 1039 = .ok (.iadd, 1)))) ∧ (((decode cL_law 1040 = .ok (.iaload, 1)) ∧ (decode cL_law 1041 = .ok (.invokevirtual 138, 3))) ∧ ((decode cL_law 1044 = .ok (.pop, 1)) ∧ (decode cL_law 1045 = .ok (.goto 149, 3))))) ∧ ((((decode cL_law 1048 = .ok (.aload_n 1, 1)) ∧ (decode cL_law 1049 = .ok (.aload_n 0, 1))) ∧ ((decode cL_law 1050 = .ok (.iload_n 3, 1)) ∧ (decode cL_law 1051 = .ok (.iconst 1, 1)))) ∧ (((decode cL_law 1052 = .ok (.iadd, 1)) ∧ (decode cL_law 1053 = .ok (.iaload, 1))) ∧ ((decode cL_law 1054 = .ok (.aload_n 0, 1)) ∧ (decode cL_law 1055 = .ok (.iload_n 3, 1)))))) := by decide +kernel
theorem dL_law_1036 : decode cL_law 1036 = .ok (.aload_n 0, 1) := kL_law_1036.1.1.1.1
theorem dL_law_1037 : decode cL_law 1037 = .ok (.iload_n 3, 1) := kL_law_1036.1.1.1.2
theorem dL_law_1038 : decode cL_law 1038 = .ok (.iconst 1, 1) := kL_law_1036.1.1.2.1
theorem dL_law_1039 : decode cL_law 1039 = .ok (.iadd, 1) := kL_law_1036.1.1.2.2
theorem dL_law_1040 : decode cL_law 1040 = .ok (.iaload, 1) := kL_law_1036.1.2.1.1
theorem dL_law_1041 : decode cL_law 1041 = .ok (.invokevirtual 138, 3) := kL_law_1036.1.2.1.2
theorem dL_law_1044 : decode cL_law 1044 = .ok (.pop, 1) := kL_law_1036.1.2.2.1
theorem dL_law_1045 : decode cL_law 1045 = .ok (.goto 149, 3) := kL_law_1036.1.2.2.2
theorem dL_law_1048 : decode cL_law 1048 = .ok (.aload_n 1, 1) := kL_law_1036.2.1.1.1
theorem dL_law_1049 : decode cL_law 1049 = .ok (.aload_n 0, 1) := kL_law_1036.2.1.1.2
theorem dL_law_1050 : decode cL_law 1050 = .ok (.iload_n 3, 1) := kL_law_1036.2.1.2.1
theorem dL_law_1051 : decode cL_law 1051 = .ok (.iconst 1, 1) := kL_law_1036.2.1.2.2
theorem dL_law_1052 : decode cL_law 1052 = .ok (.iadd, 1) := kL_law_1036.2.2.1.1
theorem dL_law_1053 : decode cL_law 1053 = .ok (.iaload, 1) := kL_law_1036.2.2.1.2
theorem dL_law_1054 : decode cL_law 1054 = .ok (.aload_n 0, 1) := kL_law_1036.2.2.2.1
theorem dL_law_1055 : decode cL_law 1055 = .ok (.iload_n 3, 1) := kL_law_1036.2.2.2.2
theorem kL_law_1056 : (((((decode cL_law 1056 = .ok (.iconst 2, 1)) ∧ (decode cL_law 1057 = .ok (.iadd, 1))) ∧ ((decode cL_law 1058 = .ok (.iaload, 1)) ∧ (decode cL_law 1059 = .ok (.aload_n 0, 1)))) ∧ (((decode cL_law 1060 = .ok (.iload_n 3, 1)) ∧ (decode cL_law 1061 = .ok (.iconst 3, 1))) ∧ ((decode cL_law 1062 = .ok (.iadd, 1)) ∧ (decode cL_law 1063 = .ok (.iaload, 1))))) ∧ ((((decode cL_law 1064 = .ok (.aload_n 0, 1)) ∧ (decode cL_law 1065 = .ok (.iload_n 3, 1))) ∧ ((decode cL_law 1066 = .ok (.iconst 4, 1)) ∧ (decode cL_law 1067 = .ok (.iadd, 1)))) ∧ (((decode cL_law 1068 = .ok (.iaload, 1)) ∧ (decode cL_law 1069 = .ok (.i2l, 1))) ∧ ((decode cL_law 1070 = .ok (.bipush 32, 2)) ∧ (decode cL_law 1072 = .ok (.lshl, 1)))))) := by decide +kernel
theorem dL_law_1056 : decode cL_law 1056 = .ok (.iconst 2, 1) := kL_law_1056.1.1.1.1
theorem dL_law_1057 : decode cL_law 1057 = .ok (.iadd, 1) := kL_law_1056.1.1.1.2
theorem dL_law_1058 : decode cL_law 1058 = .ok (.iaload, 1) := kL_law_1056.1.1.2.1
theorem dL_law_1059 : decode cL_law 1059 = .ok (.aload_n 0, 1) := kL_law_1056.1.1.2.2
theorem dL_law_1060 : decode cL_law 1060 = .ok (.iload_n 3, 1) := kL_law_1056.1.2.1.1
theorem dL_law_1061 : decode cL_law 1061 = .ok (.iconst 3, 1) := kL_law_1056.1.2.1.2
theorem dL_law_1062 : decode cL_law 1062 = .ok (.iadd, 1) := kL_law_1056.1.2.2.1
theorem dL_law_1063 : decode cL_law 1063 = .ok (.iaload, 1) := kL_law_1056.1.2.2.2
theorem dL_law_1064 : decode cL_law 1064 = .ok (.aload_n 0, 1) := kL_law_1056.2.1.1.1
theorem dL_law_1065 : decode cL_law 1065 = .ok (.iload_n 3, 1) := kL_law_1056.2.1.1.2
theorem dL_law_1066 : decode cL_law 1066 = .ok (.iconst 4, 1) := kL_law_1056.2.1.2.1
theorem dL_law_1067 : decode cL_law 1067 = .ok (.iadd, 1) := kL_law_1056.2.1.2.2
theorem dL_law_1068 : decode cL_law 1068 = .ok (.iaload, 1) := kL_law_1056.2.2.1.1
theorem dL_law_1069 : decode cL_law 1069 = .ok (.i2l, 1) := kL_law_1056.2.2.1.2
theorem dL_law_1070 : decode cL_law 1070 = .ok (.bipush 32, 2) := kL_law_1056.2.2.2.1
theorem dL_law_1072 : decode cL_law 1072 = .ok (.lshl, 1) := kL_law_1056.2.2.2.2
theorem kL_law_1073 : (((((decode cL_law 1073 = .ok (.aload_n 0, 1)) ∧ (decode cL_law 1074 = .ok (.iload_n 3, 1))) ∧ ((decode cL_law 1075 = .ok (.iconst 5, 1)) ∧ (decode cL_law 1076 = .ok (.iadd, 1)))) ∧ (((decode cL_law 1077 = .ok (.iaload, 1)) ∧ (decode cL_law 1078 = .ok (.i2l, 1))) ∧ ((decode cL_law 1079 = .ok (.ldc2_w 139, 3)) ∧ (decode cL_law 1082 = .ok (.land, 1))))) ∧ ((((decode cL_law 1083 = .ok (.lor, 1)) ∧ (decode cL_law 1084 = .ok (.invokevirtual 141, 3))) ∧ ((decode cL_law 1087 = .ok (.pop, 1)) ∧ (decode cL_law 1088 = .ok (.aload_n 2, 1)))) ∧ (((decode cL_law 1089 = .ok (.aload_n 0, 1)) ∧ (decode cL_law 1090 = .ok (.iload_n 3, 1))) ∧ ((decode cL_law 1091 = .ok (.iconst 1, 1)) ∧ (decode cL_law 1092 = .ok (.iadd, 1)))))) := by decide +kernel
theorem dL_law_1073 : decode cL_law 1073 = .ok (.aload_n 0, 1) := kL_law_1073.1.1.1.1
theorem dL_law_1074 : decode cL_law 1074 = .ok (.iload_n 3, 1) := kL_law_1073.1.1.1.2
theorem dL_law_1075 : decode cL_law 1075 = .ok (.iconst 5, 1) := kL_law_1073.1.1.2.1
theorem dL_law_1076 : decode cL_law 1076 = .ok (.iadd, 1) := kL_law_1073.1.1.2.2
theorem dL_law_1077 : decode cL_law 1077 = .ok (.iaload, 1) := kL_law_1073.1.2.1.1
theorem dL_law_1078 : decode cL_law 1078 = .ok (.i2l, 1) := kL_law_1073.1.2.1.2
theorem dL_law_1079 : decode cL_law 1079 = .ok (.ldc2_w 139, 3) := kL_law_1073.1.2.2.1
theorem dL_law_1082 : decode cL_law 1082 = .ok (.land, 1) := kL_law_1073.1.2.2.2
theorem dL_law_1083 : decode cL_law 1083 = .ok (.lor, 1) := kL_law_1073.2.1.1.1
theorem dL_law_1084 : decode cL_law 1084 = .ok (.invokevirtual 141, 3) := kL_law_1073.2.1.1.2
theorem dL_law_1087 : decode cL_law 1087 = .ok (.pop, 1) := kL_law_1073.2.1.2.1
theorem dL_law_1088 : decode cL_law 1088 = .ok (.aload_n 2, 1) := kL_law_1073.2.1.2.2
theorem dL_law_1089 : decode cL_law 1089 = .ok (.aload_n 0, 1) := kL_law_1073.2.2.1.1
theorem dL_law_1090 : decode cL_law 1090 = .ok (.iload_n 3, 1) := kL_law_1073.2.2.1.2
theorem dL_law_1091 : decode cL_law 1091 = .ok (.iconst 1, 1) := kL_law_1073.2.2.2.1
theorem dL_law_1092 : decode cL_law 1092 = .ok (.iadd, 1) := kL_law_1073.2.2.2.2
theorem kL_law_1093 : (((((decode cL_law 1093 = .ok (.iaload, 1)) ∧ (decode cL_law 1094 = .ok (.aload_n 0, 1))) ∧ ((decode cL_law 1095 = .ok (.iload_n 3, 1)) ∧ (decode cL_law 1096 = .ok (.iconst 2, 1)))) ∧ (((decode cL_law 1097 = .ok (.iadd, 1)) ∧ (decode cL_law 1098 = .ok (.iaload, 1))) ∧ ((decode cL_law 1099 = .ok (.aload_n 0, 1)) ∧ (decode cL_law 1100 = .ok (.iload_n 3, 1))))) ∧ ((((decode cL_law 1101 = .ok (.iconst 3, 1)) ∧ (decode cL_law 1102 = .ok (.iadd, 1))) ∧ ((decode cL_law 1103 = .ok (.iaload, 1)) ∧ (decode cL_law 1104 = .ok (.aload_n 0, 1)))) ∧ (((decode cL_law 1105 = .ok (.iload_n 3, 1)) ∧ (decode cL_law 1106 = .ok (.iconst 4, 1))) ∧ ((decode cL_law 1107 = .ok (.iadd, 1)) ∧ (decode cL_law 1108 = .ok (.iaload, 1)))))) := by decide +kernel
theorem dL_law_1093 : decode cL_law 1093 = .ok (.iaload, 1) := kL_law_1093.1.1.1.1
theorem dL_law_1094 : decode cL_law 1094 = .ok (.aload_n 0, 1) := kL_law_1093.1.1.1.2
theorem dL_law_1095 : decode cL_law 1095 = .ok (.iload_n 3, 1) := kL_law_1093.1.1.2.1
theorem dL_law_1096 : decode cL_law 1096 = .ok (.iconst 2, 1) := kL_law_1093.1.1.2.2
theorem dL_law_1097 : decode cL_law 1097 = .ok (.iadd, 1) := kL_law_1093.1.2.1.1
theorem dL_law_1098 : decode cL_law 1098 = .ok (.iaload, 1) := kL_law_1093.1.2.1.2
theorem dL_law_1099 : decode cL_law 1099 = .ok (.aload_n 0, 1) := kL_law_1093.1.2.2.1
theorem dL_law_1100 : decode cL_law 1100 = .ok (.iload_n 3, 1) := kL_law_1093.1.2.2.2
theorem dL_law_1101 : decode cL_law 1101 = .ok (.iconst 3, 1) := kL_law_1093.2.1.1.1
theorem dL_law_1102 : decode cL_law 1102 = .ok (.iadd, 1) := kL_law_1093.2.1.1.2
theorem dL_law_1103 : decode cL_law 1103 = .ok (.iaload, 1) := kL_law_1093.2.1.2.1
theorem dL_law_1104 : decode cL_law 1104 = .ok (.aload_n 0, 1) := kL_law_1093.2.1.2.2
theorem dL_law_1105 : decode cL_law 1105 = .ok (.iload_n 3, 1) := kL_law_1093.2.2.1.1
theorem dL_law_1106 : decode cL_law 1106 = .ok (.iconst 4, 1) := kL_law_1093.2.2.1.2
theorem dL_law_1107 : decode cL_law 1107 = .ok (.iadd, 1) := kL_law_1093.2.2.2.1
theorem dL_law_1108 : decode cL_law 1108 = .ok (.iaload, 1) := kL_law_1093.2.2.2.2
theorem kL_law_1109 : (((((decode cL_law 1109 = .ok (.i2l, 1)) ∧ (decode cL_law 1110 = .ok (.bipush 32, 2))) ∧ ((decode cL_law 1112 = .ok (.lshl, 1)) ∧ (decode cL_law 1113 = .ok (.aload_n 0, 1)))) ∧ (((decode cL_law 1114 = .ok (.iload_n 3, 1)) ∧ (decode cL_law 1115 = .ok (.iconst 5, 1))) ∧ ((decode cL_law 1116 = .ok (.iadd, 1)) ∧ (decode cL_law 1117 = .ok (.iaload, 1))))) ∧ ((((decode cL_law 1118 = .ok (.i2l, 1)) ∧ (decode cL_law 1119 = .ok (.ldc2_w 139, 3))) ∧ ((decode cL_law 1122 = .ok (.land, 1)) ∧ (decode cL_law 1123 = .ok (.lor, 1)))) ∧ (((decode cL_law 1124 = .ok (.invokevirtual 145, 3)) ∧ (decode cL_law 1127 = .ok (.pop, 1))) ∧ ((decode cL_law 1128 = .ok (.goto 66, 3)) ∧ (decode cL_law 1131 = .ok (.aload_n 1, 1)))))) := by decide +kernel
theorem dL_law_1109 : decode cL_law 1109 = .ok (.i2l, 1) := kL_law_1109.1.1.1.1
theorem dL_law_1110 : decode cL_law 1110 = .ok (.bipush 32, 2) := kL_law_1109.1.1.1.2
theorem dL_law_1112 : decode cL_law 1112 = .ok (.lshl, 1) := kL_law_1109.1.1.2.1
theorem dL_law_1113 : decode cL_law 1113 = .ok (.aload_n 0, 1) := kL_law_1109.1.1.2.2
theorem dL_law_1114 : decode cL_law 1114 = .ok (.iload_n 3, 1) := kL_law_1109.1.2.1.1
theorem dL_law_1115 : decode cL_law 1115 = .ok (.iconst 5, 1) := kL_law_1109.1.2.1.2
theorem dL_law_1116 : decode cL_law 1116 = .ok (.iadd, 1) := kL_law_1109.1.2.2.1
theorem dL_law_1117 : decode cL_law 1117 = .ok (.iaload, 1) := kL_law_1109.1.2.2.2
theorem dL_law_1118 : decode cL_law 1118 = .ok (.i2l, 1) := kL_law_1109.2.1.1.1
theorem dL_law_1119 : decode cL_law 1119 = .ok (.ldc2_w 139, 3) := kL_law_1109.2.1.1.2
theorem dL_law_1122 : decode cL_law 1122 = .ok (.land, 1) := kL_law_1109.2.1.2.1
theorem dL_law_1123 : decode cL_law 1123 = .ok (.lor, 1) := kL_law_1109.2.1.2.2
theorem dL_law_1124 : decode cL_law 1124 = .ok (.invokevirtual 145, 3) := kL_law_1109.2.2.1.1
theorem dL_law_1127 : decode cL_law 1127 = .ok (.pop, 1) := kL_law_1109.2.2.1.2
theorem dL_law_1128 : decode cL_law 1128 = .ok (.goto 66, 3) := kL_law_1109.2.2.2.1
theorem dL_law_1131 : decode cL_law 1131 = .ok (.aload_n 1, 1) := kL_law_1109.2.2.2.2
theorem kL_law_1132 : (((((decode cL_law 1132 = .ok (.aload_n 0, 1)) ∧ (decode cL_law 1133 = .ok (.iload_n 3, 1))) ∧ ((decode cL_law 1134 = .ok (.iconst 1, 1)) ∧ (decode cL_law 1135 = .ok (.iadd, 1)))) ∧ (((decode cL_law 1136 = .ok (.iaload, 1)) ∧ (decode cL_law 1137 = .ok (.aload_n 0, 1))) ∧ ((decode cL_law 1138 = .ok (.iload_n 3, 1)) ∧ (decode cL_law 1139 = .ok (.iconst 2, 1))))) ∧ ((((decode cL_law 1140 = .ok (.iadd, 1)) ∧ (decode cL_law 1141 = .ok (.iaload, 1))) ∧ ((decode cL_law 1142 = .ok (.aload_n 0, 1)) ∧ (decode cL_law 1143 = .ok (.iload_n 3, 1)))) ∧ (((decode cL_law 1144 = .ok (.iconst 3, 1)) ∧ (decode cL_law 1145 = .ok (.iadd, 1))) ∧ ((decode cL_law 1146 = .ok (.iaload, 1)) ∧ (decode cL_law 1147 = .ok (.aload_n 0, 1)))))) := by decide +kernel
theorem dL_law_1132 : decode cL_law 1132 = .ok (.aload_n 0, 1) := kL_law_1132.1.1.1.1
theorem dL_law_1133 : decode cL_law 1133 = .ok (.iload_n 3, 1) := kL_law_1132.1.1.1.2
theorem dL_law_1134 : decode cL_law 1134 = .ok (.iconst 1, 1) := kL_law_1132.1.1.2.1
theorem dL_law_1135 : decode cL_law 1135 = .ok (.iadd, 1) := kL_law_1132.1.1.2.2
theorem dL_law_1136 : decode cL_law 1136 = .ok (.iaload, 1) := kL_law_1132.1.2.1.1
theorem dL_law_1137 : decode cL_law 1137 = .ok (.aload_n 0, 1) := kL_law_1132.1.2.1.2
theorem dL_law_1138 : decode cL_law 1138 = .ok (.iload_n 3, 1) := kL_law_1132.1.2.2.1
theorem dL_law_1139 : decode cL_law 1139 = .ok (.iconst 2, 1) := kL_law_1132.1.2.2.2
theorem dL_law_1140 : decode cL_law 1140 = .ok (.iadd, 1) := kL_law_1132.2.1.1.1
theorem dL_law_1141 : decode cL_law 1141 = .ok (.iaload, 1) := kL_law_1132.2.1.1.2
theorem dL_law_1142 : decode cL_law 1142 = .ok (.aload_n 0, 1) := kL_law_1132.2.1.2.1
theorem dL_law_1143 : decode cL_law 1143 = .ok (.iload_n 3, 1) := kL_law_1132.2.1.2.2
theorem dL_law_1144 : decode cL_law 1144 = .ok (.iconst 3, 1) := kL_law_1132.2.2.1.1
theorem dL_law_1145 : decode cL_law 1145 = .ok (.iadd, 1) := kL_law_1132.2.2.1.2
theorem dL_law_1146 : decode cL_law 1146 = .ok (.iaload, 1) := kL_law_1132.2.2.2.1
theorem dL_law_1147 : decode cL_law 1147 = .ok (.aload_n 0, 1) := kL_law_1132.2.2.2.2
theorem kL_law_1148 : (((((decode cL_law 1148 = .ok (.iload_n 3, 1)) ∧ (decode cL_law 1149 = .ok (.iconst 4, 1))) ∧ ((decode cL_law 1150 = .ok (.iadd, 1)) ∧ (decode cL_law 1151 = .ok (.iaload, 1)))) ∧ (((decode cL_law 1152 = .ok (.aload_n 0, 1)) ∧ (decode cL_law 1153 = .ok (.iload_n 3, 1))) ∧ ((decode cL_law 1154 = .ok (.iconst 5, 1)) ∧ (decode cL_law 1155 = .ok (.iadd, 1))))) ∧ ((((decode cL_law 1156 = .ok (.iaload, 1)) ∧ (decode cL_law 1157 = .ok (.invokevirtual 146, 3))) ∧ ((decode cL_law 1160 = .ok (.pop, 1)) ∧ (decode cL_law 1161 = .ok (.aload_n 2, 1)))) ∧ (((decode cL_law 1162 = .ok (.aload_n 0, 1)) ∧ (decode cL_law 1163 = .ok (.iload_n 3, 1))) ∧ ((decode cL_law 1164 = .ok (.iconst 1, 1)) ∧ (decode cL_law 1165 = .ok (.iadd, 1)))))) := by decide +kernel
theorem dL_law_1148 : decode cL_law 1148 = .ok (.iload_n 3, 1) := kL_law_1148.1.1.1.1
theorem dL_law_1149 : decode cL_law 1149 = .ok (.iconst 4, 1) := kL_law_1148.1.1.1.2
theorem dL_law_1150 : decode cL_law 1150 = .ok (.iadd, 1) := kL_law_1148.1.1.2.1
theorem dL_law_1151 : decode cL_law 1151 = .ok (.iaload, 1) := kL_law_1148.1.1.2.2
theorem dL_law_1152 : decode cL_law 1152 = .ok (.aload_n 0, 1) := kL_law_1148.1.2.1.1
theorem dL_law_1153 : decode cL_law 1153 = .ok (.iload_n 3, 1) := kL_law_1148.1.2.1.2
theorem dL_law_1154 : decode cL_law 1154 = .ok (.iconst 5, 1) := kL_law_1148.1.2.2.1
theorem dL_law_1155 : decode cL_law 1155 = .ok (.iadd, 1) := kL_law_1148.1.2.2.2
theorem dL_law_1156 : decode cL_law 1156 = .ok (.iaload, 1) := kL_law_1148.2.1.1.1
theorem dL_law_1157 : decode cL_law 1157 = .ok (.invokevirtual 146, 3) := kL_law_1148.2.1.1.2
theorem dL_law_1160 : decode cL_law 1160 = .ok (.pop, 1) := kL_law_1148.2.1.2.1
theorem dL_law_1161 : decode cL_law 1161 = .ok (.aload_n 2, 1) := kL_law_1148.2.1.2.2
theorem dL_law_1162 : decode cL_law 1162 = .ok (.aload_n 0, 1) := kL_law_1148.2.2.1.1
theorem dL_law_1163 : decode cL_law 1163 = .ok (.iload_n 3, 1) := kL_law_1148.2.2.1.2
theorem dL_law_1164 : decode cL_law 1164 = .ok (.iconst 1, 1) := kL_law_1148.2.2.2.1
theorem dL_law_1165 : decode cL_law 1165 = .ok (.iadd, 1) := kL_law_1148.2.2.2.2
theorem kL_law_1166 : (((((decode cL_law 1166 = .ok (.iaload, 1)) ∧ (decode cL_law 1167 = .ok (.aload_n 0, 1))) ∧ ((decode cL_law 1168 = .ok (.iload_n 3, 1)) ∧ (decode cL_law 1169 = .ok (.iconst 2, 1)))) ∧ (((decode cL_law 1170 = .ok (.iadd, 1)) ∧ (decode cL_law 1171 = .ok (.iaload, 1))) ∧ ((decode cL_law 1172 = .ok (.aload_n 0, 1)) ∧ (decode cL_law 1173 = .ok (.iload_n 3, 1))))) ∧ ((((decode cL_law 1174 = .ok (.iconst 3, 1)) ∧ (decode cL_law 1175 = .ok (.iadd, 1))) ∧ ((decode cL_law 1176 = .ok (.iaload, 1)) ∧ (decode cL_law 1177 = .ok (.aload_n 0, 1)))) ∧ (((decode cL_law 1178 = .ok (.iload_n 3, 1)) ∧ (decode cL_law 1179 = .ok (.iconst 4, 1))) ∧ ((decode cL_law 1180 = .ok (.iadd, 1)) ∧ (decode cL_law 1181 = .ok (.iaload, 1)))))) := by decide +kernel
theorem dL_law_1166 : decode cL_law 1166 = .ok (.iaload, 1) := kL_law_1166.1.1.1.1
theorem dL_law_1167 : decode cL_law 1167 = .ok (.aload_n 0, 1) := kL_law_1166.1.1.1.2
theorem dL_law_1168 : decode cL_law 1168 = .ok (.iload_n 3, 1) := kL_law_1166.1.1.2.1
theorem dL_law_1169 : decode cL_law 1169 = .ok (.iconst 2, 1) := kL_law_1166.1.1.2.2
theorem dL_law_1170 : decode cL_law 1170 = .ok (.iadd, 1) := kL_law_1166.1.2.1.1
theorem dL_law_1171 : decode cL_law 1171 = .ok (.iaload, 1) := kL_law_1166.1.2.1.2
theorem dL_law_1172 : decode cL_law 1172 = .ok (.aload_n 0, 1) := kL_law_1166.1.2.2.1
theorem dL_law_1173 : decode cL_law 1173 = .ok (.iload_n 3, 1) := kL_law_1166.1.2.2.2
theorem dL_law_1174 : decode cL_law 1174 = .ok (.iconst 3, 1) := kL_law_1166.2.1.1.1
theorem dL_law_1175 : decode cL_law 1175 = .ok (.iadd, 1) := kL_law_1166.2.1.1.2
theorem dL_law_1176 : decode cL_law 1176 = .ok (.iaload, 1) := kL_law_1166.2.1.2.1
theorem dL_law_1177 : decode cL_law 1177 = .ok (.aload_n 0, 1) := kL_law_1166.2.1.2.2
theorem dL_law_1178 : decode cL_law 1178 = .ok (.iload_n 3, 1) := kL_law_1166.2.2.1.1
theorem dL_law_1179 : decode cL_law 1179 = .ok (.iconst 4, 1) := kL_law_1166.2.2.1.2
theorem dL_law_1180 : decode cL_law 1180 = .ok (.iadd, 1) := kL_law_1166.2.2.2.1
theorem dL_law_1181 : decode cL_law 1181 = .ok (.iaload, 1) := kL_law_1166.2.2.2.2
theorem kL_law_1182 : (((((decode cL_law 1182 = .ok (.aload_n 0, 1)) ∧ (decode cL_law 1183 = .ok (.iload_n 3, 1))) ∧ (decode cL_law 1184 = .ok (.iconst 5, 1))) ∧ (((decode cL_law 1185 = .ok (.iadd, 1)) ∧ (decode cL_law 1186 = .ok (.iaload, 1))) ∧ (decode cL_law 1187 = .ok (.invokevirtual 149, 3)))) ∧ ((((decode cL_law 1190 = .ok (.pop, 1)) ∧ (decode cL_law 1191 = .ok (.goto 3, 3))) ∧ (decode cL_law 1194 = .ok (.iinc 3 7, 3))) ∧ (((decode cL_law 1197 = .ok (.goto (-1179), 3)) ∧ (decode cL_law 1200 = .ok (.iconst 1, 1))) ∧ (decode cL_law 1201 = .ok (.ireturn, 1))))) := by decide +kernel
theorem dL_law_1182 : decode cL_law 1182 = .ok (.aload_n 0, 1) := kL_law_1182.1.1.1.1
theorem dL_law_1183 : decode cL_law 1183 = .ok (.iload_n 3, 1) := kL_law_1182.1.1.1.2
theorem dL_law_1184 : decode cL_law 1184 = .ok (.iconst 5, 1) := kL_law_1182.1.1.2
theorem dL_law_1185 : decode cL_law 1185 = .ok (.iadd, 1) := kL_law_1182.1.2.1.1
theorem dL_law_1186 : decode cL_law 1186 = .ok (.iaload, 1) := kL_law_1182.1.2.1.2
theorem dL_law_1187 : decode cL_law 1187 = .ok (.invokevirtual 149, 3) := kL_law_1182.1.2.2
theorem dL_law_1190 : decode cL_law 1190 = .ok (.pop, 1) := kL_law_1182.2.1.1.1
theorem dL_law_1191 : decode cL_law 1191 = .ok (.goto 3, 3) := kL_law_1182.2.1.1.2
theorem dL_law_1194 : decode cL_law 1194 = .ok (.iinc 3 7, 3) := kL_law_1182.2.1.2
theorem dL_law_1197 : decode cL_law 1197 = .ok (.goto (-1179), 3) := kL_law_1182.2.2.1.1
theorem dL_law_1200 : decode cL_law 1200 = .ok (.iconst 1, 1) := kL_law_1182.2.2.1.2
theorem dL_law_1201 : decode cL_law 1201 = .ok (.ireturn, 1) := kL_law_1182.2.2.2
