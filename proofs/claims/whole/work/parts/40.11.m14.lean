abbrev mL_law : xa_M := (cL_law, 4, (some (.boolean)), RL, false)
theorem d_L_law_0 : decode mL_law.1 0 = .ok (.new 7, 3) ∧ 0 + 3 = 3 := ⟨by decide +kernel, rfl⟩
theorem d_L_law_3 : decode mL_law.1 3 = .ok (.dup, 1) ∧ 3 + 1 = 4 := ⟨by decide +kernel, rfl⟩
theorem d_L_law_4 : decode mL_law.1 4 = .ok (.invokespecial 9, 3) ∧ 4 + 3 = 7 := ⟨by decide +kernel, rfl⟩
theorem d_L_law_7 : decode mL_law.1 7 = .ok (.astore_n 1, 1) ∧ 7 + 1 = 8 := ⟨by decide +kernel, rfl⟩
theorem d_L_law_8 : decode mL_law.1 8 = .ok (.new 10, 3) ∧ 8 + 3 = 11 := ⟨by decide +kernel, rfl⟩
theorem d_L_law_11 : decode mL_law.1 11 = .ok (.dup, 1) ∧ 11 + 1 = 12 := ⟨by decide +kernel, rfl⟩
theorem d_L_law_12 : decode mL_law.1 12 = .ok (.invokespecial 12, 3) ∧ 12 + 3 = 15 := ⟨by decide +kernel, rfl⟩
theorem d_L_law_15 : decode mL_law.1 15 = .ok (.astore_n 2, 1) ∧ 15 + 1 = 16 := ⟨by decide +kernel, rfl⟩
theorem d_L_law_16 : decode mL_law.1 16 = .ok (.iconst 0, 1) ∧ 16 + 1 = 17 := ⟨by decide +kernel, rfl⟩
theorem d_L_law_17 : decode mL_law.1 17 = .ok (.istore_n 3, 1) ∧ 17 + 1 = 18 := ⟨by decide +kernel, rfl⟩
theorem d_L_law_18 : decode mL_law.1 18 = .ok (.iload_n 3, 1) ∧ 18 + 1 = 19 := ⟨by decide +kernel, rfl⟩
theorem d_L_law_19 : decode mL_law.1 19 = .ok (.aload_n 0, 1) ∧ 19 + 1 = 20 := ⟨by decide +kernel, rfl⟩
theorem d_L_law_20 : decode mL_law.1 20 = .ok (.arraylength, 1) ∧ 20 + 1 = 21 := ⟨by decide +kernel, rfl⟩
theorem d_L_law_21 : decode mL_law.1 21 = .ok (.bipush 6, 2) ∧ 21 + 2 = 23 := ⟨by decide +kernel, rfl⟩
theorem d_L_law_23 : decode mL_law.1 23 = .ok (.isub, 1) ∧ 23 + 1 = 24 := ⟨by decide +kernel, rfl⟩
theorem d_L_law_24 : decode mL_law.1 24 = .ok (.if_icmp .gt 982, 3) ∧ 24 + 3 = 27 ∧ ((24 : Nat) : Int) + 982 = ((1006 : Nat) : Int) := ⟨by decide +kernel, rfl, rfl⟩
theorem d_L_law_27 : decode mL_law.1 27 = .ok (.aload_n 0, 1) ∧ 27 + 1 = 28 := ⟨by decide +kernel, rfl⟩
theorem d_L_law_28 : decode mL_law.1 28 = .ok (.iload_n 3, 1) ∧ 28 + 1 = 29 := ⟨by decide +kernel, rfl⟩
theorem d_L_law_29 : decode mL_law.1 29 = .ok (.iaload, 1) ∧ 29 + 1 = 30 := ⟨by decide +kernel, rfl⟩
theorem d_L_law_30 : decode mL_law.1 30 = .ok (.bipush 63, 2) ∧ 30 + 2 = 32 := ⟨by decide +kernel, rfl⟩
theorem d_L_law_32 : decode mL_law.1 32 = .ok (.iand, 1) ∧ 32 + 1 = 33 := ⟨by decide +kernel, rfl⟩
theorem d_L_law_33 : decode mL_law.1 33 = .ok (.tableswitch 967 0 32 #[147, 210, 233, 246, 269, 292, 335, 368, 401, 434, 467, 500, 513, 536, 559, 582, 615, 648, 671, 694, 717, 730, 753, 776, 789, 822, 845, 858, 881, 895, 908, 931, 944], 147) := by decide +kernel
theorem d_L_law_180 : decode mL_law.1 180 = .ok (.aload_n 1, 1) ∧ 180 + 1 = 181 := ⟨by decide +kernel, rfl⟩
theorem d_L_law_181 : decode mL_law.1 181 = .ok (.aload_n 0, 1) ∧ 181 + 1 = 182 := ⟨by decide +kernel, rfl⟩
theorem d_L_law_182 : decode mL_law.1 182 = .ok (.iload_n 3, 1) ∧ 182 + 1 = 183 := ⟨by decide +kernel, rfl⟩
theorem d_L_law_183 : decode mL_law.1 183 = .ok (.iconst 1, 1) ∧ 183 + 1 = 184 := ⟨by decide +kernel, rfl⟩
theorem d_L_law_184 : decode mL_law.1 184 = .ok (.iadd, 1) ∧ 184 + 1 = 185 := ⟨by decide +kernel, rfl⟩
theorem d_L_law_185 : decode mL_law.1 185 = .ok (.iaload, 1) ∧ 185 + 1 = 186 := ⟨by decide +kernel, rfl⟩
theorem d_L_law_186 : decode mL_law.1 186 = .ok (.aload_n 0, 1) ∧ 186 + 1 = 187 := ⟨by decide +kernel, rfl⟩
theorem d_L_law_187 : decode mL_law.1 187 = .ok (.iload_n 3, 1) ∧ 187 + 1 = 188 := ⟨by decide +kernel, rfl⟩
theorem d_L_law_188 : decode mL_law.1 188 = .ok (.iconst 2, 1) ∧ 188 + 1 = 189 := ⟨by decide +kernel, rfl⟩
theorem d_L_law_189 : decode mL_law.1 189 = .ok (.iadd, 1) ∧ 189 + 1 = 190 := ⟨by decide +kernel, rfl⟩
theorem d_L_law_190 : decode mL_law.1 190 = .ok (.iaload, 1) ∧ 190 + 1 = 191 := ⟨by decide +kernel, rfl⟩
theorem d_L_law_191 : decode mL_law.1 191 = .ok (.aload_n 0, 1) ∧ 191 + 1 = 192 := ⟨by decide +kernel, rfl⟩
theorem d_L_law_192 : decode mL_law.1 192 = .ok (.iload_n 3, 1) ∧ 192 + 1 = 193 := ⟨by decide +kernel, rfl⟩
theorem d_L_law_193 : decode mL_law.1 193 = .ok (.iconst 3, 1) ∧ 193 + 1 = 194 := ⟨by decide +kernel, rfl⟩
theorem d_L_law_194 : decode mL_law.1 194 = .ok (.iadd, 1) ∧ 194 + 1 = 195 := ⟨by decide +kernel, rfl⟩
theorem d_L_law_195 : decode mL_law.1 195 = .ok (.iaload, 1) ∧ 195 + 1 = 196 := ⟨by decide +kernel, rfl⟩
theorem d_L_law_196 : decode mL_law.1 196 = .ok (.aload_n 0, 1) ∧ 196 + 1 = 197 := ⟨by decide +kernel, rfl⟩
theorem d_L_law_197 : decode mL_law.1 197 = .ok (.iload_n 3, 1) ∧ 197 + 1 = 198 := ⟨by decide +kernel, rfl⟩
theorem d_L_law_198 : decode mL_law.1 198 = .ok (.iconst 4, 1) ∧ 198 + 1 = 199 := ⟨by decide +kernel, rfl⟩
theorem d_L_law_199 : decode mL_law.1 199 = .ok (.iadd, 1) ∧ 199 + 1 = 200 := ⟨by decide +kernel, rfl⟩
theorem d_L_law_200 : decode mL_law.1 200 = .ok (.iaload, 1) ∧ 200 + 1 = 201 := ⟨by decide +kernel, rfl⟩
theorem d_L_law_201 : decode mL_law.1 201 = .ok (.aload_n 0, 1) ∧ 201 + 1 = 202 := ⟨by decide +kernel, rfl⟩
theorem d_L_law_202 : decode mL_law.1 202 = .ok (.iload_n 3, 1) ∧ 202 + 1 = 203 := ⟨by decide +kernel, rfl⟩
theorem d_L_law_203 : decode mL_law.1 203 = .ok (.iconst 5, 1) ∧ 203 + 1 = 204 := ⟨by decide +kernel, rfl⟩
theorem d_L_law_204 : decode mL_law.1 204 = .ok (.iadd, 1) ∧ 204 + 1 = 205 := ⟨by decide +kernel, rfl⟩
theorem d_L_law_205 : decode mL_law.1 205 = .ok (.iaload, 1) ∧ 205 + 1 = 206 := ⟨by decide +kernel, rfl⟩
theorem d_L_law_206 : decode mL_law.1 206 = .ok (.invokevirtual 13, 3) ∧ 206 + 3 = 209 := ⟨by decide +kernel, rfl⟩
theorem d_L_law_209 : decode mL_law.1 209 = .ok (.aload_n 2, 1) ∧ 209 + 1 = 210 := ⟨by decide +kernel, rfl⟩
theorem d_L_law_210 : decode mL_law.1 210 = .ok (.aload_n 0, 1) ∧ 210 + 1 = 211 := ⟨by decide +kernel, rfl⟩
theorem d_L_law_211 : decode mL_law.1 211 = .ok (.iload_n 3, 1) ∧ 211 + 1 = 212 := ⟨by decide +kernel, rfl⟩
theorem d_L_law_212 : decode mL_law.1 212 = .ok (.iconst 1, 1) ∧ 212 + 1 = 213 := ⟨by decide +kernel, rfl⟩
theorem d_L_law_213 : decode mL_law.1 213 = .ok (.iadd, 1) ∧ 213 + 1 = 214 := ⟨by decide +kernel, rfl⟩
theorem d_L_law_214 : decode mL_law.1 214 = .ok (.iaload, 1) ∧ 214 + 1 = 215 := ⟨by decide +kernel, rfl⟩
theorem d_L_law_215 : decode mL_law.1 215 = .ok (.aload_n 0, 1) ∧ 215 + 1 = 216 := ⟨by decide +kernel, rfl⟩
theorem d_L_law_216 : decode mL_law.1 216 = .ok (.iload_n 3, 1) ∧ 216 + 1 = 217 := ⟨by decide +kernel, rfl⟩
theorem d_L_law_217 : decode mL_law.1 217 = .ok (.iconst 2, 1) ∧ 217 + 1 = 218 := ⟨by decide +kernel, rfl⟩
theorem d_L_law_218 : decode mL_law.1 218 = .ok (.iadd, 1) ∧ 218 + 1 = 219 := ⟨by decide +kernel, rfl⟩
theorem d_L_law_219 : decode mL_law.1 219 = .ok (.iaload, 1) ∧ 219 + 1 = 220 := ⟨by decide +kernel, rfl⟩
theorem d_L_law_220 : decode mL_law.1 220 = .ok (.aload_n 0, 1) ∧ 220 + 1 = 221 := ⟨by decide +kernel, rfl⟩
theorem d_L_law_221 : decode mL_law.1 221 = .ok (.iload_n 3, 1) ∧ 221 + 1 = 222 := ⟨by decide +kernel, rfl⟩
theorem d_L_law_222 : decode mL_law.1 222 = .ok (.iconst 3, 1) ∧ 222 + 1 = 223 := ⟨by decide +kernel, rfl⟩
theorem d_L_law_223 : decode mL_law.1 223 = .ok (.iadd, 1) ∧ 223 + 1 = 224 := ⟨by decide +kernel, rfl⟩
theorem d_L_law_224 : decode mL_law.1 224 = .ok (.iaload, 1) ∧ 224 + 1 = 225 := ⟨by decide +kernel, rfl⟩
theorem d_L_law_225 : decode mL_law.1 225 = .ok (.aload_n 0, 1) ∧ 225 + 1 = 226 := ⟨by decide +kernel, rfl⟩
theorem d_L_law_226 : decode mL_law.1 226 = .ok (.iload_n 3, 1) ∧ 226 + 1 = 227 := ⟨by decide +kernel, rfl⟩
theorem d_L_law_227 : decode mL_law.1 227 = .ok (.iconst 4, 1) ∧ 227 + 1 = 228 := ⟨by decide +kernel, rfl⟩
theorem d_L_law_228 : decode mL_law.1 228 = .ok (.iadd, 1) ∧ 228 + 1 = 229 := ⟨by decide +kernel, rfl⟩
theorem d_L_law_229 : decode mL_law.1 229 = .ok (.iaload, 1) ∧ 229 + 1 = 230 := ⟨by decide +kernel, rfl⟩
theorem d_L_law_230 : decode mL_law.1 230 = .ok (.aload_n 0, 1) ∧ 230 + 1 = 231 := ⟨by decide +kernel, rfl⟩
theorem d_L_law_231 : decode mL_law.1 231 = .ok (.iload_n 3, 1) ∧ 231 + 1 = 232 := ⟨by decide +kernel, rfl⟩
theorem d_L_law_232 : decode mL_law.1 232 = .ok (.iconst 5, 1) ∧ 232 + 1 = 233 := ⟨by decide +kernel, rfl⟩
theorem d_L_law_233 : decode mL_law.1 233 = .ok (.iadd, 1) ∧ 233 + 1 = 234 := ⟨by decide +kernel, rfl⟩
theorem d_L_law_234 : decode mL_law.1 234 = .ok (.iaload, 1) ∧ 234 + 1 = 235 := ⟨by decide +kernel, rfl⟩
theorem d_L_law_235 : decode mL_law.1 235 = .ok (.invokevirtual 17, 3) ∧ 235 + 3 = 238 := ⟨by decide +kernel, rfl⟩
theorem d_L_law_238 : decode mL_law.1 238 = .ok (.if_icmp .eq 762, 3) ∧ 238 + 3 = 241 ∧ ((238 : Nat) : Int) + 762 = ((1000 : Nat) : Int) := ⟨by decide +kernel, rfl, rfl⟩
theorem d_L_law_1000 : decode mL_law.1 1000 = .ok (.iinc 3 6, 3) ∧ 1000 + 3 = 1003 := ⟨by decide +kernel, rfl⟩
theorem d_L_law_1003 : decode mL_law.1 1003 = .ok (.goto (-985), 3) ∧ ((1003 : Nat) : Int) + (-985) = ((18 : Nat) : Int) := ⟨by decide +kernel, rfl⟩
theorem d_L_law_241 : decode mL_law.1 241 = .ok (.iconst 0, 1) ∧ 241 + 1 = 242 := ⟨by decide +kernel, rfl⟩
theorem d_L_law_242 : decode mL_law.1 242 = .ok (.ireturn, 1) := by decide +kernel
theorem d_L_law_243 : decode mL_law.1 243 = .ok (.aload_n 1, 1) ∧ 243 + 1 = 244 := ⟨by decide +kernel, rfl⟩
theorem d_L_law_244 : decode mL_law.1 244 = .ok (.aload_n 0, 1) ∧ 244 + 1 = 245 := ⟨by decide +kernel, rfl⟩
theorem d_L_law_245 : decode mL_law.1 245 = .ok (.iload_n 3, 1) ∧ 245 + 1 = 246 := ⟨by decide +kernel, rfl⟩
theorem d_L_law_246 : decode mL_law.1 246 = .ok (.iconst 1, 1) ∧ 246 + 1 = 247 := ⟨by decide +kernel, rfl⟩
theorem d_L_law_247 : decode mL_law.1 247 = .ok (.iadd, 1) ∧ 247 + 1 = 248 := ⟨by decide +kernel, rfl⟩
theorem d_L_law_248 : decode mL_law.1 248 = .ok (.iaload, 1) ∧ 248 + 1 = 249 := ⟨by decide +kernel, rfl⟩
theorem d_L_law_249 : decode mL_law.1 249 = .ok (.invokevirtual 18, 3) ∧ 249 + 3 = 252 := ⟨by decide +kernel, rfl⟩
theorem d_L_law_252 : decode mL_law.1 252 = .ok (.aload_n 2, 1) ∧ 252 + 1 = 253 := ⟨by decide +kernel, rfl⟩
theorem d_L_law_253 : decode mL_law.1 253 = .ok (.aload_n 0, 1) ∧ 253 + 1 = 254 := ⟨by decide +kernel, rfl⟩
theorem d_L_law_254 : decode mL_law.1 254 = .ok (.iload_n 3, 1) ∧ 254 + 1 = 255 := ⟨by decide +kernel, rfl⟩
theorem d_L_law_255 : decode mL_law.1 255 = .ok (.iconst 1, 1) ∧ 255 + 1 = 256 := ⟨by decide +kernel, rfl⟩
theorem d_L_law_256 : decode mL_law.1 256 = .ok (.iadd, 1) ∧ 256 + 1 = 257 := ⟨by decide +kernel, rfl⟩
theorem d_L_law_257 : decode mL_law.1 257 = .ok (.iaload, 1) ∧ 257 + 1 = 258 := ⟨by decide +kernel, rfl⟩
theorem d_L_law_258 : decode mL_law.1 258 = .ok (.invokevirtual 22, 3) ∧ 258 + 3 = 261 := ⟨by decide +kernel, rfl⟩
theorem d_L_law_261 : decode mL_law.1 261 = .ok (.if_icmp .eq 739, 3) ∧ 261 + 3 = 264 ∧ ((261 : Nat) : Int) + 739 = ((1000 : Nat) : Int) := ⟨by decide +kernel, rfl, rfl⟩
theorem d_L_law_264 : decode mL_law.1 264 = .ok (.iconst 0, 1) ∧ 264 + 1 = 265 := ⟨by decide +kernel, rfl⟩
theorem d_L_law_265 : decode mL_law.1 265 = .ok (.ireturn, 1) := by decide +kernel
theorem d_L_law_266 : decode mL_law.1 266 = .ok (.aload_n 1, 1) ∧ 266 + 1 = 267 := ⟨by decide +kernel, rfl⟩
theorem d_L_law_267 : decode mL_law.1 267 = .ok (.invokevirtual 23, 3) ∧ 267 + 3 = 270 := ⟨by decide +kernel, rfl⟩
theorem d_L_law_270 : decode mL_law.1 270 = .ok (.aload_n 2, 1) ∧ 270 + 1 = 271 := ⟨by decide +kernel, rfl⟩
theorem d_L_law_271 : decode mL_law.1 271 = .ok (.invokevirtual 27, 3) ∧ 271 + 3 = 274 := ⟨by decide +kernel, rfl⟩
theorem d_L_law_274 : decode mL_law.1 274 = .ok (.if_icmp .eq 726, 3) ∧ 274 + 3 = 277 ∧ ((274 : Nat) : Int) + 726 = ((1000 : Nat) : Int) := ⟨by decide +kernel, rfl, rfl⟩
theorem d_L_law_277 : decode mL_law.1 277 = .ok (.iconst 0, 1) ∧ 277 + 1 = 278 := ⟨by decide +kernel, rfl⟩
theorem d_L_law_278 : decode mL_law.1 278 = .ok (.ireturn, 1) := by decide +kernel
theorem d_L_law_279 : decode mL_law.1 279 = .ok (.aload_n 1, 1) ∧ 279 + 1 = 280 := ⟨by decide +kernel, rfl⟩
theorem d_L_law_280 : decode mL_law.1 280 = .ok (.aload_n 0, 1) ∧ 280 + 1 = 281 := ⟨by decide +kernel, rfl⟩
theorem d_L_law_281 : decode mL_law.1 281 = .ok (.iload_n 3, 1) ∧ 281 + 1 = 282 := ⟨by decide +kernel, rfl⟩
theorem d_L_law_282 : decode mL_law.1 282 = .ok (.iconst 1, 1) ∧ 282 + 1 = 283 := ⟨by decide +kernel, rfl⟩
theorem d_L_law_283 : decode mL_law.1 283 = .ok (.iadd, 1) ∧ 283 + 1 = 284 := ⟨by decide +kernel, rfl⟩
theorem d_L_law_284 : decode mL_law.1 284 = .ok (.iaload, 1) ∧ 284 + 1 = 285 := ⟨by decide +kernel, rfl⟩
theorem d_L_law_285 : decode mL_law.1 285 = .ok (.invokevirtual 28, 3) ∧ 285 + 3 = 288 := ⟨by decide +kernel, rfl⟩
theorem d_L_law_288 : decode mL_law.1 288 = .ok (.aload_n 2, 1) ∧ 288 + 1 = 289 := ⟨by decide +kernel, rfl⟩
theorem d_L_law_289 : decode mL_law.1 289 = .ok (.aload_n 0, 1) ∧ 289 + 1 = 290 := ⟨by decide +kernel, rfl⟩
theorem d_L_law_290 : decode mL_law.1 290 = .ok (.iload_n 3, 1) ∧ 290 + 1 = 291 := ⟨by decide +kernel, rfl⟩
theorem d_L_law_291 : decode mL_law.1 291 = .ok (.iconst 1, 1) ∧ 291 + 1 = 292 := ⟨by decide +kernel, rfl⟩
theorem d_L_law_292 : decode mL_law.1 292 = .ok (.iadd, 1) ∧ 292 + 1 = 293 := ⟨by decide +kernel, rfl⟩
theorem d_L_law_293 : decode mL_law.1 293 = .ok (.iaload, 1) ∧ 293 + 1 = 294 := ⟨by decide +kernel, rfl⟩
theorem d_L_law_294 : decode mL_law.1 294 = .ok (.invokevirtual 32, 3) ∧ 294 + 3 = 297 := ⟨by decide +kernel, rfl⟩
theorem d_L_law_297 : decode mL_law.1 297 = .ok (.if_icmp .eq 703, 3) ∧ 297 + 3 = 300 ∧ ((297 : Nat) : Int) + 703 = ((1000 : Nat) : Int) := ⟨by decide +kernel, rfl, rfl⟩
theorem d_L_law_300 : decode mL_law.1 300 = .ok (.iconst 0, 1) ∧ 300 + 1 = 301 := ⟨by decide +kernel, rfl⟩
theorem d_L_law_301 : decode mL_law.1 301 = .ok (.ireturn, 1) := by decide +kernel
theorem d_L_law_302 : decode mL_law.1 302 = .ok (.aload_n 1, 1) ∧ 302 + 1 = 303 := ⟨by decide +kernel, rfl⟩
theorem d_L_law_303 : decode mL_law.1 303 = .ok (.aload_n 0, 1) ∧ 303 + 1 = 304 := ⟨by decide +kernel, rfl⟩
theorem d_L_law_304 : decode mL_law.1 304 = .ok (.iload_n 3, 1) ∧ 304 + 1 = 305 := ⟨by decide +kernel, rfl⟩
theorem d_L_law_305 : decode mL_law.1 305 = .ok (.iconst 1, 1) ∧ 305 + 1 = 306 := ⟨by decide +kernel, rfl⟩
theorem d_L_law_306 : decode mL_law.1 306 = .ok (.iadd, 1) ∧ 306 + 1 = 307 := ⟨by decide +kernel, rfl⟩
theorem d_L_law_307 : decode mL_law.1 307 = .ok (.iaload, 1) ∧ 307 + 1 = 308 := ⟨by decide +kernel, rfl⟩
theorem d_L_law_308 : decode mL_law.1 308 = .ok (.invokevirtual 33, 3) ∧ 308 + 3 = 311 := ⟨by decide +kernel, rfl⟩
theorem d_L_law_311 : decode mL_law.1 311 = .ok (.aload_n 2, 1) ∧ 311 + 1 = 312 := ⟨by decide +kernel, rfl⟩
theorem d_L_law_312 : decode mL_law.1 312 = .ok (.aload_n 0, 1) ∧ 312 + 1 = 313 := ⟨by decide +kernel, rfl⟩
theorem d_L_law_313 : decode mL_law.1 313 = .ok (.iload_n 3, 1) ∧ 313 + 1 = 314 := ⟨by decide +kernel, rfl⟩
theorem d_L_law_314 : decode mL_law.1 314 = .ok (.iconst 1, 1) ∧ 314 + 1 = 315 := ⟨by decide +kernel, rfl⟩
theorem d_L_law_315 : decode mL_law.1 315 = .ok (.iadd, 1) ∧ 315 + 1 = 316 := ⟨by decide +kernel, rfl⟩
theorem d_L_law_316 : decode mL_law.1 316 = .ok (.iaload, 1) ∧ 316 + 1 = 317 := ⟨by decide +kernel, rfl⟩
theorem d_L_law_317 : decode mL_law.1 317 = .ok (.invokevirtual 36, 3) ∧ 317 + 3 = 320 := ⟨by decide +kernel, rfl⟩
theorem d_L_law_320 : decode mL_law.1 320 = .ok (.if_icmp .eq 680, 3) ∧ 320 + 3 = 323 ∧ ((320 : Nat) : Int) + 680 = ((1000 : Nat) : Int) := ⟨by decide +kernel, rfl, rfl⟩
theorem d_L_law_323 : decode mL_law.1 323 = .ok (.iconst 0, 1) ∧ 323 + 1 = 324 := ⟨by decide +kernel, rfl⟩
theorem d_L_law_324 : decode mL_law.1 324 = .ok (.ireturn, 1) := by decide +kernel
theorem d_L_law_325 : decode mL_law.1 325 = .ok (.aload_n 1, 1) ∧ 325 + 1 = 326 := ⟨by decide +kernel, rfl⟩
theorem d_L_law_326 : decode mL_law.1 326 = .ok (.aload_n 0, 1) ∧ 326 + 1 = 327 := ⟨by decide +kernel, rfl⟩
theorem d_L_law_327 : decode mL_law.1 327 = .ok (.iload_n 3, 1) ∧ 327 + 1 = 328 := ⟨by decide +kernel, rfl⟩
theorem d_L_law_328 : decode mL_law.1 328 = .ok (.iconst 1, 1) ∧ 328 + 1 = 329 := ⟨by decide +kernel, rfl⟩
theorem d_L_law_329 : decode mL_law.1 329 = .ok (.iadd, 1) ∧ 329 + 1 = 330 := ⟨by decide +kernel, rfl⟩
theorem d_L_law_330 : decode mL_law.1 330 = .ok (.iaload, 1) ∧ 330 + 1 = 331 := ⟨by decide +kernel, rfl⟩
theorem d_L_law_331 : decode mL_law.1 331 = .ok (.aload_n 0, 1) ∧ 331 + 1 = 332 := ⟨by decide +kernel, rfl⟩
theorem d_L_law_332 : decode mL_law.1 332 = .ok (.iload_n 3, 1) ∧ 332 + 1 = 333 := ⟨by decide +kernel, rfl⟩
theorem d_L_law_333 : decode mL_law.1 333 = .ok (.iconst 2, 1) ∧ 333 + 1 = 334 := ⟨by decide +kernel, rfl⟩
theorem d_L_law_334 : decode mL_law.1 334 = .ok (.iadd, 1) ∧ 334 + 1 = 335 := ⟨by decide +kernel, rfl⟩
theorem d_L_law_335 : decode mL_law.1 335 = .ok (.iaload, 1) ∧ 335 + 1 = 336 := ⟨by decide +kernel, rfl⟩
theorem d_L_law_336 : decode mL_law.1 336 = .ok (.aload_n 0, 1) ∧ 336 + 1 = 337 := ⟨by decide +kernel, rfl⟩
theorem d_L_law_337 : decode mL_law.1 337 = .ok (.iload_n 3, 1) ∧ 337 + 1 = 338 := ⟨by decide +kernel, rfl⟩
theorem d_L_law_338 : decode mL_law.1 338 = .ok (.iconst 3, 1) ∧ 338 + 1 = 339 := ⟨by decide +kernel, rfl⟩
theorem d_L_law_339 : decode mL_law.1 339 = .ok (.iadd, 1) ∧ 339 + 1 = 340 := ⟨by decide +kernel, rfl⟩
theorem d_L_law_340 : decode mL_law.1 340 = .ok (.iaload, 1) ∧ 340 + 1 = 341 := ⟨by decide +kernel, rfl⟩
theorem d_L_law_341 : decode mL_law.1 341 = .ok (.invokevirtual 37, 3) ∧ 341 + 3 = 344 := ⟨by decide +kernel, rfl⟩
theorem d_L_law_344 : decode mL_law.1 344 = .ok (.aload_n 2, 1) ∧ 344 + 1 = 345 := ⟨by decide +kernel, rfl⟩
theorem d_L_law_345 : decode mL_law.1 345 = .ok (.aload_n 0, 1) ∧ 345 + 1 = 346 := ⟨by decide +kernel, rfl⟩
theorem d_L_law_346 : decode mL_law.1 346 = .ok (.iload_n 3, 1) ∧ 346 + 1 = 347 := ⟨by decide +kernel, rfl⟩
theorem d_L_law_347 : decode mL_law.1 347 = .ok (.iconst 1, 1) ∧ 347 + 1 = 348 := ⟨by decide +kernel, rfl⟩
theorem d_L_law_348 : decode mL_law.1 348 = .ok (.iadd, 1) ∧ 348 + 1 = 349 := ⟨by decide +kernel, rfl⟩
theorem d_L_law_349 : decode mL_law.1 349 = .ok (.iaload, 1) ∧ 349 + 1 = 350 := ⟨by decide +kernel, rfl⟩
theorem d_L_law_350 : decode mL_law.1 350 = .ok (.aload_n 0, 1) ∧ 350 + 1 = 351 := ⟨by decide +kernel, rfl⟩
theorem d_L_law_351 : decode mL_law.1 351 = .ok (.iload_n 3, 1) ∧ 351 + 1 = 352 := ⟨by decide +kernel, rfl⟩
theorem d_L_law_352 : decode mL_law.1 352 = .ok (.iconst 2, 1) ∧ 352 + 1 = 353 := ⟨by decide +kernel, rfl⟩
theorem d_L_law_353 : decode mL_law.1 353 = .ok (.iadd, 1) ∧ 353 + 1 = 354 := ⟨by decide +kernel, rfl⟩
theorem d_L_law_354 : decode mL_law.1 354 = .ok (.iaload, 1) ∧ 354 + 1 = 355 := ⟨by decide +kernel, rfl⟩
theorem d_L_law_355 : decode mL_law.1 355 = .ok (.aload_n 0, 1) ∧ 355 + 1 = 356 := ⟨by decide +kernel, rfl⟩
theorem d_L_law_356 : decode mL_law.1 356 = .ok (.iload_n 3, 1) ∧ 356 + 1 = 357 := ⟨by decide +kernel, rfl⟩
theorem d_L_law_357 : decode mL_law.1 357 = .ok (.iconst 3, 1) ∧ 357 + 1 = 358 := ⟨by decide +kernel, rfl⟩
theorem d_L_law_358 : decode mL_law.1 358 = .ok (.iadd, 1) ∧ 358 + 1 = 359 := ⟨by decide +kernel, rfl⟩
theorem d_L_law_359 : decode mL_law.1 359 = .ok (.iaload, 1) ∧ 359 + 1 = 360 := ⟨by decide +kernel, rfl⟩
theorem d_L_law_360 : decode mL_law.1 360 = .ok (.invokevirtual 41, 3) ∧ 360 + 3 = 363 := ⟨by decide +kernel, rfl⟩
theorem d_L_law_363 : decode mL_law.1 363 = .ok (.if_icmp .eq 637, 3) ∧ 363 + 3 = 366 ∧ ((363 : Nat) : Int) + 637 = ((1000 : Nat) : Int) := ⟨by decide +kernel, rfl, rfl⟩
theorem d_L_law_366 : decode mL_law.1 366 = .ok (.iconst 0, 1) ∧ 366 + 1 = 367 := ⟨by decide +kernel, rfl⟩
theorem d_L_law_367 : decode mL_law.1 367 = .ok (.ireturn, 1) := by decide +kernel
theorem d_L_law_368 : decode mL_law.1 368 = .ok (.aload_n 1, 1) ∧ 368 + 1 = 369 := ⟨by decide +kernel, rfl⟩
theorem d_L_law_369 : decode mL_law.1 369 = .ok (.aload_n 0, 1) ∧ 369 + 1 = 370 := ⟨by decide +kernel, rfl⟩
theorem d_L_law_370 : decode mL_law.1 370 = .ok (.iload_n 3, 1) ∧ 370 + 1 = 371 := ⟨by decide +kernel, rfl⟩
theorem d_L_law_371 : decode mL_law.1 371 = .ok (.iconst 1, 1) ∧ 371 + 1 = 372 := ⟨by decide +kernel, rfl⟩
theorem d_L_law_372 : decode mL_law.1 372 = .ok (.iadd, 1) ∧ 372 + 1 = 373 := ⟨by decide +kernel, rfl⟩
theorem d_L_law_373 : decode mL_law.1 373 = .ok (.iaload, 1) ∧ 373 + 1 = 374 := ⟨by decide +kernel, rfl⟩
theorem d_L_law_374 : decode mL_law.1 374 = .ok (.aload_n 0, 1) ∧ 374 + 1 = 375 := ⟨by decide +kernel, rfl⟩
theorem d_L_law_375 : decode mL_law.1 375 = .ok (.iload_n 3, 1) ∧ 375 + 1 = 376 := ⟨by decide +kernel, rfl⟩
theorem d_L_law_376 : decode mL_law.1 376 = .ok (.iconst 2, 1) ∧ 376 + 1 = 377 := ⟨by decide +kernel, rfl⟩
theorem d_L_law_377 : decode mL_law.1 377 = .ok (.iadd, 1) ∧ 377 + 1 = 378 := ⟨by decide +kernel, rfl⟩
theorem d_L_law_378 : decode mL_law.1 378 = .ok (.iaload, 1) ∧ 378 + 1 = 379 := ⟨by decide +kernel, rfl⟩
theorem d_L_law_379 : decode mL_law.1 379 = .ok (.invokevirtual 42, 3) ∧ 379 + 3 = 382 := ⟨by decide +kernel, rfl⟩
theorem d_L_law_382 : decode mL_law.1 382 = .ok (.aload_n 2, 1) ∧ 382 + 1 = 383 := ⟨by decide +kernel, rfl⟩
theorem d_L_law_383 : decode mL_law.1 383 = .ok (.aload_n 0, 1) ∧ 383 + 1 = 384 := ⟨by decide +kernel, rfl⟩
theorem d_L_law_384 : decode mL_law.1 384 = .ok (.iload_n 3, 1) ∧ 384 + 1 = 385 := ⟨by decide +kernel, rfl⟩
theorem d_L_law_385 : decode mL_law.1 385 = .ok (.iconst 1, 1) ∧ 385 + 1 = 386 := ⟨by decide +kernel, rfl⟩
theorem d_L_law_386 : decode mL_law.1 386 = .ok (.iadd, 1) ∧ 386 + 1 = 387 := ⟨by decide +kernel, rfl⟩
theorem d_L_law_387 : decode mL_law.1 387 = .ok (.iaload, 1) ∧ 387 + 1 = 388 := ⟨by decide +kernel, rfl⟩
theorem d_L_law_388 : decode mL_law.1 388 = .ok (.aload_n 0, 1) ∧ 388 + 1 = 389 := ⟨by decide +kernel, rfl⟩
theorem d_L_law_389 : decode mL_law.1 389 = .ok (.iload_n 3, 1) ∧ 389 + 1 = 390 := ⟨by decide +kernel, rfl⟩
theorem d_L_law_390 : decode mL_law.1 390 = .ok (.iconst 2, 1) ∧ 390 + 1 = 391 := ⟨by decide +kernel, rfl⟩
theorem d_L_law_391 : decode mL_law.1 391 = .ok (.iadd, 1) ∧ 391 + 1 = 392 := ⟨by decide +kernel, rfl⟩
theorem d_L_law_392 : decode mL_law.1 392 = .ok (.iaload, 1) ∧ 392 + 1 = 393 := ⟨by decide +kernel, rfl⟩
theorem d_L_law_393 : decode mL_law.1 393 = .ok (.invokevirtual 46, 3) ∧ 393 + 3 = 396 := ⟨by decide +kernel, rfl⟩
theorem d_L_law_396 : decode mL_law.1 396 = .ok (.if_icmp .eq 604, 3) ∧ 396 + 3 = 399 ∧ ((396 : Nat) : Int) + 604 = ((1000 : Nat) : Int) := ⟨by decide +kernel, rfl, rfl⟩
theorem d_L_law_399 : decode mL_law.1 399 = .ok (.iconst 0, 1) ∧ 399 + 1 = 400 := ⟨by decide +kernel, rfl⟩
theorem d_L_law_400 : decode mL_law.1 400 = .ok (.ireturn, 1) := by decide +kernel
theorem d_L_law_401 : decode mL_law.1 401 = .ok (.aload_n 1, 1) ∧ 401 + 1 = 402 := ⟨by decide +kernel, rfl⟩
theorem d_L_law_402 : decode mL_law.1 402 = .ok (.aload_n 0, 1) ∧ 402 + 1 = 403 := ⟨by decide +kernel, rfl⟩
theorem d_L_law_403 : decode mL_law.1 403 = .ok (.iload_n 3, 1) ∧ 403 + 1 = 404 := ⟨by decide +kernel, rfl⟩
theorem d_L_law_404 : decode mL_law.1 404 = .ok (.iconst 1, 1) ∧ 404 + 1 = 405 := ⟨by decide +kernel, rfl⟩
theorem d_L_law_405 : decode mL_law.1 405 = .ok (.iadd, 1) ∧ 405 + 1 = 406 := ⟨by decide +kernel, rfl⟩
theorem d_L_law_406 : decode mL_law.1 406 = .ok (.iaload, 1) ∧ 406 + 1 = 407 := ⟨by decide +kernel, rfl⟩
theorem d_L_law_407 : decode mL_law.1 407 = .ok (.aload_n 0, 1) ∧ 407 + 1 = 408 := ⟨by decide +kernel, rfl⟩
theorem d_L_law_408 : decode mL_law.1 408 = .ok (.iload_n 3, 1) ∧ 408 + 1 = 409 := ⟨by decide +kernel, rfl⟩
theorem d_L_law_409 : decode mL_law.1 409 = .ok (.iconst 2, 1) ∧ 409 + 1 = 410 := ⟨by decide +kernel, rfl⟩
theorem d_L_law_410 : decode mL_law.1 410 = .ok (.iadd, 1) ∧ 410 + 1 = 411 := ⟨by decide +kernel, rfl⟩
theorem d_L_law_411 : decode mL_law.1 411 = .ok (.iaload, 1) ∧ 411 + 1 = 412 := ⟨by decide +kernel, rfl⟩
theorem d_L_law_412 : decode mL_law.1 412 = .ok (.invokevirtual 47, 3) ∧ 412 + 3 = 415 := ⟨by decide +kernel, rfl⟩
theorem d_L_law_415 : decode mL_law.1 415 = .ok (.aload_n 2, 1) ∧ 415 + 1 = 416 := ⟨by decide +kernel, rfl⟩
theorem d_L_law_416 : decode mL_law.1 416 = .ok (.aload_n 0, 1) ∧ 416 + 1 = 417 := ⟨by decide +kernel, rfl⟩
theorem d_L_law_417 : decode mL_law.1 417 = .ok (.iload_n 3, 1) ∧ 417 + 1 = 418 := ⟨by decide +kernel, rfl⟩
theorem d_L_law_418 : decode mL_law.1 418 = .ok (.iconst 1, 1) ∧ 418 + 1 = 419 := ⟨by decide +kernel, rfl⟩
theorem d_L_law_419 : decode mL_law.1 419 = .ok (.iadd, 1) ∧ 419 + 1 = 420 := ⟨by decide +kernel, rfl⟩
theorem d_L_law_420 : decode mL_law.1 420 = .ok (.iaload, 1) ∧ 420 + 1 = 421 := ⟨by decide +kernel, rfl⟩
theorem d_L_law_421 : decode mL_law.1 421 = .ok (.aload_n 0, 1) ∧ 421 + 1 = 422 := ⟨by decide +kernel, rfl⟩
theorem d_L_law_422 : decode mL_law.1 422 = .ok (.iload_n 3, 1) ∧ 422 + 1 = 423 := ⟨by decide +kernel, rfl⟩
theorem d_L_law_423 : decode mL_law.1 423 = .ok (.iconst 2, 1) ∧ 423 + 1 = 424 := ⟨by decide +kernel, rfl⟩
theorem d_L_law_424 : decode mL_law.1 424 = .ok (.iadd, 1) ∧ 424 + 1 = 425 := ⟨by decide +kernel, rfl⟩
theorem d_L_law_425 : decode mL_law.1 425 = .ok (.iaload, 1) ∧ 425 + 1 = 426 := ⟨by decide +kernel, rfl⟩
theorem d_L_law_426 : decode mL_law.1 426 = .ok (.invokevirtual 50, 3) ∧ 426 + 3 = 429 := ⟨by decide +kernel, rfl⟩
theorem d_L_law_429 : decode mL_law.1 429 = .ok (.if_icmp .eq 571, 3) ∧ 429 + 3 = 432 ∧ ((429 : Nat) : Int) + 571 = ((1000 : Nat) : Int) := ⟨by decide +kernel, rfl, rfl⟩
theorem d_L_law_432 : decode mL_law.1 432 = .ok (.iconst 0, 1) ∧ 432 + 1 = 433 := ⟨by decide +kernel, rfl⟩
theorem d_L_law_433 : decode mL_law.1 433 = .ok (.ireturn, 1) := by decide +kernel
theorem d_L_law_434 : decode mL_law.1 434 = .ok (.aload_n 1, 1) ∧ 434 + 1 = 435 := ⟨by decide +kernel, rfl⟩
theorem d_L_law_435 : decode mL_law.1 435 = .ok (.aload_n 0, 1) ∧ 435 + 1 = 436 := ⟨by decide +kernel, rfl⟩
theorem d_L_law_436 : decode mL_law.1 436 = .ok (.iload_n 3, 1) ∧ 436 + 1 = 437 := ⟨by decide +kernel, rfl⟩
theorem d_L_law_437 : decode mL_law.1 437 = .ok (.iconst 1, 1) ∧ 437 + 1 = 438 := ⟨by decide +kernel, rfl⟩
theorem d_L_law_438 : decode mL_law.1 438 = .ok (.iadd, 1) ∧ 438 + 1 = 439 := ⟨by decide +kernel, rfl⟩
theorem d_L_law_439 : decode mL_law.1 439 = .ok (.iaload, 1) ∧ 439 + 1 = 440 := ⟨by decide +kernel, rfl⟩
theorem d_L_law_440 : decode mL_law.1 440 = .ok (.aload_n 0, 1) ∧ 440 + 1 = 441 := ⟨by decide +kernel, rfl⟩
theorem d_L_law_441 : decode mL_law.1 441 = .ok (.iload_n 3, 1) ∧ 441 + 1 = 442 := ⟨by decide +kernel, rfl⟩
theorem d_L_law_442 : decode mL_law.1 442 = .ok (.iconst 2, 1) ∧ 442 + 1 = 443 := ⟨by decide +kernel, rfl⟩
theorem d_L_law_443 : decode mL_law.1 443 = .ok (.iadd, 1) ∧ 443 + 1 = 444 := ⟨by decide +kernel, rfl⟩
theorem d_L_law_444 : decode mL_law.1 444 = .ok (.iaload, 1) ∧ 444 + 1 = 445 := ⟨by decide +kernel, rfl⟩
theorem d_L_law_445 : decode mL_law.1 445 = .ok (.invokevirtual 51, 3) ∧ 445 + 3 = 448 := ⟨by decide +kernel, rfl⟩
theorem d_L_law_448 : decode mL_law.1 448 = .ok (.aload_n 2, 1) ∧ 448 + 1 = 449 := ⟨by decide +kernel, rfl⟩
theorem d_L_law_449 : decode mL_law.1 449 = .ok (.aload_n 0, 1) ∧ 449 + 1 = 450 := ⟨by decide +kernel, rfl⟩
theorem d_L_law_450 : decode mL_law.1 450 = .ok (.iload_n 3, 1) ∧ 450 + 1 = 451 := ⟨by decide +kernel, rfl⟩
theorem d_L_law_451 : decode mL_law.1 451 = .ok (.iconst 1, 1) ∧ 451 + 1 = 452 := ⟨by decide +kernel, rfl⟩
theorem d_L_law_452 : decode mL_law.1 452 = .ok (.iadd, 1) ∧ 452 + 1 = 453 := ⟨by decide +kernel, rfl⟩
theorem d_L_law_453 : decode mL_law.1 453 = .ok (.iaload, 1) ∧ 453 + 1 = 454 := ⟨by decide +kernel, rfl⟩
theorem d_L_law_454 : decode mL_law.1 454 = .ok (.aload_n 0, 1) ∧ 454 + 1 = 455 := ⟨by decide +kernel, rfl⟩
theorem d_L_law_455 : decode mL_law.1 455 = .ok (.iload_n 3, 1) ∧ 455 + 1 = 456 := ⟨by decide +kernel, rfl⟩
theorem d_L_law_456 : decode mL_law.1 456 = .ok (.iconst 2, 1) ∧ 456 + 1 = 457 := ⟨by decide +kernel, rfl⟩
theorem d_L_law_457 : decode mL_law.1 457 = .ok (.iadd, 1) ∧ 457 + 1 = 458 := ⟨by decide +kernel, rfl⟩
theorem d_L_law_458 : decode mL_law.1 458 = .ok (.iaload, 1) ∧ 458 + 1 = 459 := ⟨by decide +kernel, rfl⟩
theorem d_L_law_459 : decode mL_law.1 459 = .ok (.invokevirtual 54, 3) ∧ 459 + 3 = 462 := ⟨by decide +kernel, rfl⟩
theorem d_L_law_462 : decode mL_law.1 462 = .ok (.if_icmp .eq 538, 3) ∧ 462 + 3 = 465 ∧ ((462 : Nat) : Int) + 538 = ((1000 : Nat) : Int) := ⟨by decide +kernel, rfl, rfl⟩
theorem d_L_law_465 : decode mL_law.1 465 = .ok (.iconst 0, 1) ∧ 465 + 1 = 466 := ⟨by decide +kernel, rfl⟩
theorem d_L_law_466 : decode mL_law.1 466 = .ok (.ireturn, 1) := by decide +kernel
theorem d_L_law_467 : decode mL_law.1 467 = .ok (.aload_n 1, 1) ∧ 467 + 1 = 468 := ⟨by decide +kernel, rfl⟩
theorem d_L_law_468 : decode mL_law.1 468 = .ok (.aload_n 0, 1) ∧ 468 + 1 = 469 := ⟨by decide +kernel, rfl⟩
theorem d_L_law_469 : decode mL_law.1 469 = .ok (.iload_n 3, 1) ∧ 469 + 1 = 470 := ⟨by decide +kernel, rfl⟩
theorem d_L_law_470 : decode mL_law.1 470 = .ok (.iconst 1, 1) ∧ 470 + 1 = 471 := ⟨by decide +kernel, rfl⟩
theorem d_L_law_471 : decode mL_law.1 471 = .ok (.iadd, 1) ∧ 471 + 1 = 472 := ⟨by decide +kernel, rfl⟩
theorem d_L_law_472 : decode mL_law.1 472 = .ok (.iaload, 1) ∧ 472 + 1 = 473 := ⟨by decide +kernel, rfl⟩
theorem d_L_law_473 : decode mL_law.1 473 = .ok (.aload_n 0, 1) ∧ 473 + 1 = 474 := ⟨by decide +kernel, rfl⟩
theorem d_L_law_474 : decode mL_law.1 474 = .ok (.iload_n 3, 1) ∧ 474 + 1 = 475 := ⟨by decide +kernel, rfl⟩
theorem d_L_law_475 : decode mL_law.1 475 = .ok (.iconst 2, 1) ∧ 475 + 1 = 476 := ⟨by decide +kernel, rfl⟩
theorem d_L_law_476 : decode mL_law.1 476 = .ok (.iadd, 1) ∧ 476 + 1 = 477 := ⟨by decide +kernel, rfl⟩
theorem d_L_law_477 : decode mL_law.1 477 = .ok (.iaload, 1) ∧ 477 + 1 = 478 := ⟨by decide +kernel, rfl⟩
theorem d_L_law_478 : decode mL_law.1 478 = .ok (.invokevirtual 55, 3) ∧ 478 + 3 = 481 := ⟨by decide +kernel, rfl⟩
theorem d_L_law_481 : decode mL_law.1 481 = .ok (.aload_n 2, 1) ∧ 481 + 1 = 482 := ⟨by decide +kernel, rfl⟩
theorem d_L_law_482 : decode mL_law.1 482 = .ok (.aload_n 0, 1) ∧ 482 + 1 = 483 := ⟨by decide +kernel, rfl⟩
theorem d_L_law_483 : decode mL_law.1 483 = .ok (.iload_n 3, 1) ∧ 483 + 1 = 484 := ⟨by decide +kernel, rfl⟩
theorem d_L_law_484 : decode mL_law.1 484 = .ok (.iconst 1, 1) ∧ 484 + 1 = 485 := ⟨by decide +kernel, rfl⟩
theorem d_L_law_485 : decode mL_law.1 485 = .ok (.iadd, 1) ∧ 485 + 1 = 486 := ⟨by decide +kernel, rfl⟩
theorem d_L_law_486 : decode mL_law.1 486 = .ok (.iaload, 1) ∧ 486 + 1 = 487 := ⟨by decide +kernel, rfl⟩
theorem d_L_law_487 : decode mL_law.1 487 = .ok (.aload_n 0, 1) ∧ 487 + 1 = 488 := ⟨by decide +kernel, rfl⟩
theorem d_L_law_488 : decode mL_law.1 488 = .ok (.iload_n 3, 1) ∧ 488 + 1 = 489 := ⟨by decide +kernel, rfl⟩
theorem d_L_law_489 : decode mL_law.1 489 = .ok (.iconst 2, 1) ∧ 489 + 1 = 490 := ⟨by decide +kernel, rfl⟩
theorem d_L_law_490 : decode mL_law.1 490 = .ok (.iadd, 1) ∧ 490 + 1 = 491 := ⟨by decide +kernel, rfl⟩
theorem d_L_law_491 : decode mL_law.1 491 = .ok (.iaload, 1) ∧ 491 + 1 = 492 := ⟨by decide +kernel, rfl⟩
theorem d_L_law_492 : decode mL_law.1 492 = .ok (.invokevirtual 58, 3) ∧ 492 + 3 = 495 := ⟨by decide +kernel, rfl⟩
theorem d_L_law_495 : decode mL_law.1 495 = .ok (.if_icmp .eq 505, 3) ∧ 495 + 3 = 498 ∧ ((495 : Nat) : Int) + 505 = ((1000 : Nat) : Int) := ⟨by decide +kernel, rfl, rfl⟩
theorem d_L_law_498 : decode mL_law.1 498 = .ok (.iconst 0, 1) ∧ 498 + 1 = 499 := ⟨by decide +kernel, rfl⟩
theorem d_L_law_499 : decode mL_law.1 499 = .ok (.ireturn, 1) := by decide +kernel
theorem d_L_law_500 : decode mL_law.1 500 = .ok (.aload_n 1, 1) ∧ 500 + 1 = 501 := ⟨by decide +kernel, rfl⟩
theorem d_L_law_501 : decode mL_law.1 501 = .ok (.aload_n 0, 1) ∧ 501 + 1 = 502 := ⟨by decide +kernel, rfl⟩
theorem d_L_law_502 : decode mL_law.1 502 = .ok (.iload_n 3, 1) ∧ 502 + 1 = 503 := ⟨by decide +kernel, rfl⟩
theorem d_L_law_503 : decode mL_law.1 503 = .ok (.iconst 1, 1) ∧ 503 + 1 = 504 := ⟨by decide +kernel, rfl⟩
theorem d_L_law_504 : decode mL_law.1 504 = .ok (.iadd, 1) ∧ 504 + 1 = 505 := ⟨by decide +kernel, rfl⟩
theorem d_L_law_505 : decode mL_law.1 505 = .ok (.iaload, 1) ∧ 505 + 1 = 506 := ⟨by decide +kernel, rfl⟩
theorem d_L_law_506 : decode mL_law.1 506 = .ok (.aload_n 0, 1) ∧ 506 + 1 = 507 := ⟨by decide +kernel, rfl⟩
theorem d_L_law_507 : decode mL_law.1 507 = .ok (.iload_n 3, 1) ∧ 507 + 1 = 508 := ⟨by decide +kernel, rfl⟩
theorem d_L_law_508 : decode mL_law.1 508 = .ok (.iconst 2, 1) ∧ 508 + 1 = 509 := ⟨by decide +kernel, rfl⟩
theorem d_L_law_509 : decode mL_law.1 509 = .ok (.iadd, 1) ∧ 509 + 1 = 510 := ⟨by decide +kernel, rfl⟩
theorem d_L_law_510 : decode mL_law.1 510 = .ok (.iaload, 1) ∧ 510 + 1 = 511 := ⟨by decide +kernel, rfl⟩
theorem d_L_law_511 : decode mL_law.1 511 = .ok (.invokevirtual 59, 3) ∧ 511 + 3 = 514 := ⟨by decide +kernel, rfl⟩
theorem d_L_law_514 : decode mL_law.1 514 = .ok (.aload_n 2, 1) ∧ 514 + 1 = 515 := ⟨by decide +kernel, rfl⟩
theorem d_L_law_515 : decode mL_law.1 515 = .ok (.aload_n 0, 1) ∧ 515 + 1 = 516 := ⟨by decide +kernel, rfl⟩
theorem d_L_law_516 : decode mL_law.1 516 = .ok (.iload_n 3, 1) ∧ 516 + 1 = 517 := ⟨by decide +kernel, rfl⟩
theorem d_L_law_517 : decode mL_law.1 517 = .ok (.iconst 1, 1) ∧ 517 + 1 = 518 := ⟨by decide +kernel, rfl⟩
theorem d_L_law_518 : decode mL_law.1 518 = .ok (.iadd, 1) ∧ 518 + 1 = 519 := ⟨by decide +kernel, rfl⟩
theorem d_L_law_519 : decode mL_law.1 519 = .ok (.iaload, 1) ∧ 519 + 1 = 520 := ⟨by decide +kernel, rfl⟩
theorem d_L_law_520 : decode mL_law.1 520 = .ok (.aload_n 0, 1) ∧ 520 + 1 = 521 := ⟨by decide +kernel, rfl⟩
theorem d_L_law_521 : decode mL_law.1 521 = .ok (.iload_n 3, 1) ∧ 521 + 1 = 522 := ⟨by decide +kernel, rfl⟩
theorem d_L_law_522 : decode mL_law.1 522 = .ok (.iconst 2, 1) ∧ 522 + 1 = 523 := ⟨by decide +kernel, rfl⟩
theorem d_L_law_523 : decode mL_law.1 523 = .ok (.iadd, 1) ∧ 523 + 1 = 524 := ⟨by decide +kernel, rfl⟩
theorem d_L_law_524 : decode mL_law.1 524 = .ok (.iaload, 1) ∧ 524 + 1 = 525 := ⟨by decide +kernel, rfl⟩
theorem d_L_law_525 : decode mL_law.1 525 = .ok (.invokevirtual 62, 3) ∧ 525 + 3 = 528 := ⟨by decide +kernel, rfl⟩
theorem d_L_law_528 : decode mL_law.1 528 = .ok (.if_icmp .eq 472, 3) ∧ 528 + 3 = 531 ∧ ((528 : Nat) : Int) + 472 = ((1000 : Nat) : Int) := ⟨by decide +kernel, rfl, rfl⟩
theorem d_L_law_531 : decode mL_law.1 531 = .ok (.iconst 0, 1) ∧ 531 + 1 = 532 := ⟨by decide +kernel, rfl⟩
theorem d_L_law_532 : decode mL_law.1 532 = .ok (.ireturn, 1) := by decide +kernel
theorem d_L_law_533 : decode mL_law.1 533 = .ok (.aload_n 1, 1) ∧ 533 + 1 = 534 := ⟨by decide +kernel, rfl⟩
theorem d_L_law_534 : decode mL_law.1 534 = .ok (.invokevirtual 63, 3) ∧ 534 + 3 = 537 := ⟨by decide +kernel, rfl⟩
theorem d_L_law_537 : decode mL_law.1 537 = .ok (.aload_n 2, 1) ∧ 537 + 1 = 538 := ⟨by decide +kernel, rfl⟩
theorem d_L_law_538 : decode mL_law.1 538 = .ok (.invokevirtual 66, 3) ∧ 538 + 3 = 541 := ⟨by decide +kernel, rfl⟩
theorem d_L_law_541 : decode mL_law.1 541 = .ok (.if_icmp .eq 459, 3) ∧ 541 + 3 = 544 ∧ ((541 : Nat) : Int) + 459 = ((1000 : Nat) : Int) := ⟨by decide +kernel, rfl, rfl⟩
theorem d_L_law_544 : decode mL_law.1 544 = .ok (.iconst 0, 1) ∧ 544 + 1 = 545 := ⟨by decide +kernel, rfl⟩
theorem d_L_law_545 : decode mL_law.1 545 = .ok (.ireturn, 1) := by decide +kernel
theorem d_L_law_546 : decode mL_law.1 546 = .ok (.aload_n 1, 1) ∧ 546 + 1 = 547 := ⟨by decide +kernel, rfl⟩
theorem d_L_law_547 : decode mL_law.1 547 = .ok (.aload_n 0, 1) ∧ 547 + 1 = 548 := ⟨by decide +kernel, rfl⟩
theorem d_L_law_548 : decode mL_law.1 548 = .ok (.iload_n 3, 1) ∧ 548 + 1 = 549 := ⟨by decide +kernel, rfl⟩
theorem d_L_law_549 : decode mL_law.1 549 = .ok (.iconst 1, 1) ∧ 549 + 1 = 550 := ⟨by decide +kernel, rfl⟩
theorem d_L_law_550 : decode mL_law.1 550 = .ok (.iadd, 1) ∧ 550 + 1 = 551 := ⟨by decide +kernel, rfl⟩
theorem d_L_law_551 : decode mL_law.1 551 = .ok (.iaload, 1) ∧ 551 + 1 = 552 := ⟨by decide +kernel, rfl⟩
theorem d_L_law_552 : decode mL_law.1 552 = .ok (.invokevirtual 67, 3) ∧ 552 + 3 = 555 := ⟨by decide +kernel, rfl⟩
theorem d_L_law_555 : decode mL_law.1 555 = .ok (.aload_n 2, 1) ∧ 555 + 1 = 556 := ⟨by decide +kernel, rfl⟩
theorem d_L_law_556 : decode mL_law.1 556 = .ok (.aload_n 0, 1) ∧ 556 + 1 = 557 := ⟨by decide +kernel, rfl⟩
theorem d_L_law_557 : decode mL_law.1 557 = .ok (.iload_n 3, 1) ∧ 557 + 1 = 558 := ⟨by decide +kernel, rfl⟩
theorem d_L_law_558 : decode mL_law.1 558 = .ok (.iconst 1, 1) ∧ 558 + 1 = 559 := ⟨by decide +kernel, rfl⟩
theorem d_L_law_559 : decode mL_law.1 559 = .ok (.iadd, 1) ∧ 559 + 1 = 560 := ⟨by decide +kernel, rfl⟩
theorem d_L_law_560 : decode mL_law.1 560 = .ok (.iaload, 1) ∧ 560 + 1 = 561 := ⟨by decide +kernel, rfl⟩
theorem d_L_law_561 : decode mL_law.1 561 = .ok (.invokevirtual 70, 3) ∧ 561 + 3 = 564 := ⟨by decide +kernel, rfl⟩
theorem d_L_law_564 : decode mL_law.1 564 = .ok (.if_icmp .eq 436, 3) ∧ 564 + 3 = 567 ∧ ((564 : Nat) : Int) + 436 = ((1000 : Nat) : Int) := ⟨by decide +kernel, rfl, rfl⟩
theorem d_L_law_567 : decode mL_law.1 567 = .ok (.iconst 0, 1) ∧ 567 + 1 = 568 := ⟨by decide +kernel, rfl⟩
theorem d_L_law_568 : decode mL_law.1 568 = .ok (.ireturn, 1) := by decide +kernel
theorem d_L_law_569 : decode mL_law.1 569 = .ok (.aload_n 1, 1) ∧ 569 + 1 = 570 := ⟨by decide +kernel, rfl⟩
theorem d_L_law_570 : decode mL_law.1 570 = .ok (.aload_n 0, 1) ∧ 570 + 1 = 571 := ⟨by decide +kernel, rfl⟩
theorem d_L_law_571 : decode mL_law.1 571 = .ok (.iload_n 3, 1) ∧ 571 + 1 = 572 := ⟨by decide +kernel, rfl⟩
theorem d_L_law_572 : decode mL_law.1 572 = .ok (.iconst 1, 1) ∧ 572 + 1 = 573 := ⟨by decide +kernel, rfl⟩
theorem d_L_law_573 : decode mL_law.1 573 = .ok (.iadd, 1) ∧ 573 + 1 = 574 := ⟨by decide +kernel, rfl⟩
theorem d_L_law_574 : decode mL_law.1 574 = .ok (.iaload, 1) ∧ 574 + 1 = 575 := ⟨by decide +kernel, rfl⟩
theorem d_L_law_575 : decode mL_law.1 575 = .ok (.invokevirtual 71, 3) ∧ 575 + 3 = 578 := ⟨by decide +kernel, rfl⟩
theorem d_L_law_578 : decode mL_law.1 578 = .ok (.aload_n 2, 1) ∧ 578 + 1 = 579 := ⟨by decide +kernel, rfl⟩
theorem d_L_law_579 : decode mL_law.1 579 = .ok (.aload_n 0, 1) ∧ 579 + 1 = 580 := ⟨by decide +kernel, rfl⟩
theorem d_L_law_580 : decode mL_law.1 580 = .ok (.iload_n 3, 1) ∧ 580 + 1 = 581 := ⟨by decide +kernel, rfl⟩
theorem d_L_law_581 : decode mL_law.1 581 = .ok (.iconst 1, 1) ∧ 581 + 1 = 582 := ⟨by decide +kernel, rfl⟩
theorem d_L_law_582 : decode mL_law.1 582 = .ok (.iadd, 1) ∧ 582 + 1 = 583 := ⟨by decide +kernel, rfl⟩
theorem d_L_law_583 : decode mL_law.1 583 = .ok (.iaload, 1) ∧ 583 + 1 = 584 := ⟨by decide +kernel, rfl⟩
theorem d_L_law_584 : decode mL_law.1 584 = .ok (.invokevirtual 74, 3) ∧ 584 + 3 = 587 := ⟨by decide +kernel, rfl⟩
theorem d_L_law_587 : decode mL_law.1 587 = .ok (.if_icmp .eq 413, 3) ∧ 587 + 3 = 590 ∧ ((587 : Nat) : Int) + 413 = ((1000 : Nat) : Int) := ⟨by decide +kernel, rfl, rfl⟩
theorem d_L_law_590 : decode mL_law.1 590 = .ok (.iconst 0, 1) ∧ 590 + 1 = 591 := ⟨by decide +kernel, rfl⟩
theorem d_L_law_591 : decode mL_law.1 591 = .ok (.ireturn, 1) := by decide +kernel
theorem d_L_law_592 : decode mL_law.1 592 = .ok (.aload_n 1, 1) ∧ 592 + 1 = 593 := ⟨by decide +kernel, rfl⟩
theorem d_L_law_593 : decode mL_law.1 593 = .ok (.aload_n 0, 1) ∧ 593 + 1 = 594 := ⟨by decide +kernel, rfl⟩
theorem d_L_law_594 : decode mL_law.1 594 = .ok (.iload_n 3, 1) ∧ 594 + 1 = 595 := ⟨by decide +kernel, rfl⟩
theorem d_L_law_595 : decode mL_law.1 595 = .ok (.iconst 1, 1) ∧ 595 + 1 = 596 := ⟨by decide +kernel, rfl⟩
theorem d_L_law_596 : decode mL_law.1 596 = .ok (.iadd, 1) ∧ 596 + 1 = 597 := ⟨by decide +kernel, rfl⟩
theorem d_L_law_597 : decode mL_law.1 597 = .ok (.iaload, 1) ∧ 597 + 1 = 598 := ⟨by decide +kernel, rfl⟩
theorem d_L_law_598 : decode mL_law.1 598 = .ok (.invokevirtual 75, 3) ∧ 598 + 3 = 601 := ⟨by decide +kernel, rfl⟩
theorem d_L_law_601 : decode mL_law.1 601 = .ok (.aload_n 2, 1) ∧ 601 + 1 = 602 := ⟨by decide +kernel, rfl⟩
theorem d_L_law_602 : decode mL_law.1 602 = .ok (.aload_n 0, 1) ∧ 602 + 1 = 603 := ⟨by decide +kernel, rfl⟩
theorem d_L_law_603 : decode mL_law.1 603 = .ok (.iload_n 3, 1) ∧ 603 + 1 = 604 := ⟨by decide +kernel, rfl⟩
theorem d_L_law_604 : decode mL_law.1 604 = .ok (.iconst 1, 1) ∧ 604 + 1 = 605 := ⟨by decide +kernel, rfl⟩
theorem d_L_law_605 : decode mL_law.1 605 = .ok (.iadd, 1) ∧ 605 + 1 = 606 := ⟨by decide +kernel, rfl⟩
theorem d_L_law_606 : decode mL_law.1 606 = .ok (.iaload, 1) ∧ 606 + 1 = 607 := ⟨by decide +kernel, rfl⟩
theorem d_L_law_607 : decode mL_law.1 607 = .ok (.invokevirtual 78, 3) ∧ 607 + 3 = 610 := ⟨by decide +kernel, rfl⟩
theorem d_L_law_610 : decode mL_law.1 610 = .ok (.if_icmp .eq 390, 3) ∧ 610 + 3 = 613 ∧ ((610 : Nat) : Int) + 390 = ((1000 : Nat) : Int) := ⟨by decide +kernel, rfl, rfl⟩
theorem d_L_law_613 : decode mL_law.1 613 = .ok (.iconst 0, 1) ∧ 613 + 1 = 614 := ⟨by decide +kernel, rfl⟩
theorem d_L_law_614 : decode mL_law.1 614 = .ok (.ireturn, 1) := by decide +kernel
theorem d_L_law_615 : decode mL_law.1 615 = .ok (.aload_n 1, 1) ∧ 615 + 1 = 616 := ⟨by decide +kernel, rfl⟩
theorem d_L_law_616 : decode mL_law.1 616 = .ok (.aload_n 0, 1) ∧ 616 + 1 = 617 := ⟨by decide +kernel, rfl⟩
theorem d_L_law_617 : decode mL_law.1 617 = .ok (.iload_n 3, 1) ∧ 617 + 1 = 618 := ⟨by decide +kernel, rfl⟩
theorem d_L_law_618 : decode mL_law.1 618 = .ok (.iconst 1, 1) ∧ 618 + 1 = 619 := ⟨by decide +kernel, rfl⟩
theorem d_L_law_619 : decode mL_law.1 619 = .ok (.iadd, 1) ∧ 619 + 1 = 620 := ⟨by decide +kernel, rfl⟩
theorem d_L_law_620 : decode mL_law.1 620 = .ok (.iaload, 1) ∧ 620 + 1 = 621 := ⟨by decide +kernel, rfl⟩
theorem d_L_law_621 : decode mL_law.1 621 = .ok (.aload_n 0, 1) ∧ 621 + 1 = 622 := ⟨by decide +kernel, rfl⟩
theorem d_L_law_622 : decode mL_law.1 622 = .ok (.iload_n 3, 1) ∧ 622 + 1 = 623 := ⟨by decide +kernel, rfl⟩
theorem d_L_law_623 : decode mL_law.1 623 = .ok (.iconst 2, 1) ∧ 623 + 1 = 624 := ⟨by decide +kernel, rfl⟩
theorem d_L_law_624 : decode mL_law.1 624 = .ok (.iadd, 1) ∧ 624 + 1 = 625 := ⟨by decide +kernel, rfl⟩
theorem d_L_law_625 : decode mL_law.1 625 = .ok (.iaload, 1) ∧ 625 + 1 = 626 := ⟨by decide +kernel, rfl⟩
theorem d_L_law_626 : decode mL_law.1 626 = .ok (.invokevirtual 79, 3) ∧ 626 + 3 = 629 := ⟨by decide +kernel, rfl⟩
theorem d_L_law_629 : decode mL_law.1 629 = .ok (.aload_n 2, 1) ∧ 629 + 1 = 630 := ⟨by decide +kernel, rfl⟩
theorem d_L_law_630 : decode mL_law.1 630 = .ok (.aload_n 0, 1) ∧ 630 + 1 = 631 := ⟨by decide +kernel, rfl⟩
theorem d_L_law_631 : decode mL_law.1 631 = .ok (.iload_n 3, 1) ∧ 631 + 1 = 632 := ⟨by decide +kernel, rfl⟩
theorem d_L_law_632 : decode mL_law.1 632 = .ok (.iconst 1, 1) ∧ 632 + 1 = 633 := ⟨by decide +kernel, rfl⟩
theorem d_L_law_633 : decode mL_law.1 633 = .ok (.iadd, 1) ∧ 633 + 1 = 634 := ⟨by decide +kernel, rfl⟩
theorem d_L_law_634 : decode mL_law.1 634 = .ok (.iaload, 1) ∧ 634 + 1 = 635 := ⟨by decide +kernel, rfl⟩
theorem d_L_law_635 : decode mL_law.1 635 = .ok (.aload_n 0, 1) ∧ 635 + 1 = 636 := ⟨by decide +kernel, rfl⟩
theorem d_L_law_636 : decode mL_law.1 636 = .ok (.iload_n 3, 1) ∧ 636 + 1 = 637 := ⟨by decide +kernel, rfl⟩
theorem d_L_law_637 : decode mL_law.1 637 = .ok (.iconst 2, 1) ∧ 637 + 1 = 638 := ⟨by decide +kernel, rfl⟩
theorem d_L_law_638 : decode mL_law.1 638 = .ok (.iadd, 1) ∧ 638 + 1 = 639 := ⟨by decide +kernel, rfl⟩
theorem d_L_law_639 : decode mL_law.1 639 = .ok (.iaload, 1) ∧ 639 + 1 = 640 := ⟨by decide +kernel, rfl⟩
theorem d_L_law_640 : decode mL_law.1 640 = .ok (.invokevirtual 82, 3) ∧ 640 + 3 = 643 := ⟨by decide +kernel, rfl⟩
theorem d_L_law_643 : decode mL_law.1 643 = .ok (.if_icmp .eq 357, 3) ∧ 643 + 3 = 646 ∧ ((643 : Nat) : Int) + 357 = ((1000 : Nat) : Int) := ⟨by decide +kernel, rfl, rfl⟩
theorem d_L_law_646 : decode mL_law.1 646 = .ok (.iconst 0, 1) ∧ 646 + 1 = 647 := ⟨by decide +kernel, rfl⟩
theorem d_L_law_647 : decode mL_law.1 647 = .ok (.ireturn, 1) := by decide +kernel
theorem d_L_law_648 : decode mL_law.1 648 = .ok (.aload_n 1, 1) ∧ 648 + 1 = 649 := ⟨by decide +kernel, rfl⟩
theorem d_L_law_649 : decode mL_law.1 649 = .ok (.aload_n 0, 1) ∧ 649 + 1 = 650 := ⟨by decide +kernel, rfl⟩
theorem d_L_law_650 : decode mL_law.1 650 = .ok (.iload_n 3, 1) ∧ 650 + 1 = 651 := ⟨by decide +kernel, rfl⟩
theorem d_L_law_651 : decode mL_law.1 651 = .ok (.iconst 1, 1) ∧ 651 + 1 = 652 := ⟨by decide +kernel, rfl⟩
theorem d_L_law_652 : decode mL_law.1 652 = .ok (.iadd, 1) ∧ 652 + 1 = 653 := ⟨by decide +kernel, rfl⟩
theorem d_L_law_653 : decode mL_law.1 653 = .ok (.iaload, 1) ∧ 653 + 1 = 654 := ⟨by decide +kernel, rfl⟩
theorem d_L_law_654 : decode mL_law.1 654 = .ok (.aload_n 0, 1) ∧ 654 + 1 = 655 := ⟨by decide +kernel, rfl⟩
theorem d_L_law_655 : decode mL_law.1 655 = .ok (.iload_n 3, 1) ∧ 655 + 1 = 656 := ⟨by decide +kernel, rfl⟩
theorem d_L_law_656 : decode mL_law.1 656 = .ok (.iconst 2, 1) ∧ 656 + 1 = 657 := ⟨by decide +kernel, rfl⟩
theorem d_L_law_657 : decode mL_law.1 657 = .ok (.iadd, 1) ∧ 657 + 1 = 658 := ⟨by decide +kernel, rfl⟩
theorem d_L_law_658 : decode mL_law.1 658 = .ok (.iaload, 1) ∧ 658 + 1 = 659 := ⟨by decide +kernel, rfl⟩
theorem d_L_law_659 : decode mL_law.1 659 = .ok (.invokevirtual 83, 3) ∧ 659 + 3 = 662 := ⟨by decide +kernel, rfl⟩
theorem d_L_law_662 : decode mL_law.1 662 = .ok (.aload_n 2, 1) ∧ 662 + 1 = 663 := ⟨by decide +kernel, rfl⟩
theorem d_L_law_663 : decode mL_law.1 663 = .ok (.aload_n 0, 1) ∧ 663 + 1 = 664 := ⟨by decide +kernel, rfl⟩
theorem d_L_law_664 : decode mL_law.1 664 = .ok (.iload_n 3, 1) ∧ 664 + 1 = 665 := ⟨by decide +kernel, rfl⟩
theorem d_L_law_665 : decode mL_law.1 665 = .ok (.iconst 1, 1) ∧ 665 + 1 = 666 := ⟨by decide +kernel, rfl⟩
theorem d_L_law_666 : decode mL_law.1 666 = .ok (.iadd, 1) ∧ 666 + 1 = 667 := ⟨by decide +kernel, rfl⟩
theorem d_L_law_667 : decode mL_law.1 667 = .ok (.iaload, 1) ∧ 667 + 1 = 668 := ⟨by decide +kernel, rfl⟩
theorem d_L_law_668 : decode mL_law.1 668 = .ok (.aload_n 0, 1) ∧ 668 + 1 = 669 := ⟨by decide +kernel, rfl⟩
theorem d_L_law_669 : decode mL_law.1 669 = .ok (.iload_n 3, 1) ∧ 669 + 1 = 670 := ⟨by decide +kernel, rfl⟩
theorem d_L_law_670 : decode mL_law.1 670 = .ok (.iconst 2, 1) ∧ 670 + 1 = 671 := ⟨by decide +kernel, rfl⟩
theorem d_L_law_671 : decode mL_law.1 671 = .ok (.iadd, 1) ∧ 671 + 1 = 672 := ⟨by decide +kernel, rfl⟩
theorem d_L_law_672 : decode mL_law.1 672 = .ok (.iaload, 1) ∧ 672 + 1 = 673 := ⟨by decide +kernel, rfl⟩
theorem d_L_law_673 : decode mL_law.1 673 = .ok (.invokevirtual 86, 3) ∧ 673 + 3 = 676 := ⟨by decide +kernel, rfl⟩
theorem d_L_law_676 : decode mL_law.1 676 = .ok (.if_icmp .eq 324, 3) ∧ 676 + 3 = 679 ∧ ((676 : Nat) : Int) + 324 = ((1000 : Nat) : Int) := ⟨by decide +kernel, rfl, rfl⟩
theorem d_L_law_679 : decode mL_law.1 679 = .ok (.iconst 0, 1) ∧ 679 + 1 = 680 := ⟨by decide +kernel, rfl⟩
theorem d_L_law_680 : decode mL_law.1 680 = .ok (.ireturn, 1) := by decide +kernel
theorem d_L_law_681 : decode mL_law.1 681 = .ok (.aload_n 1, 1) ∧ 681 + 1 = 682 := ⟨by decide +kernel, rfl⟩
theorem d_L_law_682 : decode mL_law.1 682 = .ok (.aload_n 0, 1) ∧ 682 + 1 = 683 := ⟨by decide +kernel, rfl⟩
theorem d_L_law_683 : decode mL_law.1 683 = .ok (.iload_n 3, 1) ∧ 683 + 1 = 684 := ⟨by decide +kernel, rfl⟩
theorem d_L_law_684 : decode mL_law.1 684 = .ok (.iconst 1, 1) ∧ 684 + 1 = 685 := ⟨by decide +kernel, rfl⟩
theorem d_L_law_685 : decode mL_law.1 685 = .ok (.iadd, 1) ∧ 685 + 1 = 686 := ⟨by decide +kernel, rfl⟩
theorem d_L_law_686 : decode mL_law.1 686 = .ok (.iaload, 1) ∧ 686 + 1 = 687 := ⟨by decide +kernel, rfl⟩
theorem d_L_law_687 : decode mL_law.1 687 = .ok (.invokevirtual 87, 3) ∧ 687 + 3 = 690 := ⟨by decide +kernel, rfl⟩
theorem d_L_law_690 : decode mL_law.1 690 = .ok (.aload_n 2, 1) ∧ 690 + 1 = 691 := ⟨by decide +kernel, rfl⟩
theorem d_L_law_691 : decode mL_law.1 691 = .ok (.aload_n 0, 1) ∧ 691 + 1 = 692 := ⟨by decide +kernel, rfl⟩
theorem d_L_law_692 : decode mL_law.1 692 = .ok (.iload_n 3, 1) ∧ 692 + 1 = 693 := ⟨by decide +kernel, rfl⟩
theorem d_L_law_693 : decode mL_law.1 693 = .ok (.iconst 1, 1) ∧ 693 + 1 = 694 := ⟨by decide +kernel, rfl⟩
theorem d_L_law_694 : decode mL_law.1 694 = .ok (.iadd, 1) ∧ 694 + 1 = 695 := ⟨by decide +kernel, rfl⟩
theorem d_L_law_695 : decode mL_law.1 695 = .ok (.iaload, 1) ∧ 695 + 1 = 696 := ⟨by decide +kernel, rfl⟩
theorem d_L_law_696 : decode mL_law.1 696 = .ok (.invokevirtual 90, 3) ∧ 696 + 3 = 699 := ⟨by decide +kernel, rfl⟩
theorem d_L_law_699 : decode mL_law.1 699 = .ok (.if_icmp .eq 301, 3) ∧ 699 + 3 = 702 ∧ ((699 : Nat) : Int) + 301 = ((1000 : Nat) : Int) := ⟨by decide +kernel, rfl, rfl⟩
theorem d_L_law_702 : decode mL_law.1 702 = .ok (.iconst 0, 1) ∧ 702 + 1 = 703 := ⟨by decide +kernel, rfl⟩
theorem d_L_law_703 : decode mL_law.1 703 = .ok (.ireturn, 1) := by decide +kernel
theorem d_L_law_704 : decode mL_law.1 704 = .ok (.aload_n 1, 1) ∧ 704 + 1 = 705 := ⟨by decide +kernel, rfl⟩
theorem d_L_law_705 : decode mL_law.1 705 = .ok (.aload_n 0, 1) ∧ 705 + 1 = 706 := ⟨by decide +kernel, rfl⟩
theorem d_L_law_706 : decode mL_law.1 706 = .ok (.iload_n 3, 1) ∧ 706 + 1 = 707 := ⟨by decide +kernel, rfl⟩
theorem d_L_law_707 : decode mL_law.1 707 = .ok (.iconst 1, 1) ∧ 707 + 1 = 708 := ⟨by decide +kernel, rfl⟩
theorem d_L_law_708 : decode mL_law.1 708 = .ok (.iadd, 1) ∧ 708 + 1 = 709 := ⟨by decide +kernel, rfl⟩
theorem d_L_law_709 : decode mL_law.1 709 = .ok (.iaload, 1) ∧ 709 + 1 = 710 := ⟨by decide +kernel, rfl⟩
theorem d_L_law_710 : decode mL_law.1 710 = .ok (.invokevirtual 91, 3) ∧ 710 + 3 = 713 := ⟨by decide +kernel, rfl⟩
theorem d_L_law_713 : decode mL_law.1 713 = .ok (.aload_n 2, 1) ∧ 713 + 1 = 714 := ⟨by decide +kernel, rfl⟩
theorem d_L_law_714 : decode mL_law.1 714 = .ok (.aload_n 0, 1) ∧ 714 + 1 = 715 := ⟨by decide +kernel, rfl⟩
theorem d_L_law_715 : decode mL_law.1 715 = .ok (.iload_n 3, 1) ∧ 715 + 1 = 716 := ⟨by decide +kernel, rfl⟩
theorem d_L_law_716 : decode mL_law.1 716 = .ok (.iconst 1, 1) ∧ 716 + 1 = 717 := ⟨by decide +kernel, rfl⟩
theorem d_L_law_717 : decode mL_law.1 717 = .ok (.iadd, 1) ∧ 717 + 1 = 718 := ⟨by decide +kernel, rfl⟩
theorem d_L_law_718 : decode mL_law.1 718 = .ok (.iaload, 1) ∧ 718 + 1 = 719 := ⟨by decide +kernel, rfl⟩
theorem d_L_law_719 : decode mL_law.1 719 = .ok (.invokevirtual 94, 3) ∧ 719 + 3 = 722 := ⟨by decide +kernel, rfl⟩
theorem d_L_law_722 : decode mL_law.1 722 = .ok (.if_icmp .eq 278, 3) ∧ 722 + 3 = 725 ∧ ((722 : Nat) : Int) + 278 = ((1000 : Nat) : Int) := ⟨by decide +kernel, rfl, rfl⟩
theorem d_L_law_725 : decode mL_law.1 725 = .ok (.iconst 0, 1) ∧ 725 + 1 = 726 := ⟨by decide +kernel, rfl⟩
theorem d_L_law_726 : decode mL_law.1 726 = .ok (.ireturn, 1) := by decide +kernel
theorem d_L_law_727 : decode mL_law.1 727 = .ok (.aload_n 1, 1) ∧ 727 + 1 = 728 := ⟨by decide +kernel, rfl⟩
theorem d_L_law_728 : decode mL_law.1 728 = .ok (.aload_n 0, 1) ∧ 728 + 1 = 729 := ⟨by decide +kernel, rfl⟩
theorem d_L_law_729 : decode mL_law.1 729 = .ok (.iload_n 3, 1) ∧ 729 + 1 = 730 := ⟨by decide +kernel, rfl⟩
theorem d_L_law_730 : decode mL_law.1 730 = .ok (.iconst 1, 1) ∧ 730 + 1 = 731 := ⟨by decide +kernel, rfl⟩
theorem d_L_law_731 : decode mL_law.1 731 = .ok (.iadd, 1) ∧ 731 + 1 = 732 := ⟨by decide +kernel, rfl⟩
theorem d_L_law_732 : decode mL_law.1 732 = .ok (.iaload, 1) ∧ 732 + 1 = 733 := ⟨by decide +kernel, rfl⟩
theorem d_L_law_733 : decode mL_law.1 733 = .ok (.invokevirtual 95, 3) ∧ 733 + 3 = 736 := ⟨by decide +kernel, rfl⟩
theorem d_L_law_736 : decode mL_law.1 736 = .ok (.aload_n 2, 1) ∧ 736 + 1 = 737 := ⟨by decide +kernel, rfl⟩
theorem d_L_law_737 : decode mL_law.1 737 = .ok (.aload_n 0, 1) ∧ 737 + 1 = 738 := ⟨by decide +kernel, rfl⟩
theorem d_L_law_738 : decode mL_law.1 738 = .ok (.iload_n 3, 1) ∧ 738 + 1 = 739 := ⟨by decide +kernel, rfl⟩
theorem d_L_law_739 : decode mL_law.1 739 = .ok (.iconst 1, 1) ∧ 739 + 1 = 740 := ⟨by decide +kernel, rfl⟩
theorem d_L_law_740 : decode mL_law.1 740 = .ok (.iadd, 1) ∧ 740 + 1 = 741 := ⟨by decide +kernel, rfl⟩
theorem d_L_law_741 : decode mL_law.1 741 = .ok (.iaload, 1) ∧ 741 + 1 = 742 := ⟨by decide +kernel, rfl⟩
theorem d_L_law_742 : decode mL_law.1 742 = .ok (.invokevirtual 98, 3) ∧ 742 + 3 = 745 := ⟨by decide +kernel, rfl⟩
theorem d_L_law_745 : decode mL_law.1 745 = .ok (.if_icmp .eq 255, 3) ∧ 745 + 3 = 748 ∧ ((745 : Nat) : Int) + 255 = ((1000 : Nat) : Int) := ⟨by decide +kernel, rfl, rfl⟩
theorem d_L_law_748 : decode mL_law.1 748 = .ok (.iconst 0, 1) ∧ 748 + 1 = 749 := ⟨by decide +kernel, rfl⟩
theorem d_L_law_749 : decode mL_law.1 749 = .ok (.ireturn, 1) := by decide +kernel
theorem d_L_law_750 : decode mL_law.1 750 = .ok (.aload_n 1, 1) ∧ 750 + 1 = 751 := ⟨by decide +kernel, rfl⟩
theorem d_L_law_751 : decode mL_law.1 751 = .ok (.invokevirtual 99, 3) ∧ 751 + 3 = 754 := ⟨by decide +kernel, rfl⟩
theorem d_L_law_754 : decode mL_law.1 754 = .ok (.aload_n 2, 1) ∧ 754 + 1 = 755 := ⟨by decide +kernel, rfl⟩
theorem d_L_law_755 : decode mL_law.1 755 = .ok (.invokevirtual 102, 3) ∧ 755 + 3 = 758 := ⟨by decide +kernel, rfl⟩
theorem d_L_law_758 : decode mL_law.1 758 = .ok (.if_icmp .eq 242, 3) ∧ 758 + 3 = 761 ∧ ((758 : Nat) : Int) + 242 = ((1000 : Nat) : Int) := ⟨by decide +kernel, rfl, rfl⟩
theorem d_L_law_761 : decode mL_law.1 761 = .ok (.iconst 0, 1) ∧ 761 + 1 = 762 := ⟨by decide +kernel, rfl⟩
theorem d_L_law_762 : decode mL_law.1 762 = .ok (.ireturn, 1) := by decide +kernel
theorem d_L_law_763 : decode mL_law.1 763 = .ok (.aload_n 1, 1) ∧ 763 + 1 = 764 := ⟨by decide +kernel, rfl⟩
theorem d_L_law_764 : decode mL_law.1 764 = .ok (.aload_n 0, 1) ∧ 764 + 1 = 765 := ⟨by decide +kernel, rfl⟩
theorem d_L_law_765 : decode mL_law.1 765 = .ok (.iload_n 3, 1) ∧ 765 + 1 = 766 := ⟨by decide +kernel, rfl⟩
theorem d_L_law_766 : decode mL_law.1 766 = .ok (.iconst 1, 1) ∧ 766 + 1 = 767 := ⟨by decide +kernel, rfl⟩
theorem d_L_law_767 : decode mL_law.1 767 = .ok (.iadd, 1) ∧ 767 + 1 = 768 := ⟨by decide +kernel, rfl⟩
theorem d_L_law_768 : decode mL_law.1 768 = .ok (.iaload, 1) ∧ 768 + 1 = 769 := ⟨by decide +kernel, rfl⟩
theorem d_L_law_769 : decode mL_law.1 769 = .ok (.invokevirtual 103, 3) ∧ 769 + 3 = 772 := ⟨by decide +kernel, rfl⟩
theorem d_L_law_772 : decode mL_law.1 772 = .ok (.aload_n 2, 1) ∧ 772 + 1 = 773 := ⟨by decide +kernel, rfl⟩
theorem d_L_law_773 : decode mL_law.1 773 = .ok (.aload_n 0, 1) ∧ 773 + 1 = 774 := ⟨by decide +kernel, rfl⟩
theorem d_L_law_774 : decode mL_law.1 774 = .ok (.iload_n 3, 1) ∧ 774 + 1 = 775 := ⟨by decide +kernel, rfl⟩
theorem d_L_law_775 : decode mL_law.1 775 = .ok (.iconst 1, 1) ∧ 775 + 1 = 776 := ⟨by decide +kernel, rfl⟩
theorem d_L_law_776 : decode mL_law.1 776 = .ok (.iadd, 1) ∧ 776 + 1 = 777 := ⟨by decide +kernel, rfl⟩
theorem d_L_law_777 : decode mL_law.1 777 = .ok (.iaload, 1) ∧ 777 + 1 = 778 := ⟨by decide +kernel, rfl⟩
theorem d_L_law_778 : decode mL_law.1 778 = .ok (.invokevirtual 106, 3) ∧ 778 + 3 = 781 := ⟨by decide +kernel, rfl⟩
theorem d_L_law_781 : decode mL_law.1 781 = .ok (.if_icmp .eq 219, 3) ∧ 781 + 3 = 784 ∧ ((781 : Nat) : Int) + 219 = ((1000 : Nat) : Int) := ⟨by decide +kernel, rfl, rfl⟩
theorem d_L_law_784 : decode mL_law.1 784 = .ok (.iconst 0, 1) ∧ 784 + 1 = 785 := ⟨by decide +kernel, rfl⟩
theorem d_L_law_785 : decode mL_law.1 785 = .ok (.ireturn, 1) := by decide +kernel
theorem d_L_law_786 : decode mL_law.1 786 = .ok (.aload_n 1, 1) ∧ 786 + 1 = 787 := ⟨by decide +kernel, rfl⟩
theorem d_L_law_787 : decode mL_law.1 787 = .ok (.aload_n 0, 1) ∧ 787 + 1 = 788 := ⟨by decide +kernel, rfl⟩
theorem d_L_law_788 : decode mL_law.1 788 = .ok (.iload_n 3, 1) ∧ 788 + 1 = 789 := ⟨by decide +kernel, rfl⟩
theorem d_L_law_789 : decode mL_law.1 789 = .ok (.iconst 1, 1) ∧ 789 + 1 = 790 := ⟨by decide +kernel, rfl⟩
theorem d_L_law_790 : decode mL_law.1 790 = .ok (.iadd, 1) ∧ 790 + 1 = 791 := ⟨by decide +kernel, rfl⟩
theorem d_L_law_791 : decode mL_law.1 791 = .ok (.iaload, 1) ∧ 791 + 1 = 792 := ⟨by decide +kernel, rfl⟩
theorem d_L_law_792 : decode mL_law.1 792 = .ok (.invokevirtual 107, 3) ∧ 792 + 3 = 795 := ⟨by decide +kernel, rfl⟩
theorem d_L_law_795 : decode mL_law.1 795 = .ok (.aload_n 2, 1) ∧ 795 + 1 = 796 := ⟨by decide +kernel, rfl⟩
theorem d_L_law_796 : decode mL_law.1 796 = .ok (.aload_n 0, 1) ∧ 796 + 1 = 797 := ⟨by decide +kernel, rfl⟩
theorem d_L_law_797 : decode mL_law.1 797 = .ok (.iload_n 3, 1) ∧ 797 + 1 = 798 := ⟨by decide +kernel, rfl⟩
theorem d_L_law_798 : decode mL_law.1 798 = .ok (.iconst 1, 1) ∧ 798 + 1 = 799 := ⟨by decide +kernel, rfl⟩
theorem d_L_law_799 : decode mL_law.1 799 = .ok (.iadd, 1) ∧ 799 + 1 = 800 := ⟨by decide +kernel, rfl⟩
theorem d_L_law_800 : decode mL_law.1 800 = .ok (.iaload, 1) ∧ 800 + 1 = 801 := ⟨by decide +kernel, rfl⟩
theorem d_L_law_801 : decode mL_law.1 801 = .ok (.invokevirtual 110, 3) ∧ 801 + 3 = 804 := ⟨by decide +kernel, rfl⟩
theorem d_L_law_804 : decode mL_law.1 804 = .ok (.if_icmp .eq 196, 3) ∧ 804 + 3 = 807 ∧ ((804 : Nat) : Int) + 196 = ((1000 : Nat) : Int) := ⟨by decide +kernel, rfl, rfl⟩
theorem d_L_law_807 : decode mL_law.1 807 = .ok (.iconst 0, 1) ∧ 807 + 1 = 808 := ⟨by decide +kernel, rfl⟩
theorem d_L_law_808 : decode mL_law.1 808 = .ok (.ireturn, 1) := by decide +kernel
theorem d_L_law_809 : decode mL_law.1 809 = .ok (.aload_n 1, 1) ∧ 809 + 1 = 810 := ⟨by decide +kernel, rfl⟩
theorem d_L_law_810 : decode mL_law.1 810 = .ok (.invokevirtual 111, 3) ∧ 810 + 3 = 813 := ⟨by decide +kernel, rfl⟩
theorem d_L_law_813 : decode mL_law.1 813 = .ok (.aload_n 2, 1) ∧ 813 + 1 = 814 := ⟨by decide +kernel, rfl⟩
theorem d_L_law_814 : decode mL_law.1 814 = .ok (.invokevirtual 114, 3) ∧ 814 + 3 = 817 := ⟨by decide +kernel, rfl⟩
theorem d_L_law_817 : decode mL_law.1 817 = .ok (.if_icmp .eq 183, 3) ∧ 817 + 3 = 820 ∧ ((817 : Nat) : Int) + 183 = ((1000 : Nat) : Int) := ⟨by decide +kernel, rfl, rfl⟩
theorem d_L_law_820 : decode mL_law.1 820 = .ok (.iconst 0, 1) ∧ 820 + 1 = 821 := ⟨by decide +kernel, rfl⟩
theorem d_L_law_821 : decode mL_law.1 821 = .ok (.ireturn, 1) := by decide +kernel
theorem d_L_law_822 : decode mL_law.1 822 = .ok (.aload_n 1, 1) ∧ 822 + 1 = 823 := ⟨by decide +kernel, rfl⟩
theorem d_L_law_823 : decode mL_law.1 823 = .ok (.aload_n 0, 1) ∧ 823 + 1 = 824 := ⟨by decide +kernel, rfl⟩
theorem d_L_law_824 : decode mL_law.1 824 = .ok (.iload_n 3, 1) ∧ 824 + 1 = 825 := ⟨by decide +kernel, rfl⟩
theorem d_L_law_825 : decode mL_law.1 825 = .ok (.iconst 1, 1) ∧ 825 + 1 = 826 := ⟨by decide +kernel, rfl⟩
theorem d_L_law_826 : decode mL_law.1 826 = .ok (.iadd, 1) ∧ 826 + 1 = 827 := ⟨by decide +kernel, rfl⟩
theorem d_L_law_827 : decode mL_law.1 827 = .ok (.iaload, 1) ∧ 827 + 1 = 828 := ⟨by decide +kernel, rfl⟩
theorem d_L_law_828 : decode mL_law.1 828 = .ok (.aload_n 0, 1) ∧ 828 + 1 = 829 := ⟨by decide +kernel, rfl⟩
theorem d_L_law_829 : decode mL_law.1 829 = .ok (.iload_n 3, 1) ∧ 829 + 1 = 830 := ⟨by decide +kernel, rfl⟩
theorem d_L_law_830 : decode mL_law.1 830 = .ok (.iconst 2, 1) ∧ 830 + 1 = 831 := ⟨by decide +kernel, rfl⟩
theorem d_L_law_831 : decode mL_law.1 831 = .ok (.iadd, 1) ∧ 831 + 1 = 832 := ⟨by decide +kernel, rfl⟩
theorem d_L_law_832 : decode mL_law.1 832 = .ok (.iaload, 1) ∧ 832 + 1 = 833 := ⟨by decide +kernel, rfl⟩
theorem d_L_law_833 : decode mL_law.1 833 = .ok (.invokevirtual 115, 3) ∧ 833 + 3 = 836 := ⟨by decide +kernel, rfl⟩
theorem d_L_law_836 : decode mL_law.1 836 = .ok (.aload_n 2, 1) ∧ 836 + 1 = 837 := ⟨by decide +kernel, rfl⟩
theorem d_L_law_837 : decode mL_law.1 837 = .ok (.aload_n 0, 1) ∧ 837 + 1 = 838 := ⟨by decide +kernel, rfl⟩
theorem d_L_law_838 : decode mL_law.1 838 = .ok (.iload_n 3, 1) ∧ 838 + 1 = 839 := ⟨by decide +kernel, rfl⟩
theorem d_L_law_839 : decode mL_law.1 839 = .ok (.iconst 1, 1) ∧ 839 + 1 = 840 := ⟨by decide +kernel, rfl⟩
theorem d_L_law_840 : decode mL_law.1 840 = .ok (.iadd, 1) ∧ 840 + 1 = 841 := ⟨by decide +kernel, rfl⟩
theorem d_L_law_841 : decode mL_law.1 841 = .ok (.iaload, 1) ∧ 841 + 1 = 842 := ⟨by decide +kernel, rfl⟩
theorem d_L_law_842 : decode mL_law.1 842 = .ok (.aload_n 0, 1) ∧ 842 + 1 = 843 := ⟨by decide +kernel, rfl⟩
theorem d_L_law_843 : decode mL_law.1 843 = .ok (.iload_n 3, 1) ∧ 843 + 1 = 844 := ⟨by decide +kernel, rfl⟩
theorem d_L_law_844 : decode mL_law.1 844 = .ok (.iconst 2, 1) ∧ 844 + 1 = 845 := ⟨by decide +kernel, rfl⟩
theorem d_L_law_845 : decode mL_law.1 845 = .ok (.iadd, 1) ∧ 845 + 1 = 846 := ⟨by decide +kernel, rfl⟩
theorem d_L_law_846 : decode mL_law.1 846 = .ok (.iaload, 1) ∧ 846 + 1 = 847 := ⟨by decide +kernel, rfl⟩
theorem d_L_law_847 : decode mL_law.1 847 = .ok (.invokevirtual 119, 3) ∧ 847 + 3 = 850 := ⟨by decide +kernel, rfl⟩
theorem d_L_law_850 : decode mL_law.1 850 = .ok (.if_icmp .eq 150, 3) ∧ 850 + 3 = 853 ∧ ((850 : Nat) : Int) + 150 = ((1000 : Nat) : Int) := ⟨by decide +kernel, rfl, rfl⟩
theorem d_L_law_853 : decode mL_law.1 853 = .ok (.iconst 0, 1) ∧ 853 + 1 = 854 := ⟨by decide +kernel, rfl⟩
theorem d_L_law_854 : decode mL_law.1 854 = .ok (.ireturn, 1) := by decide +kernel
theorem d_L_law_855 : decode mL_law.1 855 = .ok (.aload_n 1, 1) ∧ 855 + 1 = 856 := ⟨by decide +kernel, rfl⟩
theorem d_L_law_856 : decode mL_law.1 856 = .ok (.aload_n 0, 1) ∧ 856 + 1 = 857 := ⟨by decide +kernel, rfl⟩
theorem d_L_law_857 : decode mL_law.1 857 = .ok (.iload_n 3, 1) ∧ 857 + 1 = 858 := ⟨by decide +kernel, rfl⟩
theorem d_L_law_858 : decode mL_law.1 858 = .ok (.iconst 1, 1) ∧ 858 + 1 = 859 := ⟨by decide +kernel, rfl⟩
theorem d_L_law_859 : decode mL_law.1 859 = .ok (.iadd, 1) ∧ 859 + 1 = 860 := ⟨by decide +kernel, rfl⟩
theorem d_L_law_860 : decode mL_law.1 860 = .ok (.iaload, 1) ∧ 860 + 1 = 861 := ⟨by decide +kernel, rfl⟩
theorem d_L_law_861 : decode mL_law.1 861 = .ok (.invokevirtual 120, 3) ∧ 861 + 3 = 864 := ⟨by decide +kernel, rfl⟩
theorem d_L_law_864 : decode mL_law.1 864 = .ok (.aload_n 2, 1) ∧ 864 + 1 = 865 := ⟨by decide +kernel, rfl⟩
theorem d_L_law_865 : decode mL_law.1 865 = .ok (.aload_n 0, 1) ∧ 865 + 1 = 866 := ⟨by decide +kernel, rfl⟩
theorem d_L_law_866 : decode mL_law.1 866 = .ok (.iload_n 3, 1) ∧ 866 + 1 = 867 := ⟨by decide +kernel, rfl⟩
theorem d_L_law_867 : decode mL_law.1 867 = .ok (.iconst 1, 1) ∧ 867 + 1 = 868 := ⟨by decide +kernel, rfl⟩
theorem d_L_law_868 : decode mL_law.1 868 = .ok (.iadd, 1) ∧ 868 + 1 = 869 := ⟨by decide +kernel, rfl⟩
theorem d_L_law_869 : decode mL_law.1 869 = .ok (.iaload, 1) ∧ 869 + 1 = 870 := ⟨by decide +kernel, rfl⟩
theorem d_L_law_870 : decode mL_law.1 870 = .ok (.invokevirtual 123, 3) ∧ 870 + 3 = 873 := ⟨by decide +kernel, rfl⟩
theorem d_L_law_873 : decode mL_law.1 873 = .ok (.if_icmp .eq 127, 3) ∧ 873 + 3 = 876 ∧ ((873 : Nat) : Int) + 127 = ((1000 : Nat) : Int) := ⟨by decide +kernel, rfl, rfl⟩
theorem d_L_law_876 : decode mL_law.1 876 = .ok (.iconst 0, 1) ∧ 876 + 1 = 877 := ⟨by decide +kernel, rfl⟩
theorem d_L_law_877 : decode mL_law.1 877 = .ok (.ireturn, 1) := by decide +kernel
theorem d_L_law_878 : decode mL_law.1 878 = .ok (.aload_n 1, 1) ∧ 878 + 1 = 879 := ⟨by decide +kernel, rfl⟩
theorem d_L_law_879 : decode mL_law.1 879 = .ok (.invokevirtual 124, 3) ∧ 879 + 3 = 882 := ⟨by decide +kernel, rfl⟩
theorem d_L_law_882 : decode mL_law.1 882 = .ok (.aload_n 2, 1) ∧ 882 + 1 = 883 := ⟨by decide +kernel, rfl⟩
theorem d_L_law_883 : decode mL_law.1 883 = .ok (.invokevirtual 128, 3) ∧ 883 + 3 = 886 := ⟨by decide +kernel, rfl⟩
theorem d_L_law_886 : decode mL_law.1 886 = .ok (.if_icmp .eq 114, 3) ∧ 886 + 3 = 889 ∧ ((886 : Nat) : Int) + 114 = ((1000 : Nat) : Int) := ⟨by decide +kernel, rfl, rfl⟩
theorem d_L_law_889 : decode mL_law.1 889 = .ok (.iconst 0, 1) ∧ 889 + 1 = 890 := ⟨by decide +kernel, rfl⟩
theorem d_L_law_890 : decode mL_law.1 890 = .ok (.ireturn, 1) := by decide +kernel
theorem d_L_law_891 : decode mL_law.1 891 = .ok (.aload_n 1, 1) ∧ 891 + 1 = 892 := ⟨by decide +kernel, rfl⟩
theorem d_L_law_892 : decode mL_law.1 892 = .ok (.aload_n 0, 1) ∧ 892 + 1 = 893 := ⟨by decide +kernel, rfl⟩
theorem d_L_law_893 : decode mL_law.1 893 = .ok (.iload_n 3, 1) ∧ 893 + 1 = 894 := ⟨by decide +kernel, rfl⟩
theorem d_L_law_894 : decode mL_law.1 894 = .ok (.iconst 1, 1) ∧ 894 + 1 = 895 := ⟨by decide +kernel, rfl⟩
theorem d_L_law_895 : decode mL_law.1 895 = .ok (.iadd, 1) ∧ 895 + 1 = 896 := ⟨by decide +kernel, rfl⟩
theorem d_L_law_896 : decode mL_law.1 896 = .ok (.iaload, 1) ∧ 896 + 1 = 897 := ⟨by decide +kernel, rfl⟩
theorem d_L_law_897 : decode mL_law.1 897 = .ok (.invokevirtual 129, 3) ∧ 897 + 3 = 900 := ⟨by decide +kernel, rfl⟩
theorem d_L_law_900 : decode mL_law.1 900 = .ok (.aload_n 2, 1) ∧ 900 + 1 = 901 := ⟨by decide +kernel, rfl⟩
theorem d_L_law_901 : decode mL_law.1 901 = .ok (.aload_n 0, 1) ∧ 901 + 1 = 902 := ⟨by decide +kernel, rfl⟩
theorem d_L_law_902 : decode mL_law.1 902 = .ok (.iload_n 3, 1) ∧ 902 + 1 = 903 := ⟨by decide +kernel, rfl⟩
theorem d_L_law_903 : decode mL_law.1 903 = .ok (.iconst 1, 1) ∧ 903 + 1 = 904 := ⟨by decide +kernel, rfl⟩
theorem d_L_law_904 : decode mL_law.1 904 = .ok (.iadd, 1) ∧ 904 + 1 = 905 := ⟨by decide +kernel, rfl⟩
theorem d_L_law_905 : decode mL_law.1 905 = .ok (.iaload, 1) ∧ 905 + 1 = 906 := ⟨by decide +kernel, rfl⟩
theorem d_L_law_906 : decode mL_law.1 906 = .ok (.invokevirtual 132, 3) ∧ 906 + 3 = 909 := ⟨by decide +kernel, rfl⟩
theorem d_L_law_909 : decode mL_law.1 909 = .ok (.if_icmp .eq 91, 3) ∧ 909 + 3 = 912 ∧ ((909 : Nat) : Int) + 91 = ((1000 : Nat) : Int) := ⟨by decide +kernel, rfl, rfl⟩
theorem d_L_law_912 : decode mL_law.1 912 = .ok (.iconst 0, 1) ∧ 912 + 1 = 913 := ⟨by decide +kernel, rfl⟩
theorem d_L_law_913 : decode mL_law.1 913 = .ok (.ireturn, 1) := by decide +kernel
theorem d_L_law_914 : decode mL_law.1 914 = .ok (.aload_n 1, 1) ∧ 914 + 1 = 915 := ⟨by decide +kernel, rfl⟩
theorem d_L_law_915 : decode mL_law.1 915 = .ok (.invokevirtual 133, 3) ∧ 915 + 3 = 918 := ⟨by decide +kernel, rfl⟩
theorem d_L_law_918 : decode mL_law.1 918 = .ok (.aload_n 2, 1) ∧ 918 + 1 = 919 := ⟨by decide +kernel, rfl⟩
theorem d_L_law_919 : decode mL_law.1 919 = .ok (.invokevirtual 137, 3) ∧ 919 + 3 = 922 := ⟨by decide +kernel, rfl⟩
theorem d_L_law_922 : decode mL_law.1 922 = .ok (.lcmp, 1) ∧ 922 + 1 = 923 := ⟨by decide +kernel, rfl⟩
theorem d_L_law_923 : decode mL_law.1 923 = .ok (.ifCond .eq 77, 3) ∧ 923 + 3 = 926 ∧ ((923 : Nat) : Int) + 77 = ((1000 : Nat) : Int) := ⟨by decide +kernel, rfl, rfl⟩
theorem d_L_law_926 : decode mL_law.1 926 = .ok (.iconst 0, 1) ∧ 926 + 1 = 927 := ⟨by decide +kernel, rfl⟩
theorem d_L_law_927 : decode mL_law.1 927 = .ok (.ireturn, 1) := by decide +kernel
theorem d_L_law_928 : decode mL_law.1 928 = .ok (.aload_n 1, 1) ∧ 928 + 1 = 929 := ⟨by decide +kernel, rfl⟩
theorem d_L_law_929 : decode mL_law.1 929 = .ok (.invokevirtual 138, 3) ∧ 929 + 3 = 932 := ⟨by decide +kernel, rfl⟩
theorem d_L_law_932 : decode mL_law.1 932 = .ok (.aload_n 2, 1) ∧ 932 + 1 = 933 := ⟨by decide +kernel, rfl⟩
theorem d_L_law_933 : decode mL_law.1 933 = .ok (.invokevirtual 141, 3) ∧ 933 + 3 = 936 := ⟨by decide +kernel, rfl⟩
theorem d_L_law_936 : decode mL_law.1 936 = .ok (.if_icmp .eq 64, 3) ∧ 936 + 3 = 939 ∧ ((936 : Nat) : Int) + 64 = ((1000 : Nat) : Int) := ⟨by decide +kernel, rfl, rfl⟩
theorem d_L_law_939 : decode mL_law.1 939 = .ok (.iconst 0, 1) ∧ 939 + 1 = 940 := ⟨by decide +kernel, rfl⟩
theorem d_L_law_940 : decode mL_law.1 940 = .ok (.ireturn, 1) := by decide +kernel
theorem d_L_law_941 : decode mL_law.1 941 = .ok (.aload_n 1, 1) ∧ 941 + 1 = 942 := ⟨by decide +kernel, rfl⟩
theorem d_L_law_942 : decode mL_law.1 942 = .ok (.aload_n 0, 1) ∧ 942 + 1 = 943 := ⟨by decide +kernel, rfl⟩
theorem d_L_law_943 : decode mL_law.1 943 = .ok (.iload_n 3, 1) ∧ 943 + 1 = 944 := ⟨by decide +kernel, rfl⟩
theorem d_L_law_944 : decode mL_law.1 944 = .ok (.iconst 1, 1) ∧ 944 + 1 = 945 := ⟨by decide +kernel, rfl⟩
theorem d_L_law_945 : decode mL_law.1 945 = .ok (.iadd, 1) ∧ 945 + 1 = 946 := ⟨by decide +kernel, rfl⟩
theorem d_L_law_946 : decode mL_law.1 946 = .ok (.iaload, 1) ∧ 946 + 1 = 947 := ⟨by decide +kernel, rfl⟩
theorem d_L_law_947 : decode mL_law.1 947 = .ok (.invokevirtual 142, 3) ∧ 947 + 3 = 950 := ⟨by decide +kernel, rfl⟩
theorem d_L_law_950 : decode mL_law.1 950 = .ok (.aload_n 2, 1) ∧ 950 + 1 = 951 := ⟨by decide +kernel, rfl⟩
theorem d_L_law_951 : decode mL_law.1 951 = .ok (.aload_n 0, 1) ∧ 951 + 1 = 952 := ⟨by decide +kernel, rfl⟩
theorem d_L_law_952 : decode mL_law.1 952 = .ok (.iload_n 3, 1) ∧ 952 + 1 = 953 := ⟨by decide +kernel, rfl⟩
theorem d_L_law_953 : decode mL_law.1 953 = .ok (.iconst 1, 1) ∧ 953 + 1 = 954 := ⟨by decide +kernel, rfl⟩
theorem d_L_law_954 : decode mL_law.1 954 = .ok (.iadd, 1) ∧ 954 + 1 = 955 := ⟨by decide +kernel, rfl⟩
theorem d_L_law_955 : decode mL_law.1 955 = .ok (.iaload, 1) ∧ 955 + 1 = 956 := ⟨by decide +kernel, rfl⟩
theorem d_L_law_956 : decode mL_law.1 956 = .ok (.invokevirtual 145, 3) ∧ 956 + 3 = 959 := ⟨by decide +kernel, rfl⟩
theorem d_L_law_959 : decode mL_law.1 959 = .ok (.if_icmp .eq 41, 3) ∧ 959 + 3 = 962 ∧ ((959 : Nat) : Int) + 41 = ((1000 : Nat) : Int) := ⟨by decide +kernel, rfl, rfl⟩
theorem d_L_law_962 : decode mL_law.1 962 = .ok (.iconst 0, 1) ∧ 962 + 1 = 963 := ⟨by decide +kernel, rfl⟩
theorem d_L_law_963 : decode mL_law.1 963 = .ok (.ireturn, 1) := by decide +kernel
theorem d_L_law_964 : decode mL_law.1 964 = .ok (.aload_n 1, 1) ∧ 964 + 1 = 965 := ⟨by decide +kernel, rfl⟩
theorem d_L_law_965 : decode mL_law.1 965 = .ok (.invokevirtual 146, 3) ∧ 965 + 3 = 968 := ⟨by decide +kernel, rfl⟩
theorem d_L_law_968 : decode mL_law.1 968 = .ok (.aload_n 2, 1) ∧ 968 + 1 = 969 := ⟨by decide +kernel, rfl⟩
theorem d_L_law_969 : decode mL_law.1 969 = .ok (.invokevirtual 149, 3) ∧ 969 + 3 = 972 := ⟨by decide +kernel, rfl⟩
theorem d_L_law_972 : decode mL_law.1 972 = .ok (.if_icmp .eq 28, 3) ∧ 972 + 3 = 975 ∧ ((972 : Nat) : Int) + 28 = ((1000 : Nat) : Int) := ⟨by decide +kernel, rfl, rfl⟩
theorem d_L_law_975 : decode mL_law.1 975 = .ok (.iconst 0, 1) ∧ 975 + 1 = 976 := ⟨by decide +kernel, rfl⟩
theorem d_L_law_976 : decode mL_law.1 976 = .ok (.ireturn, 1) := by decide +kernel
theorem d_L_law_977 : decode mL_law.1 977 = .ok (.aload_n 1, 1) ∧ 977 + 1 = 978 := ⟨by decide +kernel, rfl⟩
theorem d_L_law_978 : decode mL_law.1 978 = .ok (.aload_n 0, 1) ∧ 978 + 1 = 979 := ⟨by decide +kernel, rfl⟩
theorem d_L_law_979 : decode mL_law.1 979 = .ok (.iload_n 3, 1) ∧ 979 + 1 = 980 := ⟨by decide +kernel, rfl⟩
theorem d_L_law_980 : decode mL_law.1 980 = .ok (.iconst 1, 1) ∧ 980 + 1 = 981 := ⟨by decide +kernel, rfl⟩
theorem d_L_law_981 : decode mL_law.1 981 = .ok (.iadd, 1) ∧ 981 + 1 = 982 := ⟨by decide +kernel, rfl⟩
theorem d_L_law_982 : decode mL_law.1 982 = .ok (.iaload, 1) ∧ 982 + 1 = 983 := ⟨by decide +kernel, rfl⟩
theorem d_L_law_983 : decode mL_law.1 983 = .ok (.invokevirtual 150, 3) ∧ 983 + 3 = 986 := ⟨by decide +kernel, rfl⟩
theorem d_L_law_986 : decode mL_law.1 986 = .ok (.aload_n 2, 1) ∧ 986 + 1 = 987 := ⟨by decide +kernel, rfl⟩
theorem d_L_law_987 : decode mL_law.1 987 = .ok (.aload_n 0, 1) ∧ 987 + 1 = 988 := ⟨by decide +kernel, rfl⟩
theorem d_L_law_988 : decode mL_law.1 988 = .ok (.iload_n 3, 1) ∧ 988 + 1 = 989 := ⟨by decide +kernel, rfl⟩
theorem d_L_law_989 : decode mL_law.1 989 = .ok (.iconst 1, 1) ∧ 989 + 1 = 990 := ⟨by decide +kernel, rfl⟩
theorem d_L_law_990 : decode mL_law.1 990 = .ok (.iadd, 1) ∧ 990 + 1 = 991 := ⟨by decide +kernel, rfl⟩
theorem d_L_law_991 : decode mL_law.1 991 = .ok (.iaload, 1) ∧ 991 + 1 = 992 := ⟨by decide +kernel, rfl⟩
theorem d_L_law_992 : decode mL_law.1 992 = .ok (.invokevirtual 153, 3) ∧ 992 + 3 = 995 := ⟨by decide +kernel, rfl⟩
theorem d_L_law_995 : decode mL_law.1 995 = .ok (.if_icmp .eq 5, 3) ∧ 995 + 3 = 998 ∧ ((995 : Nat) : Int) + 5 = ((1000 : Nat) : Int) := ⟨by decide +kernel, rfl, rfl⟩
theorem d_L_law_998 : decode mL_law.1 998 = .ok (.iconst 0, 1) ∧ 998 + 1 = 999 := ⟨by decide +kernel, rfl⟩
theorem d_L_law_999 : decode mL_law.1 999 = .ok (.ireturn, 1) := by decide +kernel
set_option maxRecDepth 100000 in
set_option maxHeartbeats 4000000 in
theorem g_L_law_L18 (l : Launch) (G : xa_C) (sL : Nat) (sc : Nat → Int) (hsc : xa_sc G sL sc) (c1 c2 : Int) (K : (Int × xa_H) ⊕ ((Int × xa_H) ⊕ (xa_H)) → Option xa_O) (hb : ∀ (v3 : Int) (h : xa_H), xa_G l G 69 mL_law (some (Sum.inl ((v3, h)))) K 18 [some (xR (-2)), some (xR c1), some (xR c2), some (xI v3)] [] h) (hr : ∀ r : Int × xa_H, K (Sum.inr (Sum.inl r)) = some (some (xI r.1), r.2)) (hx : ∀ (h : xa_H), xa_G l G 69 mL_law (some (Sum.inr (Sum.inr h))) K 1006 [none, none, none, none] [] h) : ∀ (v3 : Int) (h : xa_H), xa_G l G 69 mL_law (f_L_law_L18 sL sc c1 c2 v3 h) K 18 [some (xR (-2)), some (xR c1), some (xR c2), some (xI v3)] [] h := by
  intro v3 h
  unfold f_L_law_L18
  refine xa_step (xa_iload_n d_L_law_18 rfl) ?_
  refine xa_step (xa_aload_n d_L_law_19 rfl) ?_
  refine xa_slen hsc d_L_law_20 ?_
  refine xa_step (xa_bipush d_L_law_21 xq_b_6) ?_
  refine xa_step (xa_isub d_L_law_23) ?_
  refine xa_if (xa_icmpgt d_L_law_24) (fun q5 => ?_) (fun q5 => ?_)
  · exact xa_weak (ls' := [none, none, none, none]) trivial (hx h)
  · refine xa_step (xa_aload_n d_L_law_27 rfl) ?_
    refine xa_step (xa_iload_n d_L_law_28 rfl) ?_
    refine xa_sald hsc d_L_law_29 (fun x6 _ => ?_)
    refine xa_step (xa_bipush d_L_law_30 xq_b_63) ?_
    refine xa_step (xa_iand d_L_law_32) ?_
    refine xa_case (fun q7 => ?_) (fun q7 => ?_)
    · refine xa_step (xa_tabIn (k := 0) d_L_law_33 q7 (by decide) (by decide) rfl rfl) ?_
      refine xa_step (xa_aload_n d_L_law_180 rfl) ?_
      refine xa_step (xa_aload_n d_L_law_181 rfl) ?_
      refine xa_step (xa_iload_n d_L_law_182 rfl) ?_
      refine xa_step (xa_iconst d_L_law_183 xq_i_1) ?_
      refine xa_step (xa_iadd d_L_law_184) ?_
      refine xa_sald hsc d_L_law_185 (fun x8 _ => ?_)
      refine xa_step (xa_aload_n d_L_law_186 rfl) ?_
      refine xa_step (xa_iload_n d_L_law_187 rfl) ?_
      refine xa_step (xa_iconst d_L_law_188 xq_i_2) ?_
      refine xa_step (xa_iadd d_L_law_189) ?_
      refine xa_sald hsc d_L_law_190 (fun x9 _ => ?_)
      refine xa_step (xa_aload_n d_L_law_191 rfl) ?_
      refine xa_step (xa_iload_n d_L_law_192 rfl) ?_
      refine xa_step (xa_iconst d_L_law_193 xq_i_3) ?_
      refine xa_step (xa_iadd d_L_law_194) ?_
      refine xa_sald hsc d_L_law_195 (fun x10 _ => ?_)
      refine xa_step (xa_aload_n d_L_law_196 rfl) ?_
      refine xa_step (xa_iload_n d_L_law_197 rfl) ?_
      refine xa_step (xa_iconst d_L_law_198 xq_i_4) ?_
      refine xa_step (xa_iadd d_L_law_199) ?_
      refine xa_sald hsc d_L_law_200 (fun x11 _ => ?_)
      refine xa_step (xa_aload_n d_L_law_201 rfl) ?_
      refine xa_step (xa_iload_n d_L_law_202 rfl) ?_
      refine xa_step (xa_iconst d_L_law_203 xq_i_5) ?_
      refine xa_step (xa_iadd d_L_law_204) ?_
      refine xa_sald hsc d_L_law_205 (fun x12 _ => ?_)
      refine xa_callVI (as := [xI x8, xI x9, xI x10, xI x11, xI x12]) (st := []) (M' := mX11_feed) (d' := 3) rfl xw_642 xw_643 xw_644 xw_645 xw_161 xh_X11_feed rfl ⟨Nat.le_of_ble_eq_true rfl, Nat.le_of_ble_eq_true rfl⟩ (Nat.le_of_ble_eq_true rfl) rfl d_L_law_206 (fun r hr => ct_X11_feed l G c1 x8 x9 x10 x11 x12 h r hr) (fun r13 _ => ?_)
      refine xa_step (xa_aload_n d_L_law_209 rfl) ?_
      refine xa_step (xa_aload_n d_L_law_210 rfl) ?_
      refine xa_step (xa_iload_n d_L_law_211 rfl) ?_
      refine xa_step (xa_iconst d_L_law_212 xq_i_1) ?_
      refine xa_step (xa_iadd d_L_law_213) ?_
      refine xa_sald hsc d_L_law_214 (fun x14 _ => ?_)
      refine xa_step (xa_aload_n d_L_law_215 rfl) ?_
      refine xa_step (xa_iload_n d_L_law_216 rfl) ?_
      refine xa_step (xa_iconst d_L_law_217 xq_i_2) ?_
      refine xa_step (xa_iadd d_L_law_218) ?_
      refine xa_sald hsc d_L_law_219 (fun x15 _ => ?_)
      refine xa_step (xa_aload_n d_L_law_220 rfl) ?_
      refine xa_step (xa_iload_n d_L_law_221 rfl) ?_
      refine xa_step (xa_iconst d_L_law_222 xq_i_3) ?_
      refine xa_step (xa_iadd d_L_law_223) ?_
      refine xa_sald hsc d_L_law_224 (fun x16 _ => ?_)
      refine xa_step (xa_aload_n d_L_law_225 rfl) ?_
      refine xa_step (xa_iload_n d_L_law_226 rfl) ?_
      refine xa_step (xa_iconst d_L_law_227 xq_i_4) ?_
      refine xa_step (xa_iadd d_L_law_228) ?_
      refine xa_sald hsc d_L_law_229 (fun x17 _ => ?_)
      refine xa_step (xa_aload_n d_L_law_230 rfl) ?_
      refine xa_step (xa_iload_n d_L_law_231 rfl) ?_
      refine xa_step (xa_iconst d_L_law_232 xq_i_5) ?_
      refine xa_step (xa_iadd d_L_law_233) ?_
      refine xa_sald hsc d_L_law_234 (fun x18 _ => ?_)
      refine xa_callVI (as := [xI x14, xI x15, xI x16, xI x17, xI x18]) (st := [xI r13.1]) (M' := mX12_feed) (d' := 2) rfl xw_1634 xw_1635 xw_1636 xw_1637 xw_177 xh_X12_feed rfl ⟨Nat.le_of_ble_eq_true rfl, Nat.le_of_ble_eq_true rfl⟩ (Nat.le_of_ble_eq_true rfl) rfl d_L_law_235 (fun r hr => ct_X12_feed l G c2 x14 x15 x16 x17 x18 r13.2 r hr) (fun r19 _ => ?_)
      refine xa_if (xa_icmpeq d_L_law_238) (fun q20 => ?_) (fun q20 => ?_)
      · refine xa_step (xa_iinc (ls' := [some (xR (-2)), some (xR c1), some (xR c2), some (xI (w32 (v3 + 6)))]) d_L_law_1000 xq_i_6 rfl (by decide) rfl) ?_
        refine xa_step (xa_goto d_L_law_1003) ?_
        exact xa_weak (ls' := [some (xR (-2)), some (xR c1), some (xR c2), some (xI (w32 (v3 + 6)))]) ⟨rfl, rfl, rfl, rfl, trivial⟩ (hb (w32 (v3 + 6)) r19.2)
      · refine xa_step (xa_iconst d_L_law_241 xq_i_0) ?_
        exact xa_zret d_L_law_242 rfl (Or.inl rfl) (hr _)
    · refine xa_case (fun q21 => ?_) (fun q21 => ?_)
      · refine xa_step (xa_tabIn (k := 1) d_L_law_33 q21 (by decide) (by decide) rfl rfl) ?_
        refine xa_step (xa_aload_n d_L_law_243 rfl) ?_
        refine xa_step (xa_aload_n d_L_law_244 rfl) ?_
        refine xa_step (xa_iload_n d_L_law_245 rfl) ?_
        refine xa_step (xa_iconst d_L_law_246 xq_i_1) ?_
        refine xa_step (xa_iadd d_L_law_247) ?_
        refine xa_sald hsc d_L_law_248 (fun x22 _ => ?_)
        refine xa_callVI (as := [xI x22]) (st := []) (M' := mX11_end) (d' := 3) rfl xw_654 xw_655 xw_656 xw_657 xw_161 xh_X11_end rfl ⟨Nat.le_of_ble_eq_true rfl, Nat.le_of_ble_eq_true rfl⟩ (Nat.le_of_ble_eq_true rfl) rfl d_L_law_249 (fun r hr => ct_X11_end l G c1 x22 h r hr) (fun r23 _ => ?_)
        refine xa_step (xa_aload_n d_L_law_252 rfl) ?_
        refine xa_step (xa_aload_n d_L_law_253 rfl) ?_
        refine xa_step (xa_iload_n d_L_law_254 rfl) ?_
        refine xa_step (xa_iconst d_L_law_255 xq_i_1) ?_
        refine xa_step (xa_iadd d_L_law_256) ?_
        refine xa_sald hsc d_L_law_257 (fun x24 _ => ?_)
        refine xa_callVI (as := [xI x24]) (st := [xI r23.1]) (M' := mX12_end) (d' := 2) rfl xw_1638 xw_1639 xw_1640 xw_1641 xw_177 xh_X12_end rfl ⟨Nat.le_of_ble_eq_true rfl, Nat.le_of_ble_eq_true rfl⟩ (Nat.le_of_ble_eq_true rfl) rfl d_L_law_258 (fun r hr => ct_X12_end l G c2 x24 r23.2 r hr) (fun r25 _ => ?_)
        refine xa_if (xa_icmpeq d_L_law_261) (fun q26 => ?_) (fun q26 => ?_)
        · refine xa_step (xa_iinc (ls' := [some (xR (-2)), some (xR c1), some (xR c2), some (xI (w32 (v3 + 6)))]) d_L_law_1000 xq_i_6 rfl (by decide) rfl) ?_
          refine xa_step (xa_goto d_L_law_1003) ?_
          exact xa_weak (ls' := [some (xR (-2)), some (xR c1), some (xR c2), some (xI (w32 (v3 + 6)))]) ⟨rfl, rfl, rfl, rfl, trivial⟩ (hb (w32 (v3 + 6)) r25.2)
        · refine xa_step (xa_iconst d_L_law_264 xq_i_0) ?_
          exact xa_zret d_L_law_265 rfl (Or.inl rfl) (hr _)
      · refine xa_case (fun q27 => ?_) (fun q27 => ?_)
        · refine xa_step (xa_tabIn (k := 2) d_L_law_33 q27 (by decide) (by decide) rfl rfl) ?_
          refine xa_step (xa_aload_n d_L_law_266 rfl) ?_
          refine xa_callVI (as := []) (st := []) (M' := mX11_open) (d' := 68) rfl xw_658 xw_659 xw_660 xw_661 xw_161 xh_X11_open rfl ⟨Nat.le_of_ble_eq_true rfl, Nat.le_of_ble_eq_true rfl⟩ (Nat.le_of_ble_eq_true rfl) rfl d_L_law_267 (fun r hr => ct_X11_open l G c1 h r hr) (fun r28 _ => ?_)
          refine xa_step (xa_aload_n d_L_law_270 rfl) ?_
          refine xa_callVI (as := []) (st := [xI r28.1]) (M' := mX12_open) (d' := 13) rfl xw_1642 xw_1643 xw_1644 xw_1645 xw_177 xh_X12_open rfl ⟨Nat.le_of_ble_eq_true rfl, Nat.le_of_ble_eq_true rfl⟩ (Nat.le_of_ble_eq_true rfl) rfl d_L_law_271 (fun r hr => ct_X12_open l G c2 r28.2 r hr) (fun r29 _ => ?_)
          refine xa_if (xa_icmpeq d_L_law_274) (fun q30 => ?_) (fun q30 => ?_)
          · refine xa_step (xa_iinc (ls' := [some (xR (-2)), some (xR c1), some (xR c2), some (xI (w32 (v3 + 6)))]) d_L_law_1000 xq_i_6 rfl (by decide) rfl) ?_
            refine xa_step (xa_goto d_L_law_1003) ?_
            exact xa_weak (ls' := [some (xR (-2)), some (xR c1), some (xR c2), some (xI (w32 (v3 + 6)))]) ⟨rfl, rfl, rfl, rfl, trivial⟩ (hb (w32 (v3 + 6)) r29.2)
          · refine xa_step (xa_iconst d_L_law_277 xq_i_0) ?_
            exact xa_zret d_L_law_278 rfl (Or.inl rfl) (hr _)
        · refine xa_case (fun q31 => ?_) (fun q31 => ?_)
          · refine xa_step (xa_tabIn (k := 3) d_L_law_33 q31 (by decide) (by decide) rfl rfl) ?_
            refine xa_step (xa_aload_n d_L_law_279 rfl) ?_
            refine xa_step (xa_aload_n d_L_law_280 rfl) ?_
            refine xa_step (xa_iload_n d_L_law_281 rfl) ?_
            refine xa_step (xa_iconst d_L_law_282 xq_i_1) ?_
            refine xa_step (xa_iadd d_L_law_283) ?_
            refine xa_sald hsc d_L_law_284 (fun x32 _ => ?_)
            refine xa_callVi (as := [xI x32]) (st := []) (M' := mX11_fault) (d' := 2) rfl xw_882 xw_883 xw_884 xw_885 xw_161 xh_X11_fault rfl ⟨Nat.le_of_ble_eq_true rfl, Nat.le_of_ble_eq_true rfl⟩ (Nat.le_of_ble_eq_true rfl) rfl d_L_law_285 (fun r hr => ct_X11_fault l G c1 x32 h r hr) (fun r33 _ => ?_)
            refine xa_step (xa_aload_n d_L_law_288 rfl) ?_
            refine xa_step (xa_aload_n d_L_law_289 rfl) ?_
            refine xa_step (xa_iload_n d_L_law_290 rfl) ?_
            refine xa_step (xa_iconst d_L_law_291 xq_i_1) ?_
            refine xa_step (xa_iadd d_L_law_292) ?_
            refine xa_sald hsc d_L_law_293 (fun x34 _ => ?_)
            refine xa_callVi (as := [xI x34]) (st := [xI r33]) (M' := mX12_fault) (d' := 2) rfl xw_1824 xw_1825 xw_1826 xw_1827 xw_177 xh_X12_fault rfl ⟨Nat.le_of_ble_eq_true rfl, Nat.le_of_ble_eq_true rfl⟩ (Nat.le_of_ble_eq_true rfl) rfl d_L_law_294 (fun r hr => ct_X12_fault l G c2 x34 h r hr) (fun r35 _ => ?_)
            refine xa_if (xa_icmpeq d_L_law_297) (fun q36 => ?_) (fun q36 => ?_)
            · refine xa_step (xa_iinc (ls' := [some (xR (-2)), some (xR c1), some (xR c2), some (xI (w32 (v3 + 6)))]) d_L_law_1000 xq_i_6 rfl (by decide) rfl) ?_
              refine xa_step (xa_goto d_L_law_1003) ?_
              exact xa_weak (ls' := [some (xR (-2)), some (xR c1), some (xR c2), some (xI (w32 (v3 + 6)))]) ⟨rfl, rfl, rfl, rfl, trivial⟩ (hb (w32 (v3 + 6)) h)
            · refine xa_step (xa_iconst d_L_law_300 xq_i_0) ?_
              exact xa_zret d_L_law_301 rfl (Or.inl rfl) (hr _)
          · refine xa_case (fun q37 => ?_) (fun q37 => ?_)
            · refine xa_step (xa_tabIn (k := 4) d_L_law_33 q37 (by decide) (by decide) rfl rfl) ?_
              refine xa_step (xa_aload_n d_L_law_302 rfl) ?_
              refine xa_step (xa_aload_n d_L_law_303 rfl) ?_
              refine xa_step (xa_iload_n d_L_law_304 rfl) ?_
              refine xa_step (xa_iconst d_L_law_305 xq_i_1) ?_
              refine xa_step (xa_iadd d_L_law_306) ?_
              refine xa_sald hsc d_L_law_307 (fun x38 _ => ?_)
              refine xa_callVi (as := [xI x38]) (st := []) (M' := mX11_has) (d' := 4) rfl xw_886 xw_887 xw_888 xw_889 xw_161 xh_X11_has rfl ⟨Nat.le_of_ble_eq_true rfl, Nat.le_of_ble_eq_true rfl⟩ (Nat.le_of_ble_eq_true rfl) rfl d_L_law_308 (fun r hr => ct_X11_has l G c1 x38 h r hr) (fun r39 _ => ?_)
              refine xa_step (xa_aload_n d_L_law_311 rfl) ?_
              refine xa_step (xa_aload_n d_L_law_312 rfl) ?_
              refine xa_step (xa_iload_n d_L_law_313 rfl) ?_
              refine xa_step (xa_iconst d_L_law_314 xq_i_1) ?_
              refine xa_step (xa_iadd d_L_law_315) ?_
              refine xa_sald hsc d_L_law_316 (fun x40 _ => ?_)
              refine xa_callVi (as := [xI x40]) (st := [xI r39]) (M' := mX12_has) (d' := 5) rfl xw_1828 xw_1829 xw_1830 xw_1831 xw_177 xh_X12_has rfl ⟨Nat.le_of_ble_eq_true rfl, Nat.le_of_ble_eq_true rfl⟩ (Nat.le_of_ble_eq_true rfl) rfl d_L_law_317 (fun r hr => ct_X12_has l G c2 x40 h r hr) (fun r41 _ => ?_)
              refine xa_if (xa_icmpeq d_L_law_320) (fun q42 => ?_) (fun q42 => ?_)
              · refine xa_step (xa_iinc (ls' := [some (xR (-2)), some (xR c1), some (xR c2), some (xI (w32 (v3 + 6)))]) d_L_law_1000 xq_i_6 rfl (by decide) rfl) ?_
                refine xa_step (xa_goto d_L_law_1003) ?_
                exact xa_weak (ls' := [some (xR (-2)), some (xR c1), some (xR c2), some (xI (w32 (v3 + 6)))]) ⟨rfl, rfl, rfl, rfl, trivial⟩ (hb (w32 (v3 + 6)) h)
              · refine xa_step (xa_iconst d_L_law_323 xq_i_0) ?_
                exact xa_zret d_L_law_324 rfl (Or.inl rfl) (hr _)
            · refine xa_case (fun q43 => ?_) (fun q43 => ?_)
              · refine xa_step (xa_tabIn (k := 5) d_L_law_33 q43 (by decide) (by decide) rfl rfl) ?_
                refine xa_step (xa_aload_n d_L_law_325 rfl) ?_
                refine xa_step (xa_aload_n d_L_law_326 rfl) ?_
                refine xa_step (xa_iload_n d_L_law_327 rfl) ?_
                refine xa_step (xa_iconst d_L_law_328 xq_i_1) ?_
                refine xa_step (xa_iadd d_L_law_329) ?_
                refine xa_sald hsc d_L_law_330 (fun x44 _ => ?_)
                refine xa_step (xa_aload_n d_L_law_331 rfl) ?_
                refine xa_step (xa_iload_n d_L_law_332 rfl) ?_
                refine xa_step (xa_iconst d_L_law_333 xq_i_2) ?_
                refine xa_step (xa_iadd d_L_law_334) ?_
                refine xa_sald hsc d_L_law_335 (fun x45 _ => ?_)
                refine xa_step (xa_aload_n d_L_law_336 rfl) ?_
                refine xa_step (xa_iload_n d_L_law_337 rfl) ?_
                refine xa_step (xa_iconst d_L_law_338 xq_i_3) ?_
                refine xa_step (xa_iadd d_L_law_339) ?_
                refine xa_sald hsc d_L_law_340 (fun x46 _ => ?_)
                refine xa_callVi (as := [xI x44, xI x45, xI x46]) (st := []) (M' := mX11_letter) (d' := 3) rfl xw_910 xw_911 xw_912 xw_913 xw_161 xh_X11_letter rfl ⟨Nat.le_of_ble_eq_true rfl, Nat.le_of_ble_eq_true rfl⟩ (Nat.le_of_ble_eq_true rfl) rfl d_L_law_341 (fun r hr => ct_X11_letter l G c1 x44 x45 x46 h r hr) (fun r47 _ => ?_)
                refine xa_step (xa_aload_n d_L_law_344 rfl) ?_
                refine xa_step (xa_aload_n d_L_law_345 rfl) ?_
                refine xa_step (xa_iload_n d_L_law_346 rfl) ?_
                refine xa_step (xa_iconst d_L_law_347 xq_i_1) ?_
                refine xa_step (xa_iadd d_L_law_348) ?_
                refine xa_sald hsc d_L_law_349 (fun x48 _ => ?_)
                refine xa_step (xa_aload_n d_L_law_350 rfl) ?_
                refine xa_step (xa_iload_n d_L_law_351 rfl) ?_
                refine xa_step (xa_iconst d_L_law_352 xq_i_2) ?_
                refine xa_step (xa_iadd d_L_law_353) ?_
                refine xa_sald hsc d_L_law_354 (fun x49 _ => ?_)
                refine xa_step (xa_aload_n d_L_law_355 rfl) ?_
                refine xa_step (xa_iload_n d_L_law_356 rfl) ?_
                refine xa_step (xa_iconst d_L_law_357 xq_i_3) ?_
                refine xa_step (xa_iadd d_L_law_358) ?_
                refine xa_sald hsc d_L_law_359 (fun x50 _ => ?_)
                refine xa_callVi (as := [xI x48, xI x49, xI x50]) (st := [xI r47]) (M' := mX12_letter) (d' := 3) rfl xw_1860 xw_1861 xw_1862 xw_1863 xw_177 xh_X12_letter rfl ⟨Nat.le_of_ble_eq_true rfl, Nat.le_of_ble_eq_true rfl⟩ (Nat.le_of_ble_eq_true rfl) rfl d_L_law_360 (fun r hr => ct_X12_letter l G c2 x48 x49 x50 h r hr) (fun r51 _ => ?_)
                refine xa_if (xa_icmpeq d_L_law_363) (fun q52 => ?_) (fun q52 => ?_)
                · refine xa_step (xa_iinc (ls' := [some (xR (-2)), some (xR c1), some (xR c2), some (xI (w32 (v3 + 6)))]) d_L_law_1000 xq_i_6 rfl (by decide) rfl) ?_
                  refine xa_step (xa_goto d_L_law_1003) ?_
                  exact xa_weak (ls' := [some (xR (-2)), some (xR c1), some (xR c2), some (xI (w32 (v3 + 6)))]) ⟨rfl, rfl, rfl, rfl, trivial⟩ (hb (w32 (v3 + 6)) h)
                · refine xa_step (xa_iconst d_L_law_366 xq_i_0) ?_
                  exact xa_zret d_L_law_367 rfl (Or.inl rfl) (hr _)
              · refine xa_case (fun q53 => ?_) (fun q53 => ?_)
                · refine xa_step (xa_tabIn (k := 6) d_L_law_33 q53 (by decide) (by decide) rfl rfl) ?_
                  refine xa_step (xa_aload_n d_L_law_368 rfl) ?_
                  refine xa_step (xa_aload_n d_L_law_369 rfl) ?_
                  refine xa_step (xa_iload_n d_L_law_370 rfl) ?_
                  refine xa_step (xa_iconst d_L_law_371 xq_i_1) ?_
                  refine xa_step (xa_iadd d_L_law_372) ?_
                  refine xa_sald hsc d_L_law_373 (fun x54 _ => ?_)
                  refine xa_step (xa_aload_n d_L_law_374 rfl) ?_
                  refine xa_step (xa_iload_n d_L_law_375 rfl) ?_
                  refine xa_step (xa_iconst d_L_law_376 xq_i_2) ?_
                  refine xa_step (xa_iadd d_L_law_377) ?_
                  refine xa_sald hsc d_L_law_378 (fun x55 _ => ?_)
                  refine xa_callVi (as := [xI x54, xI x55]) (st := []) (M' := mX11_held) (d' := 3) rfl xw_925 xw_926 xw_927 xw_928 xw_161 xh_X11_held rfl ⟨Nat.le_of_ble_eq_true rfl, Nat.le_of_ble_eq_true rfl⟩ (Nat.le_of_ble_eq_true rfl) rfl d_L_law_379 (fun r hr => ct_X11_held l G c1 x54 x55 h r hr) (fun r56 _ => ?_)
                  refine xa_step (xa_aload_n d_L_law_382 rfl) ?_
                  refine xa_step (xa_aload_n d_L_law_383 rfl) ?_
                  refine xa_step (xa_iload_n d_L_law_384 rfl) ?_
                  refine xa_step (xa_iconst d_L_law_385 xq_i_1) ?_
                  refine xa_step (xa_iadd d_L_law_386) ?_
                  refine xa_sald hsc d_L_law_387 (fun x57 _ => ?_)
                  refine xa_step (xa_aload_n d_L_law_388 rfl) ?_
                  refine xa_step (xa_iload_n d_L_law_389 rfl) ?_
                  refine xa_step (xa_iconst d_L_law_390 xq_i_2) ?_
                  refine xa_step (xa_iadd d_L_law_391) ?_
                  refine xa_sald hsc d_L_law_392 (fun x58 _ => ?_)
                  refine xa_callVi (as := [xI x57, xI x58]) (st := [xI r56]) (M' := mX12_held) (d' := 4) rfl xw_1865 xw_1866 xw_1867 xw_1868 xw_177 xh_X12_held rfl ⟨Nat.le_of_ble_eq_true rfl, Nat.le_of_ble_eq_true rfl⟩ (Nat.le_of_ble_eq_true rfl) rfl d_L_law_393 (fun r hr => ct_X12_held l G c2 x57 x58 h r hr) (fun r59 _ => ?_)
                  refine xa_if (xa_icmpeq d_L_law_396) (fun q60 => ?_) (fun q60 => ?_)
                  · refine xa_step (xa_iinc (ls' := [some (xR (-2)), some (xR c1), some (xR c2), some (xI (w32 (v3 + 6)))]) d_L_law_1000 xq_i_6 rfl (by decide) rfl) ?_
                    refine xa_step (xa_goto d_L_law_1003) ?_
                    exact xa_weak (ls' := [some (xR (-2)), some (xR c1), some (xR c2), some (xI (w32 (v3 + 6)))]) ⟨rfl, rfl, rfl, rfl, trivial⟩ (hb (w32 (v3 + 6)) h)
                  · refine xa_step (xa_iconst d_L_law_399 xq_i_0) ?_
                    exact xa_zret d_L_law_400 rfl (Or.inl rfl) (hr _)
                · refine xa_case (fun q61 => ?_) (fun q61 => ?_)
                  · refine xa_step (xa_tabIn (k := 7) d_L_law_33 q61 (by decide) (by decide) rfl rfl) ?_
                    refine xa_step (xa_aload_n d_L_law_401 rfl) ?_
                    refine xa_step (xa_aload_n d_L_law_402 rfl) ?_
                    refine xa_step (xa_iload_n d_L_law_403 rfl) ?_
                    refine xa_step (xa_iconst d_L_law_404 xq_i_1) ?_
                    refine xa_step (xa_iadd d_L_law_405) ?_
                    refine xa_sald hsc d_L_law_406 (fun x62 _ => ?_)
                    refine xa_step (xa_aload_n d_L_law_407 rfl) ?_
                    refine xa_step (xa_iload_n d_L_law_408 rfl) ?_
                    refine xa_step (xa_iconst d_L_law_409 xq_i_2) ?_
                    refine xa_step (xa_iadd d_L_law_410) ?_
                    refine xa_sald hsc d_L_law_411 (fun x63 _ => ?_)
                    refine xa_callVi (as := [xI x62, xI x63]) (st := []) (M' := mX11_holder) (d' := 3) rfl xw_934 xw_935 xw_936 xw_937 xw_161 xh_X11_holder rfl ⟨Nat.le_of_ble_eq_true rfl, Nat.le_of_ble_eq_true rfl⟩ (Nat.le_of_ble_eq_true rfl) rfl d_L_law_412 (fun r hr => ct_X11_holder l G c1 x62 x63 h r hr) (fun r64 _ => ?_)
                    refine xa_step (xa_aload_n d_L_law_415 rfl) ?_
                    refine xa_step (xa_aload_n d_L_law_416 rfl) ?_
                    refine xa_step (xa_iload_n d_L_law_417 rfl) ?_
                    refine xa_step (xa_iconst d_L_law_418 xq_i_1) ?_
                    refine xa_step (xa_iadd d_L_law_419) ?_
                    refine xa_sald hsc d_L_law_420 (fun x65 _ => ?_)
                    refine xa_step (xa_aload_n d_L_law_421 rfl) ?_
                    refine xa_step (xa_iload_n d_L_law_422 rfl) ?_
                    refine xa_step (xa_iconst d_L_law_423 xq_i_2) ?_
                    refine xa_step (xa_iadd d_L_law_424) ?_
                    refine xa_sald hsc d_L_law_425 (fun x66 _ => ?_)
                    refine xa_callVi (as := [xI x65, xI x66]) (st := [xI r64]) (M' := mX12_holder) (d' := 4) rfl xw_1885 xw_1886 xw_1887 xw_1888 xw_177 xh_X12_holder rfl ⟨Nat.le_of_ble_eq_true rfl, Nat.le_of_ble_eq_true rfl⟩ (Nat.le_of_ble_eq_true rfl) rfl d_L_law_426 (fun r hr => ct_X12_holder l G c2 x65 x66 h r hr) (fun r67 _ => ?_)
                    refine xa_if (xa_icmpeq d_L_law_429) (fun q68 => ?_) (fun q68 => ?_)
                    · refine xa_step (xa_iinc (ls' := [some (xR (-2)), some (xR c1), some (xR c2), some (xI (w32 (v3 + 6)))]) d_L_law_1000 xq_i_6 rfl (by decide) rfl) ?_
                      refine xa_step (xa_goto d_L_law_1003) ?_
                      exact xa_weak (ls' := [some (xR (-2)), some (xR c1), some (xR c2), some (xI (w32 (v3 + 6)))]) ⟨rfl, rfl, rfl, rfl, trivial⟩ (hb (w32 (v3 + 6)) h)
                    · refine xa_step (xa_iconst d_L_law_432 xq_i_0) ?_
                      exact xa_zret d_L_law_433 rfl (Or.inl rfl) (hr _)
                  · refine xa_case (fun q69 => ?_) (fun q69 => ?_)
                    · refine xa_step (xa_tabIn (k := 8) d_L_law_33 q69 (by decide) (by decide) rfl rfl) ?_
                      refine xa_step (xa_aload_n d_L_law_434 rfl) ?_
                      refine xa_step (xa_aload_n d_L_law_435 rfl) ?_
                      refine xa_step (xa_iload_n d_L_law_436 rfl) ?_
                      refine xa_step (xa_iconst d_L_law_437 xq_i_1) ?_
                      refine xa_step (xa_iadd d_L_law_438) ?_
                      refine xa_sald hsc d_L_law_439 (fun x70 _ => ?_)
                      refine xa_step (xa_aload_n d_L_law_440 rfl) ?_
                      refine xa_step (xa_iload_n d_L_law_441 rfl) ?_
                      refine xa_step (xa_iconst d_L_law_442 xq_i_2) ?_
                      refine xa_step (xa_iadd d_L_law_443) ?_
                      refine xa_sald hsc d_L_law_444 (fun x71 _ => ?_)
                      refine xa_callVi (as := [xI x70, xI x71]) (st := []) (M' := mX11_values) (d' := 3) rfl xw_938 xw_939 xw_940 xw_941 xw_161 xh_X11_values rfl ⟨Nat.le_of_ble_eq_true rfl, Nat.le_of_ble_eq_true rfl⟩ (Nat.le_of_ble_eq_true rfl) rfl d_L_law_445 (fun r hr => ct_X11_values l G c1 x70 x71 h r hr) (fun r72 _ => ?_)
                      refine xa_step (xa_aload_n d_L_law_448 rfl) ?_
                      refine xa_step (xa_aload_n d_L_law_449 rfl) ?_
                      refine xa_step (xa_iload_n d_L_law_450 rfl) ?_
                      refine xa_step (xa_iconst d_L_law_451 xq_i_1) ?_
                      refine xa_step (xa_iadd d_L_law_452) ?_
                      refine xa_sald hsc d_L_law_453 (fun x73 _ => ?_)
                      refine xa_step (xa_aload_n d_L_law_454 rfl) ?_
                      refine xa_step (xa_iload_n d_L_law_455 rfl) ?_
                      refine xa_step (xa_iconst d_L_law_456 xq_i_2) ?_
                      refine xa_step (xa_iadd d_L_law_457) ?_
                      refine xa_sald hsc d_L_law_458 (fun x74 _ => ?_)
                      refine xa_callVi (as := [xI x73, xI x74]) (st := [xI r72]) (M' := mX12_values) (d' := 4) rfl xw_1893 xw_1894 xw_1895 xw_1896 xw_177 xh_X12_values rfl ⟨Nat.le_of_ble_eq_true rfl, Nat.le_of_ble_eq_true rfl⟩ (Nat.le_of_ble_eq_true rfl) rfl d_L_law_459 (fun r hr => ct_X12_values l G c2 x73 x74 h r hr) (fun r75 _ => ?_)
                      refine xa_if (xa_icmpeq d_L_law_462) (fun q76 => ?_) (fun q76 => ?_)
                      · refine xa_step (xa_iinc (ls' := [some (xR (-2)), some (xR c1), some (xR c2), some (xI (w32 (v3 + 6)))]) d_L_law_1000 xq_i_6 rfl (by decide) rfl) ?_
                        refine xa_step (xa_goto d_L_law_1003) ?_
                        exact xa_weak (ls' := [some (xR (-2)), some (xR c1), some (xR c2), some (xI (w32 (v3 + 6)))]) ⟨rfl, rfl, rfl, rfl, trivial⟩ (hb (w32 (v3 + 6)) h)
                      · refine xa_step (xa_iconst d_L_law_465 xq_i_0) ?_
                        exact xa_zret d_L_law_466 rfl (Or.inl rfl) (hr _)
                    · refine xa_case (fun q77 => ?_) (fun q77 => ?_)
                      · refine xa_step (xa_tabIn (k := 9) d_L_law_33 q77 (by decide) (by decide) rfl rfl) ?_
                        refine xa_step (xa_aload_n d_L_law_467 rfl) ?_
                        refine xa_step (xa_aload_n d_L_law_468 rfl) ?_
                        refine xa_step (xa_iload_n d_L_law_469 rfl) ?_
                        refine xa_step (xa_iconst d_L_law_470 xq_i_1) ?_
                        refine xa_step (xa_iadd d_L_law_471) ?_
                        refine xa_sald hsc d_L_law_472 (fun x78 _ => ?_)
                        refine xa_step (xa_aload_n d_L_law_473 rfl) ?_
                        refine xa_step (xa_iload_n d_L_law_474 rfl) ?_
                        refine xa_step (xa_iconst d_L_law_475 xq_i_2) ?_
                        refine xa_step (xa_iadd d_L_law_476) ?_
                        refine xa_sald hsc d_L_law_477 (fun x79 _ => ?_)
                        refine xa_callVi (as := [xI x78, xI x79]) (st := []) (M' := mX11_met) (d' := 3) rfl xw_942 xw_943 xw_944 xw_945 xw_161 xh_X11_met rfl ⟨Nat.le_of_ble_eq_true rfl, Nat.le_of_ble_eq_true rfl⟩ (Nat.le_of_ble_eq_true rfl) rfl d_L_law_478 (fun r hr => ct_X11_met l G c1 x78 x79 h r hr) (fun r80 _ => ?_)
                        refine xa_step (xa_aload_n d_L_law_481 rfl) ?_
                        refine xa_step (xa_aload_n d_L_law_482 rfl) ?_
                        refine xa_step (xa_iload_n d_L_law_483 rfl) ?_
                        refine xa_step (xa_iconst d_L_law_484 xq_i_1) ?_
                        refine xa_step (xa_iadd d_L_law_485) ?_
                        refine xa_sald hsc d_L_law_486 (fun x81 _ => ?_)
                        refine xa_step (xa_aload_n d_L_law_487 rfl) ?_
                        refine xa_step (xa_iload_n d_L_law_488 rfl) ?_
                        refine xa_step (xa_iconst d_L_law_489 xq_i_2) ?_
                        refine xa_step (xa_iadd d_L_law_490) ?_
                        refine xa_sald hsc d_L_law_491 (fun x82 _ => ?_)
                        refine xa_callVi (as := [xI x81, xI x82]) (st := [xI r80]) (M' := mX12_met) (d' := 4) rfl xw_1897 xw_1898 xw_1899 xw_1900 xw_177 xh_X12_met rfl ⟨Nat.le_of_ble_eq_true rfl, Nat.le_of_ble_eq_true rfl⟩ (Nat.le_of_ble_eq_true rfl) rfl d_L_law_492 (fun r hr => ct_X12_met l G c2 x81 x82 h r hr) (fun r83 _ => ?_)
                        refine xa_if (xa_icmpeq d_L_law_495) (fun q84 => ?_) (fun q84 => ?_)
                        · refine xa_step (xa_iinc (ls' := [some (xR (-2)), some (xR c1), some (xR c2), some (xI (w32 (v3 + 6)))]) d_L_law_1000 xq_i_6 rfl (by decide) rfl) ?_
                          refine xa_step (xa_goto d_L_law_1003) ?_
                          exact xa_weak (ls' := [some (xR (-2)), some (xR c1), some (xR c2), some (xI (w32 (v3 + 6)))]) ⟨rfl, rfl, rfl, rfl, trivial⟩ (hb (w32 (v3 + 6)) h)
                        · refine xa_step (xa_iconst d_L_law_498 xq_i_0) ?_
                          exact xa_zret d_L_law_499 rfl (Or.inl rfl) (hr _)
                      · refine xa_case (fun q85 => ?_) (fun q85 => ?_)
                        · refine xa_step (xa_tabIn (k := 10) d_L_law_33 q85 (by decide) (by decide) rfl rfl) ?_
                          refine xa_step (xa_aload_n d_L_law_500 rfl) ?_
                          refine xa_step (xa_aload_n d_L_law_501 rfl) ?_
                          refine xa_step (xa_iload_n d_L_law_502 rfl) ?_
                          refine xa_step (xa_iconst d_L_law_503 xq_i_1) ?_
                          refine xa_step (xa_iadd d_L_law_504) ?_
                          refine xa_sald hsc d_L_law_505 (fun x86 _ => ?_)
                          refine xa_step (xa_aload_n d_L_law_506 rfl) ?_
                          refine xa_step (xa_iload_n d_L_law_507 rfl) ?_
                          refine xa_step (xa_iconst d_L_law_508 xq_i_2) ?_
                          refine xa_step (xa_iadd d_L_law_509) ?_
                          refine xa_sald hsc d_L_law_510 (fun x87 _ => ?_)
                          refine xa_callVi (as := [xI x86, xI x87]) (st := []) (M' := mX11_kept) (d' := 2) rfl xw_946 xw_947 xw_948 xw_949 xw_161 xh_X11_kept rfl ⟨Nat.le_of_ble_eq_true rfl, Nat.le_of_ble_eq_true rfl⟩ (Nat.le_of_ble_eq_true rfl) rfl d_L_law_511 (fun r hr => ct_X11_kept l G c1 x86 x87 h r hr) (fun r88 _ => ?_)
                          refine xa_step (xa_aload_n d_L_law_514 rfl) ?_
                          refine xa_step (xa_aload_n d_L_law_515 rfl) ?_
                          refine xa_step (xa_iload_n d_L_law_516 rfl) ?_
                          refine xa_step (xa_iconst d_L_law_517 xq_i_1) ?_
                          refine xa_step (xa_iadd d_L_law_518) ?_
                          refine xa_sald hsc d_L_law_519 (fun x89 _ => ?_)
                          refine xa_step (xa_aload_n d_L_law_520 rfl) ?_
                          refine xa_step (xa_iload_n d_L_law_521 rfl) ?_
                          refine xa_step (xa_iconst d_L_law_522 xq_i_2) ?_
                          refine xa_step (xa_iadd d_L_law_523) ?_
                          refine xa_sald hsc d_L_law_524 (fun x90 _ => ?_)
                          refine xa_callVi (as := [xI x89, xI x90]) (st := [xI r88]) (M' := mX12_kept) (d' := 3) rfl xw_1905 xw_1906 xw_1907 xw_1908 xw_177 xh_X12_kept rfl ⟨Nat.le_of_ble_eq_true rfl, Nat.le_of_ble_eq_true rfl⟩ (Nat.le_of_ble_eq_true rfl) rfl d_L_law_525 (fun r hr => ct_X12_kept l G c2 x89 x90 h r hr) (fun r91 _ => ?_)
                          refine xa_if (xa_icmpeq d_L_law_528) (fun q92 => ?_) (fun q92 => ?_)
                          · refine xa_step (xa_iinc (ls' := [some (xR (-2)), some (xR c1), some (xR c2), some (xI (w32 (v3 + 6)))]) d_L_law_1000 xq_i_6 rfl (by decide) rfl) ?_
                            refine xa_step (xa_goto d_L_law_1003) ?_
                            exact xa_weak (ls' := [some (xR (-2)), some (xR c1), some (xR c2), some (xI (w32 (v3 + 6)))]) ⟨rfl, rfl, rfl, rfl, trivial⟩ (hb (w32 (v3 + 6)) h)
                          · refine xa_step (xa_iconst d_L_law_531 xq_i_0) ?_
                            exact xa_zret d_L_law_532 rfl (Or.inl rfl) (hr _)
                        · refine xa_case (fun q93 => ?_) (fun q93 => ?_)
                          · refine xa_step (xa_tabIn (k := 11) d_L_law_33 q93 (by decide) (by decide) rfl rfl) ?_
                            refine xa_step (xa_aload_n d_L_law_533 rfl) ?_
                            refine xa_callVI (as := []) (st := []) (M' := mX11_judge) (d' := 6) rfl xw_950 xw_951 xw_952 xw_953 xw_161 xh_X11_judge rfl ⟨Nat.le_of_ble_eq_true rfl, Nat.le_of_ble_eq_true rfl⟩ (Nat.le_of_ble_eq_true rfl) rfl d_L_law_534 (fun r hr => ct_X11_judge l G c1 h r hr) (fun r94 _ => ?_)
                            refine xa_step (xa_aload_n d_L_law_537 rfl) ?_
                            refine xa_callVI (as := []) (st := [xI r94.1]) (M' := mX12_judge) (d' := 7) rfl xw_1910 xw_1911 xw_1912 xw_1913 xw_177 xh_X12_judge rfl ⟨Nat.le_of_ble_eq_true rfl, Nat.le_of_ble_eq_true rfl⟩ (Nat.le_of_ble_eq_true rfl) rfl d_L_law_538 (fun r hr => ct_X12_judge l G c2 r94.2 r hr) (fun r95 _ => ?_)
                            refine xa_if (xa_icmpeq d_L_law_541) (fun q96 => ?_) (fun q96 => ?_)
                            · refine xa_step (xa_iinc (ls' := [some (xR (-2)), some (xR c1), some (xR c2), some (xI (w32 (v3 + 6)))]) d_L_law_1000 xq_i_6 rfl (by decide) rfl) ?_
                              refine xa_step (xa_goto d_L_law_1003) ?_
                              exact xa_weak (ls' := [some (xR (-2)), some (xR c1), some (xR c2), some (xI (w32 (v3 + 6)))]) ⟨rfl, rfl, rfl, rfl, trivial⟩ (hb (w32 (v3 + 6)) r95.2)
                            · refine xa_step (xa_iconst d_L_law_544 xq_i_0) ?_
                              exact xa_zret d_L_law_545 rfl (Or.inl rfl) (hr _)
                          · refine xa_case (fun q97 => ?_) (fun q97 => ?_)
                            · refine xa_step (xa_tabIn (k := 12) d_L_law_33 q97 (by decide) (by decide) rfl rfl) ?_
                              refine xa_step (xa_aload_n d_L_law_546 rfl) ?_
                              refine xa_step (xa_aload_n d_L_law_547 rfl) ?_
                              refine xa_step (xa_iload_n d_L_law_548 rfl) ?_
                              refine xa_step (xa_iconst d_L_law_549 xq_i_1) ?_
                              refine xa_step (xa_iadd d_L_law_550) ?_
                              refine xa_sald hsc d_L_law_551 (fun x98 _ => ?_)
                              refine xa_callVi (as := [xI x98]) (st := []) (M' := mX11_judged) (d' := 3) rfl xw_1014 xw_1015 xw_1016 xw_1017 xw_161 xh_X11_judged rfl ⟨Nat.le_of_ble_eq_true rfl, Nat.le_of_ble_eq_true rfl⟩ (Nat.le_of_ble_eq_true rfl) rfl d_L_law_552 (fun r hr => ct_X11_judged l G c1 x98 h r hr) (fun r99 _ => ?_)
                              refine xa_step (xa_aload_n d_L_law_555 rfl) ?_
                              refine xa_step (xa_aload_n d_L_law_556 rfl) ?_
                              refine xa_step (xa_iload_n d_L_law_557 rfl) ?_
                              refine xa_step (xa_iconst d_L_law_558 xq_i_1) ?_
                              refine xa_step (xa_iadd d_L_law_559) ?_
                              refine xa_sald hsc d_L_law_560 (fun x100 _ => ?_)
                              refine xa_callVi (as := [xI x100]) (st := [xI r99]) (M' := mX12_judged) (d' := 2) rfl xw_1977 xw_1978 xw_1979 xw_1980 xw_177 xh_X12_judged rfl ⟨Nat.le_of_ble_eq_true rfl, Nat.le_of_ble_eq_true rfl⟩ (Nat.le_of_ble_eq_true rfl) rfl d_L_law_561 (fun r hr => ct_X12_judged l G c2 x100 h r hr) (fun r101 _ => ?_)
                              refine xa_if (xa_icmpeq d_L_law_564) (fun q102 => ?_) (fun q102 => ?_)
                              · refine xa_step (xa_iinc (ls' := [some (xR (-2)), some (xR c1), some (xR c2), some (xI (w32 (v3 + 6)))]) d_L_law_1000 xq_i_6 rfl (by decide) rfl) ?_
                                refine xa_step (xa_goto d_L_law_1003) ?_
                                exact xa_weak (ls' := [some (xR (-2)), some (xR c1), some (xR c2), some (xI (w32 (v3 + 6)))]) ⟨rfl, rfl, rfl, rfl, trivial⟩ (hb (w32 (v3 + 6)) h)
                              · refine xa_step (xa_iconst d_L_law_567 xq_i_0) ?_
                                exact xa_zret d_L_law_568 rfl (Or.inl rfl) (hr _)
                            · refine xa_case (fun q103 => ?_) (fun q103 => ?_)
                              · refine xa_step (xa_tabIn (k := 13) d_L_law_33 q103 (by decide) (by decide) rfl rfl) ?_
                                refine xa_step (xa_aload_n d_L_law_569 rfl) ?_
                                refine xa_step (xa_aload_n d_L_law_570 rfl) ?_
                                refine xa_step (xa_iload_n d_L_law_571 rfl) ?_
                                refine xa_step (xa_iconst d_L_law_572 xq_i_1) ?_
                                refine xa_step (xa_iadd d_L_law_573) ?_
                                refine xa_sald hsc d_L_law_574 (fun x104 _ => ?_)
                                refine xa_callVI (as := [xI x104]) (st := []) (M' := mX11_needed) (d' := 4) rfl xw_1022 xw_1023 xw_1024 xw_1025 xw_161 xh_X11_needed rfl ⟨Nat.le_of_ble_eq_true rfl, Nat.le_of_ble_eq_true rfl⟩ (Nat.le_of_ble_eq_true rfl) rfl d_L_law_575 (fun r hr => ct_X11_needed l G c1 x104 h r hr) (fun r105 _ => ?_)
                                refine xa_step (xa_aload_n d_L_law_578 rfl) ?_
                                refine xa_step (xa_aload_n d_L_law_579 rfl) ?_
                                refine xa_step (xa_iload_n d_L_law_580 rfl) ?_
                                refine xa_step (xa_iconst d_L_law_581 xq_i_1) ?_
                                refine xa_step (xa_iadd d_L_law_582) ?_
                                refine xa_sald hsc d_L_law_583 (fun x106 _ => ?_)
                                refine xa_callVi (as := [xI x106]) (st := [xI r105.1]) (M' := mX12_needed) (d' := 5) rfl xw_1981 xw_1982 xw_1983 xw_1984 xw_177 xh_X12_needed rfl ⟨Nat.le_of_ble_eq_true rfl, Nat.le_of_ble_eq_true rfl⟩ (Nat.le_of_ble_eq_true rfl) rfl d_L_law_584 (fun r hr => ct_X12_needed l G c2 x106 r105.2 r hr) (fun r107 _ => ?_)
                                refine xa_if (xa_icmpeq d_L_law_587) (fun q108 => ?_) (fun q108 => ?_)
                                · refine xa_step (xa_iinc (ls' := [some (xR (-2)), some (xR c1), some (xR c2), some (xI (w32 (v3 + 6)))]) d_L_law_1000 xq_i_6 rfl (by decide) rfl) ?_
                                  refine xa_step (xa_goto d_L_law_1003) ?_
                                  exact xa_weak (ls' := [some (xR (-2)), some (xR c1), some (xR c2), some (xI (w32 (v3 + 6)))]) ⟨rfl, rfl, rfl, rfl, trivial⟩ (hb (w32 (v3 + 6)) r105.2)
                                · refine xa_step (xa_iconst d_L_law_590 xq_i_0) ?_
                                  exact xa_zret d_L_law_591 rfl (Or.inl rfl) (hr _)
                              · refine xa_case (fun q109 => ?_) (fun q109 => ?_)
                                · refine xa_step (xa_tabIn (k := 14) d_L_law_33 q109 (by decide) (by decide) rfl rfl) ?_
                                  refine xa_step (xa_aload_n d_L_law_592 rfl) ?_
                                  refine xa_step (xa_aload_n d_L_law_593 rfl) ?_
                                  refine xa_step (xa_iload_n d_L_law_594 rfl) ?_
                                  refine xa_step (xa_iconst d_L_law_595 xq_i_1) ?_
                                  refine xa_step (xa_iadd d_L_law_596) ?_
                                  refine xa_sald hsc d_L_law_597 (fun x110 _ => ?_)
                                  refine xa_callVI (as := [xI x110]) (st := []) (M' := mX11_meetings) (d' := 7) rfl xw_1030 xw_1031 xw_1032 xw_1033 xw_161 xh_X11_meetings rfl ⟨Nat.le_of_ble_eq_true rfl, Nat.le_of_ble_eq_true rfl⟩ (Nat.le_of_ble_eq_true rfl) rfl d_L_law_598 (fun r hr => ct_X11_meetings l G c1 x110 h r hr) (fun r111 _ => ?_)
                                  refine xa_step (xa_aload_n d_L_law_601 rfl) ?_
                                  refine xa_step (xa_aload_n d_L_law_602 rfl) ?_
                                  refine xa_step (xa_iload_n d_L_law_603 rfl) ?_
                                  refine xa_step (xa_iconst d_L_law_604 xq_i_1) ?_
                                  refine xa_step (xa_iadd d_L_law_605) ?_
                                  refine xa_sald hsc d_L_law_606 (fun x112 _ => ?_)
                                  refine xa_callVI (as := [xI x112]) (st := [xI r111.1]) (M' := mX12_meetings) (d' := 7) rfl xw_1989 xw_1990 xw_1991 xw_1992 xw_177 xh_X12_meetings rfl ⟨Nat.le_of_ble_eq_true rfl, Nat.le_of_ble_eq_true rfl⟩ (Nat.le_of_ble_eq_true rfl) rfl d_L_law_607 (fun r hr => ct_X12_meetings l G c2 x112 r111.2 r hr) (fun r113 _ => ?_)
                                  refine xa_if (xa_icmpeq d_L_law_610) (fun q114 => ?_) (fun q114 => ?_)
                                  · refine xa_step (xa_iinc (ls' := [some (xR (-2)), some (xR c1), some (xR c2), some (xI (w32 (v3 + 6)))]) d_L_law_1000 xq_i_6 rfl (by decide) rfl) ?_
                                    refine xa_step (xa_goto d_L_law_1003) ?_
                                    exact xa_weak (ls' := [some (xR (-2)), some (xR c1), some (xR c2), some (xI (w32 (v3 + 6)))]) ⟨rfl, rfl, rfl, rfl, trivial⟩ (hb (w32 (v3 + 6)) r113.2)
                                  · refine xa_step (xa_iconst d_L_law_613 xq_i_0) ?_
                                    exact xa_zret d_L_law_614 rfl (Or.inl rfl) (hr _)
                                · refine xa_case (fun q115 => ?_) (fun q115 => ?_)
                                  · refine xa_step (xa_tabIn (k := 15) d_L_law_33 q115 (by decide) (by decide) rfl rfl) ?_
                                    refine xa_step (xa_aload_n d_L_law_615 rfl) ?_
                                    refine xa_step (xa_aload_n d_L_law_616 rfl) ?_
                                    refine xa_step (xa_iload_n d_L_law_617 rfl) ?_
                                    refine xa_step (xa_iconst d_L_law_618 xq_i_1) ?_
                                    refine xa_step (xa_iadd d_L_law_619) ?_
                                    refine xa_sald hsc d_L_law_620 (fun x116 _ => ?_)
                                    refine xa_step (xa_aload_n d_L_law_621 rfl) ?_
                                    refine xa_step (xa_iload_n d_L_law_622 rfl) ?_
                                    refine xa_step (xa_iconst d_L_law_623 xq_i_2) ?_
                                    refine xa_step (xa_iadd d_L_law_624) ?_
                                    refine xa_sald hsc d_L_law_625 (fun x117 _ => ?_)
                                    refine xa_callVi (as := [xI x116, xI x117]) (st := []) (M' := mX11_gain) (d' := 4) rfl xw_1096 xw_1097 xw_1098 xw_1099 xw_161 xh_X11_gain rfl ⟨Nat.le_of_ble_eq_true rfl, Nat.le_of_ble_eq_true rfl⟩ (Nat.le_of_ble_eq_true rfl) rfl d_L_law_626 (fun r hr => ct_X11_gain l G c1 x116 x117 h r hr) (fun r118 _ => ?_)
                                    refine xa_step (xa_aload_n d_L_law_629 rfl) ?_
                                    refine xa_step (xa_aload_n d_L_law_630 rfl) ?_
                                    refine xa_step (xa_iload_n d_L_law_631 rfl) ?_
                                    refine xa_step (xa_iconst d_L_law_632 xq_i_1) ?_
                                    refine xa_step (xa_iadd d_L_law_633) ?_
                                    refine xa_sald hsc d_L_law_634 (fun x119 _ => ?_)
                                    refine xa_step (xa_aload_n d_L_law_635 rfl) ?_
                                    refine xa_step (xa_iload_n d_L_law_636 rfl) ?_
                                    refine xa_step (xa_iconst d_L_law_637 xq_i_2) ?_
                                    refine xa_step (xa_iadd d_L_law_638) ?_
                                    refine xa_sald hsc d_L_law_639 (fun x120 _ => ?_)
                                    refine xa_callVi (as := [xI x119, xI x120]) (st := [xI r118]) (M' := mX12_gain) (d' := 4) rfl xw_2017 xw_2018 xw_2019 xw_2020 xw_177 xh_X12_gain rfl ⟨Nat.le_of_ble_eq_true rfl, Nat.le_of_ble_eq_true rfl⟩ (Nat.le_of_ble_eq_true rfl) rfl d_L_law_640 (fun r hr => ct_X12_gain l G c2 x119 x120 h r hr) (fun r121 _ => ?_)
                                    refine xa_if (xa_icmpeq d_L_law_643) (fun q122 => ?_) (fun q122 => ?_)
                                    · refine xa_step (xa_iinc (ls' := [some (xR (-2)), some (xR c1), some (xR c2), some (xI (w32 (v3 + 6)))]) d_L_law_1000 xq_i_6 rfl (by decide) rfl) ?_
                                      refine xa_step (xa_goto d_L_law_1003) ?_
                                      exact xa_weak (ls' := [some (xR (-2)), some (xR c1), some (xR c2), some (xI (w32 (v3 + 6)))]) ⟨rfl, rfl, rfl, rfl, trivial⟩ (hb (w32 (v3 + 6)) h)
                                    · refine xa_step (xa_iconst d_L_law_646 xq_i_0) ?_
                                      exact xa_zret d_L_law_647 rfl (Or.inl rfl) (hr _)
                                  · refine xa_case (fun q123 => ?_) (fun q123 => ?_)
                                    · refine xa_step (xa_tabIn (k := 16) d_L_law_33 q123 (by decide) (by decide) rfl rfl) ?_
                                      refine xa_step (xa_aload_n d_L_law_648 rfl) ?_
                                      refine xa_step (xa_aload_n d_L_law_649 rfl) ?_
                                      refine xa_step (xa_iload_n d_L_law_650 rfl) ?_
                                      refine xa_step (xa_iconst d_L_law_651 xq_i_1) ?_
                                      refine xa_step (xa_iadd d_L_law_652) ?_
                                      refine xa_sald hsc d_L_law_653 (fun x124 _ => ?_)
                                      refine xa_step (xa_aload_n d_L_law_654 rfl) ?_
                                      refine xa_step (xa_iload_n d_L_law_655 rfl) ?_
                                      refine xa_step (xa_iconst d_L_law_656 xq_i_2) ?_
                                      refine xa_step (xa_iadd d_L_law_657) ?_
                                      refine xa_sald hsc d_L_law_658 (fun x125 _ => ?_)
                                      refine xa_callVI (as := [xI x124, xI x125]) (st := []) (M' := mX11_trade) (d' := 5) rfl xw_1106 xw_1107 xw_1108 xw_1109 xw_161 xh_X11_trade rfl ⟨Nat.le_of_ble_eq_true rfl, Nat.le_of_ble_eq_true rfl⟩ (Nat.le_of_ble_eq_true rfl) rfl d_L_law_659 (fun r hr => ct_X11_trade l G c1 x124 x125 h r hr) (fun r126 _ => ?_)
                                      refine xa_step (xa_aload_n d_L_law_662 rfl) ?_
                                      refine xa_step (xa_aload_n d_L_law_663 rfl) ?_
                                      refine xa_step (xa_iload_n d_L_law_664 rfl) ?_
                                      refine xa_step (xa_iconst d_L_law_665 xq_i_1) ?_
                                      refine xa_step (xa_iadd d_L_law_666) ?_
                                      refine xa_sald hsc d_L_law_667 (fun x127 _ => ?_)
                                      refine xa_step (xa_aload_n d_L_law_668 rfl) ?_
                                      refine xa_step (xa_iload_n d_L_law_669 rfl) ?_
                                      refine xa_step (xa_iconst d_L_law_670 xq_i_2) ?_
                                      refine xa_step (xa_iadd d_L_law_671) ?_
                                      refine xa_sald hsc d_L_law_672 (fun x128 _ => ?_)
                                      refine xa_callVI (as := [xI x127, xI x128]) (st := [xI r126.1]) (M' := mX12_trade) (d' := 6) rfl xw_2028 xw_2029 xw_2030 xw_2031 xw_177 xh_X12_trade rfl ⟨Nat.le_of_ble_eq_true rfl, Nat.le_of_ble_eq_true rfl⟩ (Nat.le_of_ble_eq_true rfl) rfl d_L_law_673 (fun r hr => ct_X12_trade l G c2 x127 x128 r126.2 r hr) (fun r129 _ => ?_)
                                      refine xa_if (xa_icmpeq d_L_law_676) (fun q130 => ?_) (fun q130 => ?_)
                                      · refine xa_step (xa_iinc (ls' := [some (xR (-2)), some (xR c1), some (xR c2), some (xI (w32 (v3 + 6)))]) d_L_law_1000 xq_i_6 rfl (by decide) rfl) ?_
                                        refine xa_step (xa_goto d_L_law_1003) ?_
                                        exact xa_weak (ls' := [some (xR (-2)), some (xR c1), some (xR c2), some (xI (w32 (v3 + 6)))]) ⟨rfl, rfl, rfl, rfl, trivial⟩ (hb (w32 (v3 + 6)) r129.2)
                                      · refine xa_step (xa_iconst d_L_law_679 xq_i_0) ?_
                                        exact xa_zret d_L_law_680 rfl (Or.inl rfl) (hr _)
                                    · refine xa_case (fun q131 => ?_) (fun q131 => ?_)
                                      · refine xa_step (xa_tabIn (k := 17) d_L_law_33 q131 (by decide) (by decide) rfl rfl) ?_
                                        refine xa_step (xa_aload_n d_L_law_681 rfl) ?_
                                        refine xa_step (xa_aload_n d_L_law_682 rfl) ?_
                                        refine xa_step (xa_iload_n d_L_law_683 rfl) ?_
                                        refine xa_step (xa_iconst d_L_law_684 xq_i_1) ?_
                                        refine xa_step (xa_iadd d_L_law_685) ?_
                                        refine xa_sald hsc d_L_law_686 (fun x132 _ => ?_)
                                        refine xa_callVi (as := [xI x132]) (st := []) (M' := mX11_together) (d' := 4) rfl xw_1124 xw_1125 xw_1126 xw_1127 xw_161 xh_X11_together rfl ⟨Nat.le_of_ble_eq_true rfl, Nat.le_of_ble_eq_true rfl⟩ (Nat.le_of_ble_eq_true rfl) rfl d_L_law_687 (fun r hr => ct_X11_together l G c1 x132 h r hr) (fun r133 _ => ?_)
                                        refine xa_step (xa_aload_n d_L_law_690 rfl) ?_
                                        refine xa_step (xa_aload_n d_L_law_691 rfl) ?_
                                        refine xa_step (xa_iload_n d_L_law_692 rfl) ?_
                                        refine xa_step (xa_iconst d_L_law_693 xq_i_1) ?_
                                        refine xa_step (xa_iadd d_L_law_694) ?_
                                        refine xa_sald hsc d_L_law_695 (fun x134 _ => ?_)
                                        refine xa_callVi (as := [xI x134]) (st := [xI r133]) (M' := mX12_together) (d' := 4) rfl xw_2044 xw_2045 xw_2046 xw_2047 xw_177 xh_X12_together rfl ⟨Nat.le_of_ble_eq_true rfl, Nat.le_of_ble_eq_true rfl⟩ (Nat.le_of_ble_eq_true rfl) rfl d_L_law_696 (fun r hr => ct_X12_together l G c2 x134 h r hr) (fun r135 _ => ?_)
                                        refine xa_if (xa_icmpeq d_L_law_699) (fun q136 => ?_) (fun q136 => ?_)
                                        · refine xa_step (xa_iinc (ls' := [some (xR (-2)), some (xR c1), some (xR c2), some (xI (w32 (v3 + 6)))]) d_L_law_1000 xq_i_6 rfl (by decide) rfl) ?_
                                          refine xa_step (xa_goto d_L_law_1003) ?_
                                          exact xa_weak (ls' := [some (xR (-2)), some (xR c1), some (xR c2), some (xI (w32 (v3 + 6)))]) ⟨rfl, rfl, rfl, rfl, trivial⟩ (hb (w32 (v3 + 6)) h)
                                        · refine xa_step (xa_iconst d_L_law_702 xq_i_0) ?_
                                          exact xa_zret d_L_law_703 rfl (Or.inl rfl) (hr _)
                                      · refine xa_case (fun q137 => ?_) (fun q137 => ?_)
                                        · refine xa_step (xa_tabIn (k := 18) d_L_law_33 q137 (by decide) (by decide) rfl rfl) ?_
                                          refine xa_step (xa_aload_n d_L_law_704 rfl) ?_
                                          refine xa_step (xa_aload_n d_L_law_705 rfl) ?_
                                          refine xa_step (xa_iload_n d_L_law_706 rfl) ?_
                                          refine xa_step (xa_iconst d_L_law_707 xq_i_1) ?_
                                          refine xa_step (xa_iadd d_L_law_708) ?_
                                          refine xa_sald hsc d_L_law_709 (fun x138 _ => ?_)
                                          refine xa_callVi (as := [xI x138]) (st := []) (M' := mX11_clear) (d' := 2) rfl xw_1132 xw_1133 xw_1134 xw_1135 xw_161 xh_X11_clear rfl ⟨Nat.le_of_ble_eq_true rfl, Nat.le_of_ble_eq_true rfl⟩ (Nat.le_of_ble_eq_true rfl) rfl d_L_law_710 (fun r hr => ct_X11_clear l G c1 x138 h r hr) (fun r139 _ => ?_)
                                          refine xa_step (xa_aload_n d_L_law_713 rfl) ?_
                                          refine xa_step (xa_aload_n d_L_law_714 rfl) ?_
                                          refine xa_step (xa_iload_n d_L_law_715 rfl) ?_
                                          refine xa_step (xa_iconst d_L_law_716 xq_i_1) ?_
                                          refine xa_step (xa_iadd d_L_law_717) ?_
                                          refine xa_sald hsc d_L_law_718 (fun x140 _ => ?_)
                                          refine xa_callVi (as := [xI x140]) (st := [xI r139]) (M' := mX12_clear) (d' := 3) rfl xw_2052 xw_2053 xw_2054 xw_2055 xw_177 xh_X12_clear rfl ⟨Nat.le_of_ble_eq_true rfl, Nat.le_of_ble_eq_true rfl⟩ (Nat.le_of_ble_eq_true rfl) rfl d_L_law_719 (fun r hr => ct_X12_clear l G c2 x140 h r hr) (fun r141 _ => ?_)
                                          refine xa_if (xa_icmpeq d_L_law_722) (fun q142 => ?_) (fun q142 => ?_)
                                          · refine xa_step (xa_iinc (ls' := [some (xR (-2)), some (xR c1), some (xR c2), some (xI (w32 (v3 + 6)))]) d_L_law_1000 xq_i_6 rfl (by decide) rfl) ?_
                                            refine xa_step (xa_goto d_L_law_1003) ?_
                                            exact xa_weak (ls' := [some (xR (-2)), some (xR c1), some (xR c2), some (xI (w32 (v3 + 6)))]) ⟨rfl, rfl, rfl, rfl, trivial⟩ (hb (w32 (v3 + 6)) h)
                                          · refine xa_step (xa_iconst d_L_law_725 xq_i_0) ?_
                                            exact xa_zret d_L_law_726 rfl (Or.inl rfl) (hr _)
                                        · refine xa_case (fun q143 => ?_) (fun q143 => ?_)
                                          · refine xa_step (xa_tabIn (k := 19) d_L_law_33 q143 (by decide) (by decide) rfl rfl) ?_
                                            refine xa_step (xa_aload_n d_L_law_727 rfl) ?_
                                            refine xa_step (xa_aload_n d_L_law_728 rfl) ?_
                                            refine xa_step (xa_iload_n d_L_law_729 rfl) ?_
                                            refine xa_step (xa_iconst d_L_law_730 xq_i_1) ?_
                                            refine xa_step (xa_iadd d_L_law_731) ?_
                                            refine xa_sald hsc d_L_law_732 (fun x144 _ => ?_)
                                            refine xa_callVi (as := [xI x144]) (st := []) (M' := mX11_on) (d' := 4) rfl xw_1138 xw_1139 xw_1140 xw_1141 xw_161 xh_X11_on rfl ⟨Nat.le_of_ble_eq_true rfl, Nat.le_of_ble_eq_true rfl⟩ (Nat.le_of_ble_eq_true rfl) rfl d_L_law_733 (fun r hr => ct_X11_on l G c1 x144 h r hr) (fun r145 _ => ?_)
                                            refine xa_step (xa_aload_n d_L_law_736 rfl) ?_
                                            refine xa_step (xa_aload_n d_L_law_737 rfl) ?_
                                            refine xa_step (xa_iload_n d_L_law_738 rfl) ?_
                                            refine xa_step (xa_iconst d_L_law_739 xq_i_1) ?_
                                            refine xa_step (xa_iadd d_L_law_740) ?_
                                            refine xa_sald hsc d_L_law_741 (fun x146 _ => ?_)
                                            refine xa_callVi (as := [xI x146]) (st := [xI r145]) (M' := mX12_on) (d' := 4) rfl xw_2057 xw_2058 xw_2059 xw_2060 xw_177 xh_X12_on rfl ⟨Nat.le_of_ble_eq_true rfl, Nat.le_of_ble_eq_true rfl⟩ (Nat.le_of_ble_eq_true rfl) rfl d_L_law_742 (fun r hr => ct_X12_on l G c2 x146 h r hr) (fun r147 _ => ?_)
                                            refine xa_if (xa_icmpeq d_L_law_745) (fun q148 => ?_) (fun q148 => ?_)
                                            · refine xa_step (xa_iinc (ls' := [some (xR (-2)), some (xR c1), some (xR c2), some (xI (w32 (v3 + 6)))]) d_L_law_1000 xq_i_6 rfl (by decide) rfl) ?_
                                              refine xa_step (xa_goto d_L_law_1003) ?_
                                              exact xa_weak (ls' := [some (xR (-2)), some (xR c1), some (xR c2), some (xI (w32 (v3 + 6)))]) ⟨rfl, rfl, rfl, rfl, trivial⟩ (hb (w32 (v3 + 6)) h)
                                            · refine xa_step (xa_iconst d_L_law_748 xq_i_0) ?_
                                              exact xa_zret d_L_law_749 rfl (Or.inl rfl) (hr _)
                                          · refine xa_case (fun q149 => ?_) (fun q149 => ?_)
                                            · refine xa_step (xa_tabIn (k := 20) d_L_law_33 q149 (by decide) (by decide) rfl rfl) ?_
                                              refine xa_step (xa_aload_n d_L_law_750 rfl) ?_
                                              refine xa_callVI (as := []) (st := []) (M' := mX11_note) (d' := 6) rfl xw_1150 xw_1151 xw_1152 xw_1153 xw_161 xh_X11_note rfl ⟨Nat.le_of_ble_eq_true rfl, Nat.le_of_ble_eq_true rfl⟩ (Nat.le_of_ble_eq_true rfl) rfl d_L_law_751 (fun r hr => ct_X11_note l G c1 h r hr) (fun r150 _ => ?_)
                                              refine xa_step (xa_aload_n d_L_law_754 rfl) ?_
                                              refine xa_callVI (as := []) (st := [xI r150.1]) (M' := mX12_note) (d' := 4) rfl xw_2061 xw_2062 xw_2063 xw_2064 xw_177 xh_X12_note rfl ⟨Nat.le_of_ble_eq_true rfl, Nat.le_of_ble_eq_true rfl⟩ (Nat.le_of_ble_eq_true rfl) rfl d_L_law_755 (fun r hr => ct_X12_note l G c2 r150.2 r hr) (fun r151 _ => ?_)
                                              refine xa_if (xa_icmpeq d_L_law_758) (fun q152 => ?_) (fun q152 => ?_)
                                              · refine xa_step (xa_iinc (ls' := [some (xR (-2)), some (xR c1), some (xR c2), some (xI (w32 (v3 + 6)))]) d_L_law_1000 xq_i_6 rfl (by decide) rfl) ?_
                                                refine xa_step (xa_goto d_L_law_1003) ?_
                                                exact xa_weak (ls' := [some (xR (-2)), some (xR c1), some (xR c2), some (xI (w32 (v3 + 6)))]) ⟨rfl, rfl, rfl, rfl, trivial⟩ (hb (w32 (v3 + 6)) r151.2)
                                              · refine xa_step (xa_iconst d_L_law_761 xq_i_0) ?_
                                                exact xa_zret d_L_law_762 rfl (Or.inl rfl) (hr _)
                                            · refine xa_case (fun q153 => ?_) (fun q153 => ?_)
                                              · refine xa_step (xa_tabIn (k := 21) d_L_law_33 q153 (by decide) (by decide) rfl rfl) ?_
                                                refine xa_step (xa_aload_n d_L_law_763 rfl) ?_
                                                refine xa_step (xa_aload_n d_L_law_764 rfl) ?_
                                                refine xa_step (xa_iload_n d_L_law_765 rfl) ?_
                                                refine xa_step (xa_iconst d_L_law_766 xq_i_1) ?_
                                                refine xa_step (xa_iadd d_L_law_767) ?_
                                                refine xa_sald hsc d_L_law_768 (fun x154 _ => ?_)
                                                refine xa_callVi (as := [xI x154]) (st := []) (M' := mX11_can) (d' := 3) rfl xw_1163 xw_1164 xw_1165 xw_1166 xw_161 xh_X11_can rfl ⟨Nat.le_of_ble_eq_true rfl, Nat.le_of_ble_eq_true rfl⟩ (Nat.le_of_ble_eq_true rfl) rfl d_L_law_769 (fun r hr => ct_X11_can l G c1 x154 h r hr) (fun r155 _ => ?_)
                                                refine xa_step (xa_aload_n d_L_law_772 rfl) ?_
                                                refine xa_step (xa_aload_n d_L_law_773 rfl) ?_
                                                refine xa_step (xa_iload_n d_L_law_774 rfl) ?_
                                                refine xa_step (xa_iconst d_L_law_775 xq_i_1) ?_
                                                refine xa_step (xa_iadd d_L_law_776) ?_
                                                refine xa_sald hsc d_L_law_777 (fun x156 _ => ?_)
                                                refine xa_callVI (as := [xI x156]) (st := [xI r155]) (M' := mX12_can) (d' := 5) rfl xw_2065 xw_2066 xw_2067 xw_2068 xw_177 xh_X12_can rfl ⟨Nat.le_of_ble_eq_true rfl, Nat.le_of_ble_eq_true rfl⟩ (Nat.le_of_ble_eq_true rfl) rfl d_L_law_778 (fun r hr => ct_X12_can l G c2 x156 h r hr) (fun r157 _ => ?_)
                                                refine xa_if (xa_icmpeq d_L_law_781) (fun q158 => ?_) (fun q158 => ?_)
                                                · refine xa_step (xa_iinc (ls' := [some (xR (-2)), some (xR c1), some (xR c2), some (xI (w32 (v3 + 6)))]) d_L_law_1000 xq_i_6 rfl (by decide) rfl) ?_
                                                  refine xa_step (xa_goto d_L_law_1003) ?_
                                                  exact xa_weak (ls' := [some (xR (-2)), some (xR c1), some (xR c2), some (xI (w32 (v3 + 6)))]) ⟨rfl, rfl, rfl, rfl, trivial⟩ (hb (w32 (v3 + 6)) r157.2)
                                                · refine xa_step (xa_iconst d_L_law_784 xq_i_0) ?_
                                                  exact xa_zret d_L_law_785 rfl (Or.inl rfl) (hr _)
                                              · refine xa_case (fun q159 => ?_) (fun q159 => ?_)
                                                · refine xa_step (xa_tabIn (k := 22) d_L_law_33 q159 (by decide) (by decide) rfl rfl) ?_
                                                  refine xa_step (xa_aload_n d_L_law_786 rfl) ?_
                                                  refine xa_step (xa_aload_n d_L_law_787 rfl) ?_
                                                  refine xa_step (xa_iload_n d_L_law_788 rfl) ?_
                                                  refine xa_step (xa_iconst d_L_law_789 xq_i_1) ?_
                                                  refine xa_step (xa_iadd d_L_law_790) ?_
                                                  refine xa_sald hsc d_L_law_791 (fun x160 _ => ?_)
                                                  refine xa_callVi (as := [xI x160]) (st := []) (M' := mX11_next) (d' := 4) rfl xw_1171 xw_1172 xw_1173 xw_1174 xw_161 xh_X11_next rfl ⟨Nat.le_of_ble_eq_true rfl, Nat.le_of_ble_eq_true rfl⟩ (Nat.le_of_ble_eq_true rfl) rfl d_L_law_792 (fun r hr => ct_X11_next l G c1 x160 h r hr) (fun r161 _ => ?_)
                                                  refine xa_step (xa_aload_n d_L_law_795 rfl) ?_
                                                  refine xa_step (xa_aload_n d_L_law_796 rfl) ?_
                                                  refine xa_step (xa_iload_n d_L_law_797 rfl) ?_
                                                  refine xa_step (xa_iconst d_L_law_798 xq_i_1) ?_
                                                  refine xa_step (xa_iadd d_L_law_799) ?_
                                                  refine xa_sald hsc d_L_law_800 (fun x162 _ => ?_)
                                                  refine xa_callVI (as := [xI x162]) (st := [xI r161]) (M' := mX12_next) (d' := 5) rfl xw_2077 xw_2078 xw_2079 xw_2080 xw_177 xh_X12_next rfl ⟨Nat.le_of_ble_eq_true rfl, Nat.le_of_ble_eq_true rfl⟩ (Nat.le_of_ble_eq_true rfl) rfl d_L_law_801 (fun r hr => ct_X12_next l G c2 x162 h r hr) (fun r163 _ => ?_)
                                                  refine xa_if (xa_icmpeq d_L_law_804) (fun q164 => ?_) (fun q164 => ?_)
                                                  · refine xa_step (xa_iinc (ls' := [some (xR (-2)), some (xR c1), some (xR c2), some (xI (w32 (v3 + 6)))]) d_L_law_1000 xq_i_6 rfl (by decide) rfl) ?_
                                                    refine xa_step (xa_goto d_L_law_1003) ?_
                                                    exact xa_weak (ls' := [some (xR (-2)), some (xR c1), some (xR c2), some (xI (w32 (v3 + 6)))]) ⟨rfl, rfl, rfl, rfl, trivial⟩ (hb (w32 (v3 + 6)) r163.2)
                                                  · refine xa_step (xa_iconst d_L_law_807 xq_i_0) ?_
                                                    exact xa_zret d_L_law_808 rfl (Or.inl rfl) (hr _)
                                                · refine xa_case (fun q165 => ?_) (fun q165 => ?_)
                                                  · refine xa_step (xa_tabIn (k := 23) d_L_law_33 q165 (by decide) (by decide) rfl rfl) ?_
                                                    refine xa_step (xa_aload_n d_L_law_809 rfl) ?_
                                                    refine xa_callVI (as := []) (st := []) (M' := mX11_ring) (d' := 6) rfl xw_1185 xw_1186 xw_1187 xw_1188 xw_161 xh_X11_ring rfl ⟨Nat.le_of_ble_eq_true rfl, Nat.le_of_ble_eq_true rfl⟩ (Nat.le_of_ble_eq_true rfl) rfl d_L_law_810 (fun r hr => ct_X11_ring l G c1 h r hr) (fun r166 _ => ?_)
                                                    refine xa_step (xa_aload_n d_L_law_813 rfl) ?_
                                                    refine xa_callVI (as := []) (st := [xI r166.1]) (M' := mX12_ring) (d' := 7) rfl xw_2085 xw_2086 xw_2087 xw_2088 xw_177 xh_X12_ring rfl ⟨Nat.le_of_ble_eq_true rfl, Nat.le_of_ble_eq_true rfl⟩ (Nat.le_of_ble_eq_true rfl) rfl d_L_law_814 (fun r hr => ct_X12_ring l G c2 r166.2 r hr) (fun r167 _ => ?_)
                                                    refine xa_if (xa_icmpeq d_L_law_817) (fun q168 => ?_) (fun q168 => ?_)
                                                    · refine xa_step (xa_iinc (ls' := [some (xR (-2)), some (xR c1), some (xR c2), some (xI (w32 (v3 + 6)))]) d_L_law_1000 xq_i_6 rfl (by decide) rfl) ?_
                                                      refine xa_step (xa_goto d_L_law_1003) ?_
                                                      exact xa_weak (ls' := [some (xR (-2)), some (xR c1), some (xR c2), some (xI (w32 (v3 + 6)))]) ⟨rfl, rfl, rfl, rfl, trivial⟩ (hb (w32 (v3 + 6)) r167.2)
                                                    · refine xa_step (xa_iconst d_L_law_820 xq_i_0) ?_
                                                      exact xa_zret d_L_law_821 rfl (Or.inl rfl) (hr _)
                                                  · refine xa_case (fun q169 => ?_) (fun q169 => ?_)
                                                    · refine xa_step (xa_tabIn (k := 24) d_L_law_33 q169 (by decide) (by decide) rfl rfl) ?_
                                                      refine xa_step (xa_aload_n d_L_law_822 rfl) ?_
                                                      refine xa_step (xa_aload_n d_L_law_823 rfl) ?_
                                                      refine xa_step (xa_iload_n d_L_law_824 rfl) ?_
                                                      refine xa_step (xa_iconst d_L_law_825 xq_i_1) ?_
                                                      refine xa_step (xa_iadd d_L_law_826) ?_
                                                      refine xa_sald hsc d_L_law_827 (fun x170 _ => ?_)
                                                      refine xa_step (xa_aload_n d_L_law_828 rfl) ?_
                                                      refine xa_step (xa_iload_n d_L_law_829 rfl) ?_
                                                      refine xa_step (xa_iconst d_L_law_830 xq_i_2) ?_
                                                      refine xa_step (xa_iadd d_L_law_831) ?_
                                                      refine xa_sald hsc d_L_law_832 (fun x171 _ => ?_)
                                                      refine xa_callVI (as := [xI x170, xI x171]) (st := []) (M' := mX11_want) (d' := 4) rfl xw_1207 xw_1208 xw_1209 xw_1210 xw_161 xh_X11_want rfl ⟨Nat.le_of_ble_eq_true rfl, Nat.le_of_ble_eq_true rfl⟩ (Nat.le_of_ble_eq_true rfl) rfl d_L_law_833 (fun r hr => ct_X11_want l G c1 x170 x171 h r hr) (fun r172 _ => ?_)
                                                      refine xa_step (xa_aload_n d_L_law_836 rfl) ?_
                                                      refine xa_step (xa_aload_n d_L_law_837 rfl) ?_
                                                      refine xa_step (xa_iload_n d_L_law_838 rfl) ?_
                                                      refine xa_step (xa_iconst d_L_law_839 xq_i_1) ?_
                                                      refine xa_step (xa_iadd d_L_law_840) ?_
                                                      refine xa_sald hsc d_L_law_841 (fun x173 _ => ?_)
                                                      refine xa_step (xa_aload_n d_L_law_842 rfl) ?_
                                                      refine xa_step (xa_iload_n d_L_law_843 rfl) ?_
                                                      refine xa_step (xa_iconst d_L_law_844 xq_i_2) ?_
                                                      refine xa_step (xa_iadd d_L_law_845) ?_
                                                      refine xa_sald hsc d_L_law_846 (fun x174 _ => ?_)
                                                      refine xa_callVI (as := [xI x173, xI x174]) (st := [xI r172.1]) (M' := mX12_want) (d' := 4) rfl xw_2101 xw_2102 xw_2103 xw_2104 xw_177 xh_X12_want rfl ⟨Nat.le_of_ble_eq_true rfl, Nat.le_of_ble_eq_true rfl⟩ (Nat.le_of_ble_eq_true rfl) rfl d_L_law_847 (fun r hr => ct_X12_want l G c2 x173 x174 r172.2 r hr) (fun r175 _ => ?_)
                                                      refine xa_if (xa_icmpeq d_L_law_850) (fun q176 => ?_) (fun q176 => ?_)
                                                      · refine xa_step (xa_iinc (ls' := [some (xR (-2)), some (xR c1), some (xR c2), some (xI (w32 (v3 + 6)))]) d_L_law_1000 xq_i_6 rfl (by decide) rfl) ?_
                                                        refine xa_step (xa_goto d_L_law_1003) ?_
                                                        exact xa_weak (ls' := [some (xR (-2)), some (xR c1), some (xR c2), some (xI (w32 (v3 + 6)))]) ⟨rfl, rfl, rfl, rfl, trivial⟩ (hb (w32 (v3 + 6)) r175.2)
                                                      · refine xa_step (xa_iconst d_L_law_853 xq_i_0) ?_
                                                        exact xa_zret d_L_law_854 rfl (Or.inl rfl) (hr _)
                                                    · refine xa_case (fun q177 => ?_) (fun q177 => ?_)
                                                      · refine xa_step (xa_tabIn (k := 25) d_L_law_33 q177 (by decide) (by decide) rfl rfl) ?_
                                                        refine xa_step (xa_aload_n d_L_law_855 rfl) ?_
                                                        refine xa_step (xa_aload_n d_L_law_856 rfl) ?_
                                                        refine xa_step (xa_iload_n d_L_law_857 rfl) ?_
                                                        refine xa_step (xa_iconst d_L_law_858 xq_i_1) ?_
                                                        refine xa_step (xa_iadd d_L_law_859) ?_
                                                        refine xa_sald hsc d_L_law_860 (fun x178 _ => ?_)
                                                        refine xa_callVI (as := [xI x178]) (st := []) (M' := mX11_nights) (d' := 7) rfl xw_1211 xw_1212 xw_1213 xw_1214 xw_161 xh_X11_nights rfl ⟨Nat.le_of_ble_eq_true rfl, Nat.le_of_ble_eq_true rfl⟩ (Nat.le_of_ble_eq_true rfl) rfl d_L_law_861 (fun r hr => ct_X11_nights l G c1 x178 h r hr) (fun r179 _ => ?_)
                                                        refine xa_step (xa_aload_n d_L_law_864 rfl) ?_
                                                        refine xa_step (xa_aload_n d_L_law_865 rfl) ?_
                                                        refine xa_step (xa_iload_n d_L_law_866 rfl) ?_
                                                        refine xa_step (xa_iconst d_L_law_867 xq_i_1) ?_
                                                        refine xa_step (xa_iadd d_L_law_868) ?_
                                                        refine xa_sald hsc d_L_law_869 (fun x180 _ => ?_)
                                                        refine xa_callVI (as := [xI x180]) (st := [xI r179.1]) (M' := mX12_nights) (d' := 8) rfl xw_2109 xw_2110 xw_2111 xw_2112 xw_177 xh_X12_nights rfl ⟨Nat.le_of_ble_eq_true rfl, Nat.le_of_ble_eq_true rfl⟩ (Nat.le_of_ble_eq_true rfl) rfl d_L_law_870 (fun r hr => ct_X12_nights l G c2 x180 r179.2 r hr) (fun r181 _ => ?_)
                                                        refine xa_if (xa_icmpeq d_L_law_873) (fun q182 => ?_) (fun q182 => ?_)
                                                        · refine xa_step (xa_iinc (ls' := [some (xR (-2)), some (xR c1), some (xR c2), some (xI (w32 (v3 + 6)))]) d_L_law_1000 xq_i_6 rfl (by decide) rfl) ?_
                                                          refine xa_step (xa_goto d_L_law_1003) ?_
                                                          exact xa_weak (ls' := [some (xR (-2)), some (xR c1), some (xR c2), some (xI (w32 (v3 + 6)))]) ⟨rfl, rfl, rfl, rfl, trivial⟩ (hb (w32 (v3 + 6)) r181.2)
                                                        · refine xa_step (xa_iconst d_L_law_876 xq_i_0) ?_
                                                          exact xa_zret d_L_law_877 rfl (Or.inl rfl) (hr _)
                                                      · refine xa_case (fun q183 => ?_) (fun q183 => ?_)
                                                        · refine xa_step (xa_tabIn (k := 26) d_L_law_33 q183 (by decide) (by decide) rfl rfl) ?_
                                                          refine xa_step (xa_aload_n d_L_law_878 rfl) ?_
                                                          refine xa_callVI (as := []) (st := []) (M' := mX11_undo) (d' := 4) rfl xw_1225 xw_1226 xw_1227 xw_1228 xw_161 xh_X11_undo rfl ⟨Nat.le_of_ble_eq_true rfl, Nat.le_of_ble_eq_true rfl⟩ (Nat.le_of_ble_eq_true rfl) rfl d_L_law_879 (fun r hr => ct_X11_undo l G c1 h r hr) (fun r184 _ => ?_)
                                                          refine xa_step (xa_aload_n d_L_law_882 rfl) ?_
                                                          refine xa_callVI (as := []) (st := [xI r184.1]) (M' := mX12_undo) (d' := 2) rfl xw_2081 xw_2082 xw_2083 xw_2084 xw_177 xh_X12_undo rfl ⟨Nat.le_of_ble_eq_true rfl, Nat.le_of_ble_eq_true rfl⟩ (Nat.le_of_ble_eq_true rfl) rfl d_L_law_883 (fun r hr => ct_X12_undo l G c2 r184.2 r hr) (fun r185 _ => ?_)
                                                          refine xa_if (xa_icmpeq d_L_law_886) (fun q186 => ?_) (fun q186 => ?_)
                                                          · refine xa_step (xa_iinc (ls' := [some (xR (-2)), some (xR c1), some (xR c2), some (xI (w32 (v3 + 6)))]) d_L_law_1000 xq_i_6 rfl (by decide) rfl) ?_
                                                            refine xa_step (xa_goto d_L_law_1003) ?_
                                                            exact xa_weak (ls' := [some (xR (-2)), some (xR c1), some (xR c2), some (xI (w32 (v3 + 6)))]) ⟨rfl, rfl, rfl, rfl, trivial⟩ (hb (w32 (v3 + 6)) r185.2)
                                                          · refine xa_step (xa_iconst d_L_law_889 xq_i_0) ?_
                                                            exact xa_zret d_L_law_890 rfl (Or.inl rfl) (hr _)
                                                        · refine xa_case (fun q187 => ?_) (fun q187 => ?_)
                                                          · refine xa_step (xa_tabIn (k := 27) d_L_law_33 q187 (by decide) (by decide) rfl rfl) ?_
                                                            refine xa_step (xa_aload_n d_L_law_891 rfl) ?_
                                                            refine xa_step (xa_aload_n d_L_law_892 rfl) ?_
                                                            refine xa_step (xa_iload_n d_L_law_893 rfl) ?_
                                                            refine xa_step (xa_iconst d_L_law_894 xq_i_1) ?_
                                                            refine xa_step (xa_iadd d_L_law_895) ?_
                                                            refine xa_sald hsc d_L_law_896 (fun x188 _ => ?_)
                                                            refine xa_callVI (as := [xI x188]) (st := []) (M' := mX11_seed) (d' := 3) rfl xw_1233 xw_1234 xw_1235 xw_1236 xw_161 xh_X11_seed rfl ⟨Nat.le_of_ble_eq_true rfl, Nat.le_of_ble_eq_true rfl⟩ (Nat.le_of_ble_eq_true rfl) rfl d_L_law_897 (fun r hr => ct_X11_seed l G c1 x188 h r hr) (fun r189 _ => ?_)
                                                            refine xa_step (xa_aload_n d_L_law_900 rfl) ?_
                                                            refine xa_step (xa_aload_n d_L_law_901 rfl) ?_
                                                            refine xa_step (xa_iload_n d_L_law_902 rfl) ?_
                                                            refine xa_step (xa_iconst d_L_law_903 xq_i_1) ?_
                                                            refine xa_step (xa_iadd d_L_law_904) ?_
                                                            refine xa_sald hsc d_L_law_905 (fun x190 _ => ?_)
                                                            refine xa_callVI (as := [xI x190]) (st := [xI r189.1]) (M' := mX12_seed) (d' := 2) rfl xw_2105 xw_2106 xw_2107 xw_2108 xw_177 xh_X12_seed rfl ⟨Nat.le_of_ble_eq_true rfl, Nat.le_of_ble_eq_true rfl⟩ (Nat.le_of_ble_eq_true rfl) rfl d_L_law_906 (fun r hr => ct_X12_seed l G c2 x190 r189.2 r hr) (fun r191 _ => ?_)
                                                            refine xa_if (xa_icmpeq d_L_law_909) (fun q192 => ?_) (fun q192 => ?_)
                                                            · refine xa_step (xa_iinc (ls' := [some (xR (-2)), some (xR c1), some (xR c2), some (xI (w32 (v3 + 6)))]) d_L_law_1000 xq_i_6 rfl (by decide) rfl) ?_
                                                              refine xa_step (xa_goto d_L_law_1003) ?_
                                                              exact xa_weak (ls' := [some (xR (-2)), some (xR c1), some (xR c2), some (xI (w32 (v3 + 6)))]) ⟨rfl, rfl, rfl, rfl, trivial⟩ (hb (w32 (v3 + 6)) r191.2)
                                                            · refine xa_step (xa_iconst d_L_law_912 xq_i_0) ?_
                                                              exact xa_zret d_L_law_913 rfl (Or.inl rfl) (hr _)
                                                          · refine xa_case (fun q193 => ?_) (fun q193 => ?_)
                                                            · refine xa_step (xa_tabIn (k := 28) d_L_law_33 q193 (by decide) (by decide) rfl rfl) ?_
                                                              refine xa_step (xa_aload_n d_L_law_914 rfl) ?_
                                                              refine xa_callVL (as := []) (st := []) (M' := mX11_ask) (d' := 66) rfl xw_1237 xw_1238 xw_1239 xw_1240 xw_161 xh_X11_ask rfl ⟨Nat.le_of_ble_eq_true rfl, Nat.le_of_ble_eq_true rfl⟩ (Nat.le_of_ble_eq_true rfl) rfl d_L_law_915 (fun r hr => ct_X11_ask l G c1 h r hr) (fun r194 _ => ?_)
                                                              refine xa_step (xa_aload_n d_L_law_918 rfl) ?_
                                                              refine xa_callVL (as := []) (st := [xL r194.1]) (M' := mX12_ask) (d' := 11) rfl xw_2125 xw_2126 xw_2127 xw_2128 xw_177 xh_X12_ask rfl ⟨Nat.le_of_ble_eq_true rfl, Nat.le_of_ble_eq_true rfl⟩ (Nat.le_of_ble_eq_true rfl) rfl d_L_law_919 (fun r hr => ct_X12_ask l G c2 r194.2 r hr) (fun r195 _ => ?_)
                                                              refine xa_step (xa_lcmp d_L_law_922) ?_
                                                              refine xa_if (xa_ifeq d_L_law_923) (fun q196 => ?_) (fun q196 => ?_)
                                                              · refine xa_step (xa_iinc (ls' := [some (xR (-2)), some (xR c1), some (xR c2), some (xI (w32 (v3 + 6)))]) d_L_law_1000 xq_i_6 rfl (by decide) rfl) ?_
                                                                refine xa_step (xa_goto d_L_law_1003) ?_
                                                                exact xa_weak (ls' := [some (xR (-2)), some (xR c1), some (xR c2), some (xI (w32 (v3 + 6)))]) ⟨rfl, rfl, rfl, rfl, trivial⟩ (hb (w32 (v3 + 6)) r195.2)
                                                              · refine xa_step (xa_iconst d_L_law_926 xq_i_0) ?_
                                                                exact xa_zret d_L_law_927 rfl (Or.inl rfl) (hr _)
                                                            · refine xa_case (fun q197 => ?_) (fun q197 => ?_)
                                                              · refine xa_step (xa_tabIn (k := 29) d_L_law_33 q197 (by decide) (by decide) rfl rfl) ?_
                                                                refine xa_step (xa_aload_n d_L_law_928 rfl) ?_
                                                                refine xa_callVI (as := []) (st := []) (M' := mX11_image) (d' := 3) rfl xw_1261 xw_1262 xw_1263 xw_1264 xw_161 xh_X11_image rfl ⟨Nat.le_of_ble_eq_true rfl, Nat.le_of_ble_eq_true rfl⟩ (Nat.le_of_ble_eq_true rfl) rfl d_L_law_929 (fun r hr => ct_X11_image l G c1 h r hr) (fun r198 _ => ?_)
                                                                refine xa_step (xa_aload_n d_L_law_932 rfl) ?_
                                                                refine xa_callVI (as := []) (st := [xI r198.1]) (M' := mX12_image) (d' := 3) rfl xw_2147 xw_2148 xw_2149 xw_2150 xw_177 xh_X12_image rfl ⟨Nat.le_of_ble_eq_true rfl, Nat.le_of_ble_eq_true rfl⟩ (Nat.le_of_ble_eq_true rfl) rfl d_L_law_933 (fun r hr => ct_X12_image l G c2 r198.2 r hr) (fun r199 _ => ?_)
                                                                refine xa_if (xa_icmpeq d_L_law_936) (fun q200 => ?_) (fun q200 => ?_)
                                                                · refine xa_step (xa_iinc (ls' := [some (xR (-2)), some (xR c1), some (xR c2), some (xI (w32 (v3 + 6)))]) d_L_law_1000 xq_i_6 rfl (by decide) rfl) ?_
                                                                  refine xa_step (xa_goto d_L_law_1003) ?_
                                                                  exact xa_weak (ls' := [some (xR (-2)), some (xR c1), some (xR c2), some (xI (w32 (v3 + 6)))]) ⟨rfl, rfl, rfl, rfl, trivial⟩ (hb (w32 (v3 + 6)) r199.2)
                                                                · refine xa_step (xa_iconst d_L_law_939 xq_i_0) ?_
                                                                  exact xa_zret d_L_law_940 rfl (Or.inl rfl) (hr _)
                                                              · refine xa_case (fun q201 => ?_) (fun q201 => ?_)
                                                                · refine xa_step (xa_tabIn (k := 30) d_L_law_33 q201 (by decide) (by decide) rfl rfl) ?_
                                                                  refine xa_step (xa_aload_n d_L_law_941 rfl) ?_
                                                                  refine xa_step (xa_aload_n d_L_law_942 rfl) ?_
                                                                  refine xa_step (xa_iload_n d_L_law_943 rfl) ?_
                                                                  refine xa_step (xa_iconst d_L_law_944 xq_i_1) ?_
                                                                  refine xa_step (xa_iadd d_L_law_945) ?_
                                                                  refine xa_sald hsc d_L_law_946 (fun x202 _ => ?_)
                                                                  refine xa_callVi (as := [xI x202]) (st := []) (M' := mX11_octet) (d' := 2) rfl xw_1269 xw_1270 xw_1271 xw_1272 xw_161 xh_X11_octet rfl ⟨Nat.le_of_ble_eq_true rfl, Nat.le_of_ble_eq_true rfl⟩ (Nat.le_of_ble_eq_true rfl) rfl d_L_law_947 (fun r hr => ct_X11_octet l G c1 x202 h r hr) (fun r203 _ => ?_)
                                                                  refine xa_step (xa_aload_n d_L_law_950 rfl) ?_
                                                                  refine xa_step (xa_aload_n d_L_law_951 rfl) ?_
                                                                  refine xa_step (xa_iload_n d_L_law_952 rfl) ?_
                                                                  refine xa_step (xa_iconst d_L_law_953 xq_i_1) ?_
                                                                  refine xa_step (xa_iadd d_L_law_954) ?_
                                                                  refine xa_sald hsc d_L_law_955 (fun x204 _ => ?_)
                                                                  refine xa_callVi (as := [xI x204]) (st := [xI r203]) (M' := mX12_octet) (d' := 2) rfl xw_2158 xw_2159 xw_2160 xw_2161 xw_177 xh_X12_octet rfl ⟨Nat.le_of_ble_eq_true rfl, Nat.le_of_ble_eq_true rfl⟩ (Nat.le_of_ble_eq_true rfl) rfl d_L_law_956 (fun r hr => ct_X12_octet l G c2 x204 h r hr) (fun r205 _ => ?_)
                                                                  refine xa_if (xa_icmpeq d_L_law_959) (fun q206 => ?_) (fun q206 => ?_)
                                                                  · refine xa_step (xa_iinc (ls' := [some (xR (-2)), some (xR c1), some (xR c2), some (xI (w32 (v3 + 6)))]) d_L_law_1000 xq_i_6 rfl (by decide) rfl) ?_
                                                                    refine xa_step (xa_goto d_L_law_1003) ?_
                                                                    exact xa_weak (ls' := [some (xR (-2)), some (xR c1), some (xR c2), some (xI (w32 (v3 + 6)))]) ⟨rfl, rfl, rfl, rfl, trivial⟩ (hb (w32 (v3 + 6)) h)
                                                                  · refine xa_step (xa_iconst d_L_law_962 xq_i_0) ?_
                                                                    exact xa_zret d_L_law_963 rfl (Or.inl rfl) (hr _)
                                                                · refine xa_case (fun q207 => ?_) (fun q207 => ?_)
                                                                  · refine xa_step (xa_tabIn (k := 31) d_L_law_33 q207 (by decide) (by decide) rfl rfl) ?_
                                                                    refine xa_step (xa_aload_n d_L_law_964 rfl) ?_
                                                                    refine xa_callVI (as := []) (st := []) (M' := mX11_resume) (d' := 6) rfl xw_1273 xw_1274 xw_1275 xw_1276 xw_161 xh_X11_resume rfl ⟨Nat.le_of_ble_eq_true rfl, Nat.le_of_ble_eq_true rfl⟩ (Nat.le_of_ble_eq_true rfl) rfl d_L_law_965 (fun r hr => ct_X11_resume l G c1 h r hr) (fun r208 _ => ?_)
                                                                    refine xa_step (xa_aload_n d_L_law_968 rfl) ?_
                                                                    refine xa_callVI (as := []) (st := [xI r208.1]) (M' := mX12_resume) (d' := 6) rfl xw_2162 xw_2163 xw_2164 xw_2165 xw_177 xh_X12_resume rfl ⟨Nat.le_of_ble_eq_true rfl, Nat.le_of_ble_eq_true rfl⟩ (Nat.le_of_ble_eq_true rfl) rfl d_L_law_969 (fun r hr => ct_X12_resume l G c2 r208.2 r hr) (fun r209 _ => ?_)
                                                                    refine xa_if (xa_icmpeq d_L_law_972) (fun q210 => ?_) (fun q210 => ?_)
                                                                    · refine xa_step (xa_iinc (ls' := [some (xR (-2)), some (xR c1), some (xR c2), some (xI (w32 (v3 + 6)))]) d_L_law_1000 xq_i_6 rfl (by decide) rfl) ?_
                                                                      refine xa_step (xa_goto d_L_law_1003) ?_
                                                                      exact xa_weak (ls' := [some (xR (-2)), some (xR c1), some (xR c2), some (xI (w32 (v3 + 6)))]) ⟨rfl, rfl, rfl, rfl, trivial⟩ (hb (w32 (v3 + 6)) r209.2)
                                                                    · refine xa_step (xa_iconst d_L_law_975 xq_i_0) ?_
                                                                      exact xa_zret d_L_law_976 rfl (Or.inl rfl) (hr _)
                                                                  · refine xa_case (fun q211 => ?_) (fun q211 => ?_)
                                                                    · refine xa_step (xa_tabIn (k := 32) d_L_law_33 q211 (by decide) (by decide) rfl rfl) ?_
                                                                      refine xa_step (xa_aload_n d_L_law_977 rfl) ?_
                                                                      refine xa_step (xa_aload_n d_L_law_978 rfl) ?_
                                                                      refine xa_step (xa_iload_n d_L_law_979 rfl) ?_
                                                                      refine xa_step (xa_iconst d_L_law_980 xq_i_1) ?_
                                                                      refine xa_step (xa_iadd d_L_law_981) ?_
                                                                      refine xa_sald hsc d_L_law_982 (fun x212 _ => ?_)
                                                                      refine xa_callVi (as := [xI x212]) (st := []) (M' := mX11_status) (d' := 2) rfl xw_1293 xw_1294 xw_1295 xw_1296 xw_161 xh_X11_status rfl ⟨Nat.le_of_ble_eq_true rfl, Nat.le_of_ble_eq_true rfl⟩ (Nat.le_of_ble_eq_true rfl) rfl d_L_law_983 (fun r hr => ct_X11_status l G c1 x212 h r hr) (fun r213 _ => ?_)
                                                                      refine xa_step (xa_aload_n d_L_law_986 rfl) ?_
                                                                      refine xa_step (xa_aload_n d_L_law_987 rfl) ?_
                                                                      refine xa_step (xa_iload_n d_L_law_988 rfl) ?_
                                                                      refine xa_step (xa_iconst d_L_law_989 xq_i_1) ?_
                                                                      refine xa_step (xa_iadd d_L_law_990) ?_
                                                                      refine xa_sald hsc d_L_law_991 (fun x214 _ => ?_)
                                                                      refine xa_callVi (as := [xI x214]) (st := [xI r213]) (M' := mX12_status) (d' := 3) rfl xw_2178 xw_2179 xw_2180 xw_2181 xw_177 xh_X12_status rfl ⟨Nat.le_of_ble_eq_true rfl, Nat.le_of_ble_eq_true rfl⟩ (Nat.le_of_ble_eq_true rfl) rfl d_L_law_992 (fun r hr => ct_X12_status l G c2 x214 h r hr) (fun r215 _ => ?_)
                                                                      refine xa_if (xa_icmpeq d_L_law_995) (fun q216 => ?_) (fun q216 => ?_)
                                                                      · refine xa_step (xa_iinc (ls' := [some (xR (-2)), some (xR c1), some (xR c2), some (xI (w32 (v3 + 6)))]) d_L_law_1000 xq_i_6 rfl (by decide) rfl) ?_
                                                                        refine xa_step (xa_goto d_L_law_1003) ?_
                                                                        exact xa_weak (ls' := [some (xR (-2)), some (xR c1), some (xR c2), some (xI (w32 (v3 + 6)))]) ⟨rfl, rfl, rfl, rfl, trivial⟩ (hb (w32 (v3 + 6)) h)
                                                                      · refine xa_step (xa_iconst d_L_law_998 xq_i_0) ?_
                                                                        exact xa_zret d_L_law_999 rfl (Or.inl rfl) (hr _)
                                                                    · refine xa_step (xa_tabOut d_L_law_33 (by omega) rfl) ?_
                                                                      refine xa_step (xa_iinc (ls' := [some (xR (-2)), some (xR c1), some (xR c2), some (xI (w32 (v3 + 6)))]) d_L_law_1000 xq_i_6 rfl (by decide) rfl) ?_
                                                                      refine xa_step (xa_goto d_L_law_1003) ?_
                                                                      exact xa_weak (ls' := [some (xR (-2)), some (xR c1), some (xR c2), some (xI (w32 (v3 + 6)))]) ⟨rfl, rfl, rfl, rfl, trivial⟩ (hb (w32 (v3 + 6)) h)
theorem d_L_law_1006 : decode mL_law.1 1006 = .ok (.iconst 1, 1) ∧ 1006 + 1 = 1007 := ⟨by decide +kernel, rfl⟩
theorem d_L_law_1007 : decode mL_law.1 1007 = .ok (.ireturn, 1) := by decide +kernel
set_option maxRecDepth 100000 in
set_option maxHeartbeats 4000000 in
theorem g_L_law (l : Launch) (G : xa_C) (sL : Nat) (sc : Nat → Int) (hsc : xa_sc G sL sc) (h : xa_H) : xa_G l G 69 mL_law (f_L_law sL sc  h) (fun r => some (some (xI r.1), r.2) : (Int × xa_H) → Option xa_O) 0 [some (xR (-2)), none, none, none] [] h := by
  unfold f_L_law
  refine xa_newO xc_11 xt_11 xw_182 xw_183 xw_161 d_L_law_0 (fun h1 _ => ?_)
  refine xa_step (xa_dup d_L_law_3 (xa_tR _)) ?_
  refine xa_callIV (nn := xn h) (as := []) (st := [xR ((xn h : Int))]) (M' := mX11_init) (d' := 7) rfl rfl xw_184 xw_185 xw_186 xw_161 xh_X11_init rfl ⟨Nat.le_of_ble_eq_true rfl, Nat.le_of_ble_eq_true rfl⟩ (Nat.le_of_ble_eq_true rfl) rfl d_L_law_4 (fun r hr => ct_X11_init l G ((xn h : Int)) h1 r hr) (fun r2 _ => ?_)
  refine xa_step (xa_astore_n (ls' := [some (xR (-2)), some (xR ((xn h : Int))), none, none]) d_L_law_7 (by decide) rfl) ?_
  refine xa_newO xc_12 xt_12 xw_1297 xw_1298 xw_177 d_L_law_8 (fun h3 _ => ?_)
  refine xa_step (xa_dup d_L_law_11 (xa_tR _)) ?_
  refine xa_callIV (nn := xn r2) (as := []) (st := [xR ((xn r2 : Int))]) (M' := mX12_init) (d' := 2) rfl rfl xw_1299 xw_1300 xw_1301 xw_177 xh_X12_init rfl ⟨Nat.le_of_ble_eq_true rfl, Nat.le_of_ble_eq_true rfl⟩ (Nat.le_of_ble_eq_true rfl) rfl d_L_law_12 (fun r hr => ct_X12_init l G ((xn r2 : Int)) h3 r hr) (fun r4 _ => ?_)
  refine xa_step (xa_astore_n (ls' := [some (xR (-2)), some (xR ((xn h : Int))), some (xR ((xn r2 : Int))), none]) d_L_law_15 (by decide) rfl) ?_
  refine xa_step (xa_iconst d_L_law_16 xq_i_0) ?_
  refine xa_step (xa_istore_n (ls' := [some (xR (-2)), some (xR ((xn h : Int))), some (xR ((xn r2 : Int))), some (xI 0)]) d_L_law_17 (by decide) rfl) ?_
  refine xa_weak (ls' := [some (xR (-2)), some (xR ((xn h : Int))), some (xR ((xn r2 : Int))), some (xI 0)]) ⟨rfl, rfl, rfl, rfl, trivial⟩ ?_
  refine xa_loop (f := fun s => f_L_law_L18 sL sc ((xn h : Int)) ((xn r2 : Int)) s.1 s.2) (L := fun s => [some (xR (-2)), some (xR ((xn h : Int))), some (xR ((xn r2 : Int))), some (xI s.1)]) (P := fun s => s.2) (X := (fun e K => match e with | Sum.inl r => K (Sum.inr (Sum.inl r)) = some (some (xI r.1), r.2) | Sum.inr x => xa_G l G 69 mL_law (some (Sum.inr (Sum.inr x))) K 1006 [none, none, none, none] [] x)) (fun K hb hX s => g_L_law_L18 l G sL sc hsc ((xn h : Int)) ((xn r2 : Int)) K (fun w0 hh => hb ((w0, hh))) (fun r => hX (Sum.inl r)) (fun hh => hX (Sum.inr hh)) s.1 s.2) ?_ xFU ((0, r4))
  rintro (r | y218) K hK
  · exact hK.trans rfl
  · refine xa_eqE hK ?_
    show xa_G l G 69 mL_law _ _ 1006 [none, none, none, none] [] y218
    refine xa_step (xa_iconst d_L_law_1006 xq_i_1) ?_
    exact xa_zret d_L_law_1007 rfl (Or.inr rfl) rfl