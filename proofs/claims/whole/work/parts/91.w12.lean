theorem d_L_law_0 : gD cL_law 0 (.new 7) 3 3 := ⟨by decide +kernel, rfl⟩
theorem d_L_law_3 : gD cL_law 3 (.dup) 1 4 := ⟨by decide +kernel, rfl⟩
theorem d_L_law_4 : gD cL_law 4 (.invokespecial 9) 3 7 := ⟨by decide +kernel, rfl⟩
theorem d_L_law_7 : gD cL_law 7 (.astore_n 1) 1 8 := ⟨by decide +kernel, rfl⟩
theorem d_L_law_8 : gD cL_law 8 (.new 10) 3 11 := ⟨by decide +kernel, rfl⟩
theorem d_L_law_11 : gD cL_law 11 (.dup) 1 12 := ⟨by decide +kernel, rfl⟩
theorem d_L_law_12 : gD cL_law 12 (.invokespecial 12) 3 15 := ⟨by decide +kernel, rfl⟩
theorem d_L_law_15 : gD cL_law 15 (.astore_n 2) 1 16 := ⟨by decide +kernel, rfl⟩
theorem d_L_law_16 : gD cL_law 16 (.iconst 0) 1 17 := ⟨by decide +kernel, rfl⟩
theorem d_L_law_17 : gD cL_law 17 (.istore_n 3) 1 18 := ⟨by decide +kernel, rfl⟩
theorem d_L_law_18 : gD cL_law 18 (.iload_n 3) 1 19 := ⟨by decide +kernel, rfl⟩
theorem d_L_law_19 : gD cL_law 19 (.aload_n 0) 1 20 := ⟨by decide +kernel, rfl⟩
theorem d_L_law_20 : gD cL_law 20 (.arraylength) 1 21 := ⟨by decide +kernel, rfl⟩
theorem d_L_law_21 : gD cL_law 21 (.bipush 6) 2 23 := ⟨by decide +kernel, rfl⟩
theorem d_L_law_23 : gD cL_law 23 (.isub) 1 24 := ⟨by decide +kernel, rfl⟩
theorem d_L_law_24 : gD cL_law 24 (.if_icmp .gt 1796) 3 27 ∧ ((24 : Nat) : Int) + 1796 = ((1820 : Nat) : Int) := ⟨⟨by decide +kernel, rfl⟩, by decide⟩
theorem d_L_law_27 : gD cL_law 27 (.aload_n 0) 1 28 := ⟨by decide +kernel, rfl⟩
theorem d_L_law_28 : gD cL_law 28 (.iload_n 3) 1 29 := ⟨by decide +kernel, rfl⟩
theorem d_L_law_29 : gD cL_law 29 (.iaload) 1 30 := ⟨by decide +kernel, rfl⟩
theorem d_L_law_30 : gD cL_law 30 (.bipush 63) 2 32 := ⟨by decide +kernel, rfl⟩
theorem d_L_law_32 : gD cL_law 32 (.iand) 1 33 := ⟨by decide +kernel, rfl⟩
theorem d_L_law_33 : decode cL_law 33 = .ok (.tableswitch 1781 0 34 #[155, 218, 241, 274, 297, 330, 373, 426, 469, 502, 555, 618, 651, 694, 773, 868, 901, 997, 1067, 1120, 1153, 1187, 1240, 1283, 1326, 1359, 1408, 1451, 1530, 1563, 1616, 1669, 1712, 1735, 1758], 155) ∧ ((33 : Nat) : Int) + 1781 = ((1814 : Nat) : Int) := ⟨by decide +kernel, by decide⟩
theorem d_L_law_188 : gD cL_law 188 (.aload_n 1) 1 189 := ⟨by decide +kernel, rfl⟩
theorem d_L_law_189 : gD cL_law 189 (.aload_n 0) 1 190 := ⟨by decide +kernel, rfl⟩
theorem d_L_law_190 : gD cL_law 190 (.iload_n 3) 1 191 := ⟨by decide +kernel, rfl⟩
theorem d_L_law_191 : gD cL_law 191 (.iconst 1) 1 192 := ⟨by decide +kernel, rfl⟩
theorem d_L_law_192 : gD cL_law 192 (.iadd) 1 193 := ⟨by decide +kernel, rfl⟩
theorem d_L_law_193 : gD cL_law 193 (.iaload) 1 194 := ⟨by decide +kernel, rfl⟩
theorem d_L_law_194 : gD cL_law 194 (.aload_n 0) 1 195 := ⟨by decide +kernel, rfl⟩
theorem d_L_law_195 : gD cL_law 195 (.iload_n 3) 1 196 := ⟨by decide +kernel, rfl⟩
theorem d_L_law_196 : gD cL_law 196 (.iconst 2) 1 197 := ⟨by decide +kernel, rfl⟩
theorem d_L_law_197 : gD cL_law 197 (.iadd) 1 198 := ⟨by decide +kernel, rfl⟩
theorem d_L_law_198 : gD cL_law 198 (.iaload) 1 199 := ⟨by decide +kernel, rfl⟩
theorem d_L_law_199 : gD cL_law 199 (.aload_n 0) 1 200 := ⟨by decide +kernel, rfl⟩
theorem d_L_law_200 : gD cL_law 200 (.iload_n 3) 1 201 := ⟨by decide +kernel, rfl⟩
theorem d_L_law_201 : gD cL_law 201 (.iconst 3) 1 202 := ⟨by decide +kernel, rfl⟩
theorem d_L_law_202 : gD cL_law 202 (.iadd) 1 203 := ⟨by decide +kernel, rfl⟩
theorem d_L_law_203 : gD cL_law 203 (.iaload) 1 204 := ⟨by decide +kernel, rfl⟩
theorem d_L_law_204 : gD cL_law 204 (.aload_n 0) 1 205 := ⟨by decide +kernel, rfl⟩
theorem d_L_law_205 : gD cL_law 205 (.iload_n 3) 1 206 := ⟨by decide +kernel, rfl⟩
theorem d_L_law_206 : gD cL_law 206 (.iconst 4) 1 207 := ⟨by decide +kernel, rfl⟩
theorem d_L_law_207 : gD cL_law 207 (.iadd) 1 208 := ⟨by decide +kernel, rfl⟩
theorem d_L_law_208 : gD cL_law 208 (.iaload) 1 209 := ⟨by decide +kernel, rfl⟩
theorem d_L_law_209 : gD cL_law 209 (.aload_n 0) 1 210 := ⟨by decide +kernel, rfl⟩
theorem d_L_law_210 : gD cL_law 210 (.iload_n 3) 1 211 := ⟨by decide +kernel, rfl⟩
theorem d_L_law_211 : gD cL_law 211 (.iconst 5) 1 212 := ⟨by decide +kernel, rfl⟩
theorem d_L_law_212 : gD cL_law 212 (.iadd) 1 213 := ⟨by decide +kernel, rfl⟩
theorem d_L_law_213 : gD cL_law 213 (.iaload) 1 214 := ⟨by decide +kernel, rfl⟩
theorem d_L_law_214 : gD cL_law 214 (.invokevirtual 13) 3 217 := ⟨by decide +kernel, rfl⟩
theorem d_L_law_217 : gD cL_law 217 (.aload_n 2) 1 218 := ⟨by decide +kernel, rfl⟩
theorem d_L_law_218 : gD cL_law 218 (.aload_n 0) 1 219 := ⟨by decide +kernel, rfl⟩
theorem d_L_law_219 : gD cL_law 219 (.iload_n 3) 1 220 := ⟨by decide +kernel, rfl⟩
theorem d_L_law_220 : gD cL_law 220 (.iconst 1) 1 221 := ⟨by decide +kernel, rfl⟩
theorem d_L_law_221 : gD cL_law 221 (.iadd) 1 222 := ⟨by decide +kernel, rfl⟩
theorem d_L_law_222 : gD cL_law 222 (.iaload) 1 223 := ⟨by decide +kernel, rfl⟩
theorem d_L_law_223 : gD cL_law 223 (.aload_n 0) 1 224 := ⟨by decide +kernel, rfl⟩
theorem d_L_law_224 : gD cL_law 224 (.iload_n 3) 1 225 := ⟨by decide +kernel, rfl⟩
theorem d_L_law_225 : gD cL_law 225 (.iconst 2) 1 226 := ⟨by decide +kernel, rfl⟩
theorem d_L_law_226 : gD cL_law 226 (.iadd) 1 227 := ⟨by decide +kernel, rfl⟩
theorem d_L_law_227 : gD cL_law 227 (.iaload) 1 228 := ⟨by decide +kernel, rfl⟩
theorem d_L_law_228 : gD cL_law 228 (.aload_n 0) 1 229 := ⟨by decide +kernel, rfl⟩
theorem d_L_law_229 : gD cL_law 229 (.iload_n 3) 1 230 := ⟨by decide +kernel, rfl⟩
theorem d_L_law_230 : gD cL_law 230 (.iconst 3) 1 231 := ⟨by decide +kernel, rfl⟩
theorem d_L_law_231 : gD cL_law 231 (.iadd) 1 232 := ⟨by decide +kernel, rfl⟩
theorem d_L_law_232 : gD cL_law 232 (.iaload) 1 233 := ⟨by decide +kernel, rfl⟩
theorem d_L_law_233 : gD cL_law 233 (.aload_n 0) 1 234 := ⟨by decide +kernel, rfl⟩
theorem d_L_law_234 : gD cL_law 234 (.iload_n 3) 1 235 := ⟨by decide +kernel, rfl⟩
theorem d_L_law_235 : gD cL_law 235 (.iconst 4) 1 236 := ⟨by decide +kernel, rfl⟩
theorem d_L_law_236 : gD cL_law 236 (.iadd) 1 237 := ⟨by decide +kernel, rfl⟩
theorem d_L_law_237 : gD cL_law 237 (.iaload) 1 238 := ⟨by decide +kernel, rfl⟩
theorem d_L_law_238 : gD cL_law 238 (.aload_n 0) 1 239 := ⟨by decide +kernel, rfl⟩
theorem d_L_law_239 : gD cL_law 239 (.iload_n 3) 1 240 := ⟨by decide +kernel, rfl⟩
theorem d_L_law_240 : gD cL_law 240 (.iconst 5) 1 241 := ⟨by decide +kernel, rfl⟩
theorem d_L_law_241 : gD cL_law 241 (.iadd) 1 242 := ⟨by decide +kernel, rfl⟩
theorem d_L_law_242 : gD cL_law 242 (.iaload) 1 243 := ⟨by decide +kernel, rfl⟩
theorem d_L_law_243 : gD cL_law 243 (.invokevirtual 17) 3 246 := ⟨by decide +kernel, rfl⟩
theorem d_L_law_246 : gD cL_law 246 (.if_icmp .eq 1568) 3 249 ∧ ((246 : Nat) : Int) + 1568 = ((1814 : Nat) : Int) := ⟨⟨by decide +kernel, rfl⟩, by decide⟩
theorem d_L_law_249 : gD cL_law 249 (.iconst 0) 1 250 := ⟨by decide +kernel, rfl⟩
theorem d_L_law_250 : gD cL_law 250 (.ireturn) 1 251 := ⟨by decide +kernel, rfl⟩
theorem d_L_law_251 : gD cL_law 251 (.aload_n 1) 1 252 := ⟨by decide +kernel, rfl⟩
theorem d_L_law_252 : gD cL_law 252 (.aload_n 0) 1 253 := ⟨by decide +kernel, rfl⟩
theorem d_L_law_253 : gD cL_law 253 (.iload_n 3) 1 254 := ⟨by decide +kernel, rfl⟩
theorem d_L_law_254 : gD cL_law 254 (.iconst 1) 1 255 := ⟨by decide +kernel, rfl⟩
theorem d_L_law_255 : gD cL_law 255 (.iadd) 1 256 := ⟨by decide +kernel, rfl⟩
theorem d_L_law_256 : gD cL_law 256 (.iaload) 1 257 := ⟨by decide +kernel, rfl⟩
theorem d_L_law_257 : gD cL_law 257 (.invokevirtual 18) 3 260 := ⟨by decide +kernel, rfl⟩
theorem d_L_law_260 : gD cL_law 260 (.aload_n 2) 1 261 := ⟨by decide +kernel, rfl⟩
theorem d_L_law_261 : gD cL_law 261 (.aload_n 0) 1 262 := ⟨by decide +kernel, rfl⟩
theorem d_L_law_262 : gD cL_law 262 (.iload_n 3) 1 263 := ⟨by decide +kernel, rfl⟩
theorem d_L_law_263 : gD cL_law 263 (.iconst 1) 1 264 := ⟨by decide +kernel, rfl⟩
theorem d_L_law_264 : gD cL_law 264 (.iadd) 1 265 := ⟨by decide +kernel, rfl⟩
theorem d_L_law_265 : gD cL_law 265 (.iaload) 1 266 := ⟨by decide +kernel, rfl⟩
theorem d_L_law_266 : gD cL_law 266 (.invokevirtual 22) 3 269 := ⟨by decide +kernel, rfl⟩
theorem d_L_law_269 : gD cL_law 269 (.if_icmp .eq 1545) 3 272 ∧ ((269 : Nat) : Int) + 1545 = ((1814 : Nat) : Int) := ⟨⟨by decide +kernel, rfl⟩, by decide⟩
theorem d_L_law_272 : gD cL_law 272 (.iconst 0) 1 273 := ⟨by decide +kernel, rfl⟩
theorem d_L_law_273 : gD cL_law 273 (.ireturn) 1 274 := ⟨by decide +kernel, rfl⟩
theorem d_L_law_274 : gD cL_law 274 (.aload_n 1) 1 275 := ⟨by decide +kernel, rfl⟩
theorem d_L_law_275 : gD cL_law 275 (.aload_n 0) 1 276 := ⟨by decide +kernel, rfl⟩
theorem d_L_law_276 : gD cL_law 276 (.iload_n 3) 1 277 := ⟨by decide +kernel, rfl⟩
theorem d_L_law_277 : gD cL_law 277 (.iconst 1) 1 278 := ⟨by decide +kernel, rfl⟩
theorem d_L_law_278 : gD cL_law 278 (.iadd) 1 279 := ⟨by decide +kernel, rfl⟩
theorem d_L_law_279 : gD cL_law 279 (.iaload) 1 280 := ⟨by decide +kernel, rfl⟩
theorem d_L_law_280 : gD cL_law 280 (.aload_n 0) 1 281 := ⟨by decide +kernel, rfl⟩
theorem d_L_law_281 : gD cL_law 281 (.iload_n 3) 1 282 := ⟨by decide +kernel, rfl⟩
theorem d_L_law_282 : gD cL_law 282 (.iconst 2) 1 283 := ⟨by decide +kernel, rfl⟩
theorem d_L_law_283 : gD cL_law 283 (.iadd) 1 284 := ⟨by decide +kernel, rfl⟩
theorem d_L_law_284 : gD cL_law 284 (.iaload) 1 285 := ⟨by decide +kernel, rfl⟩
theorem d_L_law_285 : gD cL_law 285 (.invokevirtual 23) 3 288 := ⟨by decide +kernel, rfl⟩
theorem d_L_law_288 : gD cL_law 288 (.aload_n 2) 1 289 := ⟨by decide +kernel, rfl⟩
theorem d_L_law_289 : gD cL_law 289 (.aload_n 0) 1 290 := ⟨by decide +kernel, rfl⟩
theorem d_L_law_290 : gD cL_law 290 (.iload_n 3) 1 291 := ⟨by decide +kernel, rfl⟩
theorem d_L_law_291 : gD cL_law 291 (.iconst 1) 1 292 := ⟨by decide +kernel, rfl⟩
theorem d_L_law_292 : gD cL_law 292 (.iadd) 1 293 := ⟨by decide +kernel, rfl⟩
theorem d_L_law_293 : gD cL_law 293 (.iaload) 1 294 := ⟨by decide +kernel, rfl⟩
theorem d_L_law_294 : gD cL_law 294 (.aload_n 0) 1 295 := ⟨by decide +kernel, rfl⟩
theorem d_L_law_295 : gD cL_law 295 (.iload_n 3) 1 296 := ⟨by decide +kernel, rfl⟩
theorem d_L_law_296 : gD cL_law 296 (.iconst 2) 1 297 := ⟨by decide +kernel, rfl⟩
theorem d_L_law_297 : gD cL_law 297 (.iadd) 1 298 := ⟨by decide +kernel, rfl⟩
theorem d_L_law_298 : gD cL_law 298 (.iaload) 1 299 := ⟨by decide +kernel, rfl⟩
theorem d_L_law_299 : gD cL_law 299 (.invokevirtual 27) 3 302 := ⟨by decide +kernel, rfl⟩
theorem d_L_law_302 : gD cL_law 302 (.if_icmp .eq 1512) 3 305 ∧ ((302 : Nat) : Int) + 1512 = ((1814 : Nat) : Int) := ⟨⟨by decide +kernel, rfl⟩, by decide⟩
theorem d_L_law_305 : gD cL_law 305 (.iconst 0) 1 306 := ⟨by decide +kernel, rfl⟩
theorem d_L_law_306 : gD cL_law 306 (.ireturn) 1 307 := ⟨by decide +kernel, rfl⟩
theorem d_L_law_307 : gD cL_law 307 (.aload_n 1) 1 308 := ⟨by decide +kernel, rfl⟩
theorem d_L_law_308 : gD cL_law 308 (.aload_n 0) 1 309 := ⟨by decide +kernel, rfl⟩
theorem d_L_law_309 : gD cL_law 309 (.iload_n 3) 1 310 := ⟨by decide +kernel, rfl⟩
theorem d_L_law_310 : gD cL_law 310 (.iconst 1) 1 311 := ⟨by decide +kernel, rfl⟩
theorem d_L_law_311 : gD cL_law 311 (.iadd) 1 312 := ⟨by decide +kernel, rfl⟩
theorem d_L_law_312 : gD cL_law 312 (.iaload) 1 313 := ⟨by decide +kernel, rfl⟩
theorem d_L_law_313 : gD cL_law 313 (.invokevirtual 28) 3 316 := ⟨by decide +kernel, rfl⟩
theorem d_L_law_316 : gD cL_law 316 (.aload_n 2) 1 317 := ⟨by decide +kernel, rfl⟩
theorem d_L_law_317 : gD cL_law 317 (.aload_n 0) 1 318 := ⟨by decide +kernel, rfl⟩
theorem d_L_law_318 : gD cL_law 318 (.iload_n 3) 1 319 := ⟨by decide +kernel, rfl⟩
theorem d_L_law_319 : gD cL_law 319 (.iconst 1) 1 320 := ⟨by decide +kernel, rfl⟩
theorem d_L_law_320 : gD cL_law 320 (.iadd) 1 321 := ⟨by decide +kernel, rfl⟩
theorem d_L_law_321 : gD cL_law 321 (.iaload) 1 322 := ⟨by decide +kernel, rfl⟩
theorem d_L_law_322 : gD cL_law 322 (.invokevirtual 31) 3 325 := ⟨by decide +kernel, rfl⟩
theorem d_L_law_325 : gD cL_law 325 (.if_icmp .eq 1489) 3 328 ∧ ((325 : Nat) : Int) + 1489 = ((1814 : Nat) : Int) := ⟨⟨by decide +kernel, rfl⟩, by decide⟩
theorem d_L_law_328 : gD cL_law 328 (.iconst 0) 1 329 := ⟨by decide +kernel, rfl⟩
theorem d_L_law_329 : gD cL_law 329 (.ireturn) 1 330 := ⟨by decide +kernel, rfl⟩
theorem d_L_law_330 : gD cL_law 330 (.aload_n 1) 1 331 := ⟨by decide +kernel, rfl⟩
theorem d_L_law_331 : gD cL_law 331 (.aload_n 0) 1 332 := ⟨by decide +kernel, rfl⟩
theorem d_L_law_332 : gD cL_law 332 (.iload_n 3) 1 333 := ⟨by decide +kernel, rfl⟩
theorem d_L_law_333 : gD cL_law 333 (.iconst 1) 1 334 := ⟨by decide +kernel, rfl⟩
theorem d_L_law_334 : gD cL_law 334 (.iadd) 1 335 := ⟨by decide +kernel, rfl⟩
theorem d_L_law_335 : gD cL_law 335 (.iaload) 1 336 := ⟨by decide +kernel, rfl⟩
theorem d_L_law_336 : gD cL_law 336 (.aload_n 0) 1 337 := ⟨by decide +kernel, rfl⟩
theorem d_L_law_337 : gD cL_law 337 (.iload_n 3) 1 338 := ⟨by decide +kernel, rfl⟩
theorem d_L_law_338 : gD cL_law 338 (.iconst 2) 1 339 := ⟨by decide +kernel, rfl⟩
theorem d_L_law_339 : gD cL_law 339 (.iadd) 1 340 := ⟨by decide +kernel, rfl⟩
theorem d_L_law_340 : gD cL_law 340 (.iaload) 1 341 := ⟨by decide +kernel, rfl⟩
theorem d_L_law_341 : gD cL_law 341 (.invokevirtual 32) 3 344 := ⟨by decide +kernel, rfl⟩
theorem d_L_law_344 : gD cL_law 344 (.aload_n 2) 1 345 := ⟨by decide +kernel, rfl⟩
theorem d_L_law_345 : gD cL_law 345 (.aload_n 0) 1 346 := ⟨by decide +kernel, rfl⟩
theorem d_L_law_346 : gD cL_law 346 (.iload_n 3) 1 347 := ⟨by decide +kernel, rfl⟩
theorem d_L_law_347 : gD cL_law 347 (.iconst 1) 1 348 := ⟨by decide +kernel, rfl⟩
theorem d_L_law_348 : gD cL_law 348 (.iadd) 1 349 := ⟨by decide +kernel, rfl⟩
theorem d_L_law_349 : gD cL_law 349 (.iaload) 1 350 := ⟨by decide +kernel, rfl⟩
theorem d_L_law_350 : gD cL_law 350 (.aload_n 0) 1 351 := ⟨by decide +kernel, rfl⟩
theorem d_L_law_351 : gD cL_law 351 (.iload_n 3) 1 352 := ⟨by decide +kernel, rfl⟩
theorem d_L_law_352 : gD cL_law 352 (.iconst 2) 1 353 := ⟨by decide +kernel, rfl⟩
theorem d_L_law_353 : gD cL_law 353 (.iadd) 1 354 := ⟨by decide +kernel, rfl⟩
theorem d_L_law_354 : gD cL_law 354 (.iaload) 1 355 := ⟨by decide +kernel, rfl⟩
theorem d_L_law_355 : gD cL_law 355 (.invokevirtual 35) 3 358 := ⟨by decide +kernel, rfl⟩
theorem d_L_law_358 : gD cL_law 358 (.if_icmp .eq 1456) 3 361 ∧ ((358 : Nat) : Int) + 1456 = ((1814 : Nat) : Int) := ⟨⟨by decide +kernel, rfl⟩, by decide⟩
theorem d_L_law_361 : gD cL_law 361 (.iconst 0) 1 362 := ⟨by decide +kernel, rfl⟩
theorem d_L_law_362 : gD cL_law 362 (.ireturn) 1 363 := ⟨by decide +kernel, rfl⟩
theorem d_L_law_363 : gD cL_law 363 (.aload_n 1) 1 364 := ⟨by decide +kernel, rfl⟩
theorem d_L_law_364 : gD cL_law 364 (.aload_n 0) 1 365 := ⟨by decide +kernel, rfl⟩
theorem d_L_law_365 : gD cL_law 365 (.iload_n 3) 1 366 := ⟨by decide +kernel, rfl⟩
theorem d_L_law_366 : gD cL_law 366 (.iconst 1) 1 367 := ⟨by decide +kernel, rfl⟩
theorem d_L_law_367 : gD cL_law 367 (.iadd) 1 368 := ⟨by decide +kernel, rfl⟩
theorem d_L_law_368 : gD cL_law 368 (.iaload) 1 369 := ⟨by decide +kernel, rfl⟩
theorem d_L_law_369 : gD cL_law 369 (.aload_n 0) 1 370 := ⟨by decide +kernel, rfl⟩
theorem d_L_law_370 : gD cL_law 370 (.iload_n 3) 1 371 := ⟨by decide +kernel, rfl⟩
theorem d_L_law_371 : gD cL_law 371 (.iconst 2) 1 372 := ⟨by decide +kernel, rfl⟩
theorem d_L_law_372 : gD cL_law 372 (.iadd) 1 373 := ⟨by decide +kernel, rfl⟩
theorem d_L_law_373 : gD cL_law 373 (.iaload) 1 374 := ⟨by decide +kernel, rfl⟩
theorem d_L_law_374 : gD cL_law 374 (.aload_n 0) 1 375 := ⟨by decide +kernel, rfl⟩
theorem d_L_law_375 : gD cL_law 375 (.iload_n 3) 1 376 := ⟨by decide +kernel, rfl⟩
theorem d_L_law_376 : gD cL_law 376 (.iconst 3) 1 377 := ⟨by decide +kernel, rfl⟩
theorem d_L_law_377 : gD cL_law 377 (.iadd) 1 378 := ⟨by decide +kernel, rfl⟩
theorem d_L_law_378 : gD cL_law 378 (.iaload) 1 379 := ⟨by decide +kernel, rfl⟩
theorem d_L_law_379 : gD cL_law 379 (.invokevirtual 36) 3 382 := ⟨by decide +kernel, rfl⟩
theorem d_L_law_382 : gD cL_law 382 (.aload_n 2) 1 383 := ⟨by decide +kernel, rfl⟩
theorem d_L_law_383 : gD cL_law 383 (.aload_n 0) 1 384 := ⟨by decide +kernel, rfl⟩
theorem d_L_law_384 : gD cL_law 384 (.iload_n 3) 1 385 := ⟨by decide +kernel, rfl⟩
theorem d_L_law_385 : gD cL_law 385 (.iconst 1) 1 386 := ⟨by decide +kernel, rfl⟩
theorem d_L_law_386 : gD cL_law 386 (.iadd) 1 387 := ⟨by decide +kernel, rfl⟩
theorem d_L_law_387 : gD cL_law 387 (.iaload) 1 388 := ⟨by decide +kernel, rfl⟩
theorem d_L_law_388 : gD cL_law 388 (.aload_n 0) 1 389 := ⟨by decide +kernel, rfl⟩
theorem d_L_law_389 : gD cL_law 389 (.iload_n 3) 1 390 := ⟨by decide +kernel, rfl⟩
theorem d_L_law_390 : gD cL_law 390 (.iconst 2) 1 391 := ⟨by decide +kernel, rfl⟩
theorem d_L_law_391 : gD cL_law 391 (.iadd) 1 392 := ⟨by decide +kernel, rfl⟩
theorem d_L_law_392 : gD cL_law 392 (.iaload) 1 393 := ⟨by decide +kernel, rfl⟩
theorem d_L_law_393 : gD cL_law 393 (.aload_n 0) 1 394 := ⟨by decide +kernel, rfl⟩
theorem d_L_law_394 : gD cL_law 394 (.iload_n 3) 1 395 := ⟨by decide +kernel, rfl⟩
theorem d_L_law_395 : gD cL_law 395 (.iconst 3) 1 396 := ⟨by decide +kernel, rfl⟩
theorem d_L_law_396 : gD cL_law 396 (.iadd) 1 397 := ⟨by decide +kernel, rfl⟩
theorem d_L_law_397 : gD cL_law 397 (.iaload) 1 398 := ⟨by decide +kernel, rfl⟩
theorem d_L_law_398 : gD cL_law 398 (.invokevirtual 40) 3 401 := ⟨by decide +kernel, rfl⟩
theorem d_L_law_401 : gD cL_law 401 (.if_icmp .eq 1413) 3 404 ∧ ((401 : Nat) : Int) + 1413 = ((1814 : Nat) : Int) := ⟨⟨by decide +kernel, rfl⟩, by decide⟩
theorem d_L_law_404 : gD cL_law 404 (.iconst 0) 1 405 := ⟨by decide +kernel, rfl⟩
theorem d_L_law_405 : gD cL_law 405 (.ireturn) 1 406 := ⟨by decide +kernel, rfl⟩
theorem d_L_law_406 : gD cL_law 406 (.aload_n 1) 1 407 := ⟨by decide +kernel, rfl⟩
theorem d_L_law_407 : gD cL_law 407 (.aload_n 0) 1 408 := ⟨by decide +kernel, rfl⟩
theorem d_L_law_408 : gD cL_law 408 (.iload_n 3) 1 409 := ⟨by decide +kernel, rfl⟩
theorem d_L_law_409 : gD cL_law 409 (.iconst 1) 1 410 := ⟨by decide +kernel, rfl⟩
theorem d_L_law_410 : gD cL_law 410 (.iadd) 1 411 := ⟨by decide +kernel, rfl⟩
theorem d_L_law_411 : gD cL_law 411 (.iaload) 1 412 := ⟨by decide +kernel, rfl⟩
theorem d_L_law_412 : gD cL_law 412 (.aload_n 0) 1 413 := ⟨by decide +kernel, rfl⟩
theorem d_L_law_413 : gD cL_law 413 (.iload_n 3) 1 414 := ⟨by decide +kernel, rfl⟩
theorem d_L_law_414 : gD cL_law 414 (.iconst 2) 1 415 := ⟨by decide +kernel, rfl⟩
theorem d_L_law_415 : gD cL_law 415 (.iadd) 1 416 := ⟨by decide +kernel, rfl⟩
theorem d_L_law_416 : gD cL_law 416 (.iaload) 1 417 := ⟨by decide +kernel, rfl⟩
theorem d_L_law_417 : gD cL_law 417 (.aload_n 0) 1 418 := ⟨by decide +kernel, rfl⟩
theorem d_L_law_418 : gD cL_law 418 (.iload_n 3) 1 419 := ⟨by decide +kernel, rfl⟩
theorem d_L_law_419 : gD cL_law 419 (.iconst 3) 1 420 := ⟨by decide +kernel, rfl⟩
theorem d_L_law_420 : gD cL_law 420 (.iadd) 1 421 := ⟨by decide +kernel, rfl⟩
theorem d_L_law_421 : gD cL_law 421 (.iaload) 1 422 := ⟨by decide +kernel, rfl⟩
theorem d_L_law_422 : gD cL_law 422 (.aload_n 0) 1 423 := ⟨by decide +kernel, rfl⟩
theorem d_L_law_423 : gD cL_law 423 (.iload_n 3) 1 424 := ⟨by decide +kernel, rfl⟩
theorem d_L_law_424 : gD cL_law 424 (.iconst 4) 1 425 := ⟨by decide +kernel, rfl⟩
theorem d_L_law_425 : gD cL_law 425 (.iadd) 1 426 := ⟨by decide +kernel, rfl⟩
theorem d_L_law_426 : gD cL_law 426 (.iaload) 1 427 := ⟨by decide +kernel, rfl⟩
theorem d_L_law_427 : gD cL_law 427 (.invokevirtual 41) 3 430 := ⟨by decide +kernel, rfl⟩
theorem d_L_law_430 : gD cL_law 430 (.aload_n 2) 1 431 := ⟨by decide +kernel, rfl⟩
theorem d_L_law_431 : gD cL_law 431 (.aload_n 0) 1 432 := ⟨by decide +kernel, rfl⟩
theorem d_L_law_432 : gD cL_law 432 (.iload_n 3) 1 433 := ⟨by decide +kernel, rfl⟩
theorem d_L_law_433 : gD cL_law 433 (.iconst 1) 1 434 := ⟨by decide +kernel, rfl⟩
theorem d_L_law_434 : gD cL_law 434 (.iadd) 1 435 := ⟨by decide +kernel, rfl⟩
theorem d_L_law_435 : gD cL_law 435 (.iaload) 1 436 := ⟨by decide +kernel, rfl⟩
theorem d_L_law_436 : gD cL_law 436 (.aload_n 0) 1 437 := ⟨by decide +kernel, rfl⟩
theorem d_L_law_437 : gD cL_law 437 (.iload_n 3) 1 438 := ⟨by decide +kernel, rfl⟩
theorem d_L_law_438 : gD cL_law 438 (.iconst 2) 1 439 := ⟨by decide +kernel, rfl⟩
theorem d_L_law_439 : gD cL_law 439 (.iadd) 1 440 := ⟨by decide +kernel, rfl⟩
theorem d_L_law_440 : gD cL_law 440 (.iaload) 1 441 := ⟨by decide +kernel, rfl⟩
theorem d_L_law_441 : gD cL_law 441 (.aload_n 0) 1 442 := ⟨by decide +kernel, rfl⟩
theorem d_L_law_442 : gD cL_law 442 (.iload_n 3) 1 443 := ⟨by decide +kernel, rfl⟩
theorem d_L_law_443 : gD cL_law 443 (.iconst 3) 1 444 := ⟨by decide +kernel, rfl⟩
theorem d_L_law_444 : gD cL_law 444 (.iadd) 1 445 := ⟨by decide +kernel, rfl⟩
theorem d_L_law_445 : gD cL_law 445 (.iaload) 1 446 := ⟨by decide +kernel, rfl⟩
theorem d_L_law_446 : gD cL_law 446 (.aload_n 0) 1 447 := ⟨by decide +kernel, rfl⟩
theorem d_L_law_447 : gD cL_law 447 (.iload_n 3) 1 448 := ⟨by decide +kernel, rfl⟩
theorem d_L_law_448 : gD cL_law 448 (.iconst 4) 1 449 := ⟨by decide +kernel, rfl⟩
theorem d_L_law_449 : gD cL_law 449 (.iadd) 1 450 := ⟨by decide +kernel, rfl⟩
theorem d_L_law_450 : gD cL_law 450 (.iaload) 1 451 := ⟨by decide +kernel, rfl⟩
theorem d_L_law_451 : gD cL_law 451 (.invokevirtual 45) 3 454 := ⟨by decide +kernel, rfl⟩
theorem d_L_law_454 : gD cL_law 454 (.if_icmp .eq 1360) 3 457 ∧ ((454 : Nat) : Int) + 1360 = ((1814 : Nat) : Int) := ⟨⟨by decide +kernel, rfl⟩, by decide⟩
theorem d_L_law_457 : gD cL_law 457 (.iconst 0) 1 458 := ⟨by decide +kernel, rfl⟩
theorem d_L_law_458 : gD cL_law 458 (.ireturn) 1 459 := ⟨by decide +kernel, rfl⟩
theorem d_L_law_459 : gD cL_law 459 (.aload_n 1) 1 460 := ⟨by decide +kernel, rfl⟩
theorem d_L_law_460 : gD cL_law 460 (.aload_n 0) 1 461 := ⟨by decide +kernel, rfl⟩
theorem d_L_law_461 : gD cL_law 461 (.iload_n 3) 1 462 := ⟨by decide +kernel, rfl⟩
theorem d_L_law_462 : gD cL_law 462 (.iconst 1) 1 463 := ⟨by decide +kernel, rfl⟩
theorem d_L_law_463 : gD cL_law 463 (.iadd) 1 464 := ⟨by decide +kernel, rfl⟩
theorem d_L_law_464 : gD cL_law 464 (.iaload) 1 465 := ⟨by decide +kernel, rfl⟩
theorem d_L_law_465 : gD cL_law 465 (.aload_n 0) 1 466 := ⟨by decide +kernel, rfl⟩
theorem d_L_law_466 : gD cL_law 466 (.iload_n 3) 1 467 := ⟨by decide +kernel, rfl⟩
theorem d_L_law_467 : gD cL_law 467 (.iconst 2) 1 468 := ⟨by decide +kernel, rfl⟩
theorem d_L_law_468 : gD cL_law 468 (.iadd) 1 469 := ⟨by decide +kernel, rfl⟩
theorem d_L_law_469 : gD cL_law 469 (.iaload) 1 470 := ⟨by decide +kernel, rfl⟩
theorem d_L_law_470 : gD cL_law 470 (.aload_n 0) 1 471 := ⟨by decide +kernel, rfl⟩
theorem d_L_law_471 : gD cL_law 471 (.iload_n 3) 1 472 := ⟨by decide +kernel, rfl⟩
theorem d_L_law_472 : gD cL_law 472 (.iconst 3) 1 473 := ⟨by decide +kernel, rfl⟩
theorem d_L_law_473 : gD cL_law 473 (.iadd) 1 474 := ⟨by decide +kernel, rfl⟩
theorem d_L_law_474 : gD cL_law 474 (.iaload) 1 475 := ⟨by decide +kernel, rfl⟩
theorem d_L_law_475 : gD cL_law 475 (.invokevirtual 46) 3 478 := ⟨by decide +kernel, rfl⟩
theorem d_L_law_478 : gD cL_law 478 (.aload_n 2) 1 479 := ⟨by decide +kernel, rfl⟩
theorem d_L_law_479 : gD cL_law 479 (.aload_n 0) 1 480 := ⟨by decide +kernel, rfl⟩
theorem d_L_law_480 : gD cL_law 480 (.iload_n 3) 1 481 := ⟨by decide +kernel, rfl⟩
theorem d_L_law_481 : gD cL_law 481 (.iconst 1) 1 482 := ⟨by decide +kernel, rfl⟩
theorem d_L_law_482 : gD cL_law 482 (.iadd) 1 483 := ⟨by decide +kernel, rfl⟩
theorem d_L_law_483 : gD cL_law 483 (.iaload) 1 484 := ⟨by decide +kernel, rfl⟩
theorem d_L_law_484 : gD cL_law 484 (.aload_n 0) 1 485 := ⟨by decide +kernel, rfl⟩
theorem d_L_law_485 : gD cL_law 485 (.iload_n 3) 1 486 := ⟨by decide +kernel, rfl⟩
theorem d_L_law_486 : gD cL_law 486 (.iconst 2) 1 487 := ⟨by decide +kernel, rfl⟩
theorem d_L_law_487 : gD cL_law 487 (.iadd) 1 488 := ⟨by decide +kernel, rfl⟩
theorem d_L_law_488 : gD cL_law 488 (.iaload) 1 489 := ⟨by decide +kernel, rfl⟩
theorem d_L_law_489 : gD cL_law 489 (.aload_n 0) 1 490 := ⟨by decide +kernel, rfl⟩
theorem d_L_law_490 : gD cL_law 490 (.iload_n 3) 1 491 := ⟨by decide +kernel, rfl⟩
theorem d_L_law_491 : gD cL_law 491 (.iconst 3) 1 492 := ⟨by decide +kernel, rfl⟩
theorem d_L_law_492 : gD cL_law 492 (.iadd) 1 493 := ⟨by decide +kernel, rfl⟩
theorem d_L_law_493 : gD cL_law 493 (.iaload) 1 494 := ⟨by decide +kernel, rfl⟩
theorem d_L_law_494 : gD cL_law 494 (.invokevirtual 49) 3 497 := ⟨by decide +kernel, rfl⟩
theorem d_L_law_497 : gD cL_law 497 (.if_icmp .eq 1317) 3 500 ∧ ((497 : Nat) : Int) + 1317 = ((1814 : Nat) : Int) := ⟨⟨by decide +kernel, rfl⟩, by decide⟩
theorem d_L_law_500 : gD cL_law 500 (.iconst 0) 1 501 := ⟨by decide +kernel, rfl⟩
theorem d_L_law_501 : gD cL_law 501 (.ireturn) 1 502 := ⟨by decide +kernel, rfl⟩
theorem d_L_law_502 : gD cL_law 502 (.aload_n 1) 1 503 := ⟨by decide +kernel, rfl⟩
theorem d_L_law_503 : gD cL_law 503 (.aload_n 0) 1 504 := ⟨by decide +kernel, rfl⟩
theorem d_L_law_504 : gD cL_law 504 (.iload_n 3) 1 505 := ⟨by decide +kernel, rfl⟩
theorem d_L_law_505 : gD cL_law 505 (.iconst 1) 1 506 := ⟨by decide +kernel, rfl⟩
theorem d_L_law_506 : gD cL_law 506 (.iadd) 1 507 := ⟨by decide +kernel, rfl⟩
theorem d_L_law_507 : gD cL_law 507 (.iaload) 1 508 := ⟨by decide +kernel, rfl⟩
theorem d_L_law_508 : gD cL_law 508 (.aload_n 0) 1 509 := ⟨by decide +kernel, rfl⟩
theorem d_L_law_509 : gD cL_law 509 (.iload_n 3) 1 510 := ⟨by decide +kernel, rfl⟩
theorem d_L_law_510 : gD cL_law 510 (.iconst 2) 1 511 := ⟨by decide +kernel, rfl⟩
theorem d_L_law_511 : gD cL_law 511 (.iadd) 1 512 := ⟨by decide +kernel, rfl⟩
theorem d_L_law_512 : gD cL_law 512 (.iaload) 1 513 := ⟨by decide +kernel, rfl⟩
theorem d_L_law_513 : gD cL_law 513 (.invokevirtual 50) 3 516 := ⟨by decide +kernel, rfl⟩
theorem d_L_law_516 : gD cL_law 516 (.aload_n 2) 1 517 := ⟨by decide +kernel, rfl⟩
theorem d_L_law_517 : gD cL_law 517 (.aload_n 0) 1 518 := ⟨by decide +kernel, rfl⟩
theorem d_L_law_518 : gD cL_law 518 (.iload_n 3) 1 519 := ⟨by decide +kernel, rfl⟩
theorem d_L_law_519 : gD cL_law 519 (.iconst 1) 1 520 := ⟨by decide +kernel, rfl⟩
theorem d_L_law_520 : gD cL_law 520 (.iadd) 1 521 := ⟨by decide +kernel, rfl⟩
theorem d_L_law_521 : gD cL_law 521 (.iaload) 1 522 := ⟨by decide +kernel, rfl⟩
theorem d_L_law_522 : gD cL_law 522 (.aload_n 0) 1 523 := ⟨by decide +kernel, rfl⟩
theorem d_L_law_523 : gD cL_law 523 (.iload_n 3) 1 524 := ⟨by decide +kernel, rfl⟩
theorem d_L_law_524 : gD cL_law 524 (.iconst 2) 1 525 := ⟨by decide +kernel, rfl⟩
theorem d_L_law_525 : gD cL_law 525 (.iadd) 1 526 := ⟨by decide +kernel, rfl⟩
theorem d_L_law_526 : gD cL_law 526 (.iaload) 1 527 := ⟨by decide +kernel, rfl⟩
theorem d_L_law_527 : gD cL_law 527 (.invokevirtual 53) 3 530 := ⟨by decide +kernel, rfl⟩
theorem d_L_law_530 : gD cL_law 530 (.if_icmp .eq 1284) 3 533 ∧ ((530 : Nat) : Int) + 1284 = ((1814 : Nat) : Int) := ⟨⟨by decide +kernel, rfl⟩, by decide⟩
theorem d_L_law_533 : gD cL_law 533 (.iconst 0) 1 534 := ⟨by decide +kernel, rfl⟩
theorem d_L_law_534 : gD cL_law 534 (.ireturn) 1 535 := ⟨by decide +kernel, rfl⟩
theorem d_L_law_535 : gD cL_law 535 (.aload_n 1) 1 536 := ⟨by decide +kernel, rfl⟩
theorem d_L_law_536 : gD cL_law 536 (.aload_n 0) 1 537 := ⟨by decide +kernel, rfl⟩
theorem d_L_law_537 : gD cL_law 537 (.iload_n 3) 1 538 := ⟨by decide +kernel, rfl⟩
theorem d_L_law_538 : gD cL_law 538 (.iconst 1) 1 539 := ⟨by decide +kernel, rfl⟩
theorem d_L_law_539 : gD cL_law 539 (.iadd) 1 540 := ⟨by decide +kernel, rfl⟩
theorem d_L_law_540 : gD cL_law 540 (.iaload) 1 541 := ⟨by decide +kernel, rfl⟩
theorem d_L_law_541 : gD cL_law 541 (.aload_n 0) 1 542 := ⟨by decide +kernel, rfl⟩
theorem d_L_law_542 : gD cL_law 542 (.iload_n 3) 1 543 := ⟨by decide +kernel, rfl⟩
theorem d_L_law_543 : gD cL_law 543 (.iconst 2) 1 544 := ⟨by decide +kernel, rfl⟩
theorem d_L_law_544 : gD cL_law 544 (.iadd) 1 545 := ⟨by decide +kernel, rfl⟩
theorem d_L_law_545 : gD cL_law 545 (.iaload) 1 546 := ⟨by decide +kernel, rfl⟩
theorem d_L_law_546 : gD cL_law 546 (.aload_n 0) 1 547 := ⟨by decide +kernel, rfl⟩
theorem d_L_law_547 : gD cL_law 547 (.iload_n 3) 1 548 := ⟨by decide +kernel, rfl⟩
theorem d_L_law_548 : gD cL_law 548 (.iconst 3) 1 549 := ⟨by decide +kernel, rfl⟩
theorem d_L_law_549 : gD cL_law 549 (.iadd) 1 550 := ⟨by decide +kernel, rfl⟩
theorem d_L_law_550 : gD cL_law 550 (.iaload) 1 551 := ⟨by decide +kernel, rfl⟩
theorem d_L_law_551 : gD cL_law 551 (.aload_n 0) 1 552 := ⟨by decide +kernel, rfl⟩
theorem d_L_law_552 : gD cL_law 552 (.iload_n 3) 1 553 := ⟨by decide +kernel, rfl⟩
theorem d_L_law_553 : gD cL_law 553 (.iconst 4) 1 554 := ⟨by decide +kernel, rfl⟩
theorem d_L_law_554 : gD cL_law 554 (.iadd) 1 555 := ⟨by decide +kernel, rfl⟩
theorem d_L_law_555 : gD cL_law 555 (.iaload) 1 556 := ⟨by decide +kernel, rfl⟩
theorem d_L_law_556 : gD cL_law 556 (.invokevirtual 54) 3 559 := ⟨by decide +kernel, rfl⟩
theorem d_L_law_559 : gD cL_law 559 (.aload_n 2) 1 560 := ⟨by decide +kernel, rfl⟩
theorem d_L_law_560 : gD cL_law 560 (.aload_n 0) 1 561 := ⟨by decide +kernel, rfl⟩
theorem d_L_law_561 : gD cL_law 561 (.iload_n 3) 1 562 := ⟨by decide +kernel, rfl⟩
theorem d_L_law_562 : gD cL_law 562 (.iconst 1) 1 563 := ⟨by decide +kernel, rfl⟩
theorem d_L_law_563 : gD cL_law 563 (.iadd) 1 564 := ⟨by decide +kernel, rfl⟩
theorem d_L_law_564 : gD cL_law 564 (.iaload) 1 565 := ⟨by decide +kernel, rfl⟩
theorem d_L_law_565 : gD cL_law 565 (.aload_n 0) 1 566 := ⟨by decide +kernel, rfl⟩
theorem d_L_law_566 : gD cL_law 566 (.iload_n 3) 1 567 := ⟨by decide +kernel, rfl⟩
theorem d_L_law_567 : gD cL_law 567 (.iconst 2) 1 568 := ⟨by decide +kernel, rfl⟩
theorem d_L_law_568 : gD cL_law 568 (.iadd) 1 569 := ⟨by decide +kernel, rfl⟩
theorem d_L_law_569 : gD cL_law 569 (.iaload) 1 570 := ⟨by decide +kernel, rfl⟩
theorem d_L_law_570 : gD cL_law 570 (.aload_n 0) 1 571 := ⟨by decide +kernel, rfl⟩
theorem d_L_law_571 : gD cL_law 571 (.iload_n 3) 1 572 := ⟨by decide +kernel, rfl⟩
theorem d_L_law_572 : gD cL_law 572 (.iconst 3) 1 573 := ⟨by decide +kernel, rfl⟩
theorem d_L_law_573 : gD cL_law 573 (.iadd) 1 574 := ⟨by decide +kernel, rfl⟩
theorem d_L_law_574 : gD cL_law 574 (.iaload) 1 575 := ⟨by decide +kernel, rfl⟩
theorem d_L_law_575 : gD cL_law 575 (.aload_n 0) 1 576 := ⟨by decide +kernel, rfl⟩
theorem d_L_law_576 : gD cL_law 576 (.iload_n 3) 1 577 := ⟨by decide +kernel, rfl⟩
theorem d_L_law_577 : gD cL_law 577 (.iconst 4) 1 578 := ⟨by decide +kernel, rfl⟩
theorem d_L_law_578 : gD cL_law 578 (.iadd) 1 579 := ⟨by decide +kernel, rfl⟩
theorem d_L_law_579 : gD cL_law 579 (.iaload) 1 580 := ⟨by decide +kernel, rfl⟩
theorem d_L_law_580 : gD cL_law 580 (.invokevirtual 57) 3 583 := ⟨by decide +kernel, rfl⟩
theorem d_L_law_583 : gD cL_law 583 (.if_icmp .eq 1231) 3 586 ∧ ((583 : Nat) : Int) + 1231 = ((1814 : Nat) : Int) := ⟨⟨by decide +kernel, rfl⟩, by decide⟩
theorem d_L_law_586 : gD cL_law 586 (.iconst 0) 1 587 := ⟨by decide +kernel, rfl⟩
theorem d_L_law_587 : gD cL_law 587 (.ireturn) 1 588 := ⟨by decide +kernel, rfl⟩
theorem d_L_law_588 : gD cL_law 588 (.aload_n 1) 1 589 := ⟨by decide +kernel, rfl⟩
theorem d_L_law_589 : gD cL_law 589 (.aload_n 0) 1 590 := ⟨by decide +kernel, rfl⟩
theorem d_L_law_590 : gD cL_law 590 (.iload_n 3) 1 591 := ⟨by decide +kernel, rfl⟩
theorem d_L_law_591 : gD cL_law 591 (.iconst 1) 1 592 := ⟨by decide +kernel, rfl⟩
theorem d_L_law_592 : gD cL_law 592 (.iadd) 1 593 := ⟨by decide +kernel, rfl⟩
theorem d_L_law_593 : gD cL_law 593 (.iaload) 1 594 := ⟨by decide +kernel, rfl⟩
theorem d_L_law_594 : gD cL_law 594 (.aload_n 0) 1 595 := ⟨by decide +kernel, rfl⟩
theorem d_L_law_595 : gD cL_law 595 (.iload_n 3) 1 596 := ⟨by decide +kernel, rfl⟩
theorem d_L_law_596 : gD cL_law 596 (.iconst 2) 1 597 := ⟨by decide +kernel, rfl⟩
theorem d_L_law_597 : gD cL_law 597 (.iadd) 1 598 := ⟨by decide +kernel, rfl⟩
theorem d_L_law_598 : gD cL_law 598 (.iaload) 1 599 := ⟨by decide +kernel, rfl⟩
theorem d_L_law_599 : gD cL_law 599 (.aload_n 0) 1 600 := ⟨by decide +kernel, rfl⟩
theorem d_L_law_600 : gD cL_law 600 (.iload_n 3) 1 601 := ⟨by decide +kernel, rfl⟩
theorem d_L_law_601 : gD cL_law 601 (.iconst 3) 1 602 := ⟨by decide +kernel, rfl⟩
theorem d_L_law_602 : gD cL_law 602 (.iadd) 1 603 := ⟨by decide +kernel, rfl⟩
theorem d_L_law_603 : gD cL_law 603 (.iaload) 1 604 := ⟨by decide +kernel, rfl⟩
theorem d_L_law_604 : gD cL_law 604 (.aload_n 0) 1 605 := ⟨by decide +kernel, rfl⟩
theorem d_L_law_605 : gD cL_law 605 (.iload_n 3) 1 606 := ⟨by decide +kernel, rfl⟩
theorem d_L_law_606 : gD cL_law 606 (.iconst 4) 1 607 := ⟨by decide +kernel, rfl⟩
theorem d_L_law_607 : gD cL_law 607 (.iadd) 1 608 := ⟨by decide +kernel, rfl⟩
theorem d_L_law_608 : gD cL_law 608 (.iaload) 1 609 := ⟨by decide +kernel, rfl⟩
theorem d_L_law_609 : gD cL_law 609 (.aload_n 0) 1 610 := ⟨by decide +kernel, rfl⟩
theorem d_L_law_610 : gD cL_law 610 (.iload_n 3) 1 611 := ⟨by decide +kernel, rfl⟩
theorem d_L_law_611 : gD cL_law 611 (.iconst 5) 1 612 := ⟨by decide +kernel, rfl⟩
theorem d_L_law_612 : gD cL_law 612 (.iadd) 1 613 := ⟨by decide +kernel, rfl⟩
theorem d_L_law_613 : gD cL_law 613 (.iaload) 1 614 := ⟨by decide +kernel, rfl⟩
theorem d_L_law_614 : gD cL_law 614 (.invokevirtual 58) 3 617 := ⟨by decide +kernel, rfl⟩
theorem d_L_law_617 : gD cL_law 617 (.aload_n 2) 1 618 := ⟨by decide +kernel, rfl⟩
theorem d_L_law_618 : gD cL_law 618 (.aload_n 0) 1 619 := ⟨by decide +kernel, rfl⟩
theorem d_L_law_619 : gD cL_law 619 (.iload_n 3) 1 620 := ⟨by decide +kernel, rfl⟩
theorem d_L_law_620 : gD cL_law 620 (.iconst 1) 1 621 := ⟨by decide +kernel, rfl⟩
theorem d_L_law_621 : gD cL_law 621 (.iadd) 1 622 := ⟨by decide +kernel, rfl⟩
theorem d_L_law_622 : gD cL_law 622 (.iaload) 1 623 := ⟨by decide +kernel, rfl⟩
theorem d_L_law_623 : gD cL_law 623 (.aload_n 0) 1 624 := ⟨by decide +kernel, rfl⟩
theorem d_L_law_624 : gD cL_law 624 (.iload_n 3) 1 625 := ⟨by decide +kernel, rfl⟩
theorem d_L_law_625 : gD cL_law 625 (.iconst 2) 1 626 := ⟨by decide +kernel, rfl⟩
theorem d_L_law_626 : gD cL_law 626 (.iadd) 1 627 := ⟨by decide +kernel, rfl⟩
theorem d_L_law_627 : gD cL_law 627 (.iaload) 1 628 := ⟨by decide +kernel, rfl⟩
theorem d_L_law_628 : gD cL_law 628 (.aload_n 0) 1 629 := ⟨by decide +kernel, rfl⟩
theorem d_L_law_629 : gD cL_law 629 (.iload_n 3) 1 630 := ⟨by decide +kernel, rfl⟩
theorem d_L_law_630 : gD cL_law 630 (.iconst 3) 1 631 := ⟨by decide +kernel, rfl⟩
theorem d_L_law_631 : gD cL_law 631 (.iadd) 1 632 := ⟨by decide +kernel, rfl⟩
theorem d_L_law_632 : gD cL_law 632 (.iaload) 1 633 := ⟨by decide +kernel, rfl⟩
theorem d_L_law_633 : gD cL_law 633 (.aload_n 0) 1 634 := ⟨by decide +kernel, rfl⟩
theorem d_L_law_634 : gD cL_law 634 (.iload_n 3) 1 635 := ⟨by decide +kernel, rfl⟩
theorem d_L_law_635 : gD cL_law 635 (.iconst 4) 1 636 := ⟨by decide +kernel, rfl⟩
theorem d_L_law_636 : gD cL_law 636 (.iadd) 1 637 := ⟨by decide +kernel, rfl⟩
theorem d_L_law_637 : gD cL_law 637 (.iaload) 1 638 := ⟨by decide +kernel, rfl⟩
theorem d_L_law_638 : gD cL_law 638 (.aload_n 0) 1 639 := ⟨by decide +kernel, rfl⟩
theorem d_L_law_639 : gD cL_law 639 (.iload_n 3) 1 640 := ⟨by decide +kernel, rfl⟩
theorem d_L_law_640 : gD cL_law 640 (.iconst 5) 1 641 := ⟨by decide +kernel, rfl⟩
theorem d_L_law_641 : gD cL_law 641 (.iadd) 1 642 := ⟨by decide +kernel, rfl⟩
theorem d_L_law_642 : gD cL_law 642 (.iaload) 1 643 := ⟨by decide +kernel, rfl⟩
theorem d_L_law_643 : gD cL_law 643 (.invokevirtual 61) 3 646 := ⟨by decide +kernel, rfl⟩
theorem d_L_law_646 : gD cL_law 646 (.if_icmp .eq 1168) 3 649 ∧ ((646 : Nat) : Int) + 1168 = ((1814 : Nat) : Int) := ⟨⟨by decide +kernel, rfl⟩, by decide⟩
theorem d_L_law_649 : gD cL_law 649 (.iconst 0) 1 650 := ⟨by decide +kernel, rfl⟩
theorem d_L_law_650 : gD cL_law 650 (.ireturn) 1 651 := ⟨by decide +kernel, rfl⟩
theorem d_L_law_651 : gD cL_law 651 (.aload_n 1) 1 652 := ⟨by decide +kernel, rfl⟩
theorem d_L_law_652 : gD cL_law 652 (.aload_n 0) 1 653 := ⟨by decide +kernel, rfl⟩
theorem d_L_law_653 : gD cL_law 653 (.iload_n 3) 1 654 := ⟨by decide +kernel, rfl⟩
theorem d_L_law_654 : gD cL_law 654 (.iconst 1) 1 655 := ⟨by decide +kernel, rfl⟩
theorem d_L_law_655 : gD cL_law 655 (.iadd) 1 656 := ⟨by decide +kernel, rfl⟩
theorem d_L_law_656 : gD cL_law 656 (.iaload) 1 657 := ⟨by decide +kernel, rfl⟩
theorem d_L_law_657 : gD cL_law 657 (.aload_n 0) 1 658 := ⟨by decide +kernel, rfl⟩
theorem d_L_law_658 : gD cL_law 658 (.iload_n 3) 1 659 := ⟨by decide +kernel, rfl⟩
theorem d_L_law_659 : gD cL_law 659 (.iconst 2) 1 660 := ⟨by decide +kernel, rfl⟩
theorem d_L_law_660 : gD cL_law 660 (.iadd) 1 661 := ⟨by decide +kernel, rfl⟩
theorem d_L_law_661 : gD cL_law 661 (.iaload) 1 662 := ⟨by decide +kernel, rfl⟩
theorem d_L_law_662 : gD cL_law 662 (.invokevirtual 62) 3 665 := ⟨by decide +kernel, rfl⟩
theorem d_L_law_665 : gD cL_law 665 (.aload_n 2) 1 666 := ⟨by decide +kernel, rfl⟩
theorem d_L_law_666 : gD cL_law 666 (.aload_n 0) 1 667 := ⟨by decide +kernel, rfl⟩
theorem d_L_law_667 : gD cL_law 667 (.iload_n 3) 1 668 := ⟨by decide +kernel, rfl⟩
theorem d_L_law_668 : gD cL_law 668 (.iconst 1) 1 669 := ⟨by decide +kernel, rfl⟩
theorem d_L_law_669 : gD cL_law 669 (.iadd) 1 670 := ⟨by decide +kernel, rfl⟩
theorem d_L_law_670 : gD cL_law 670 (.iaload) 1 671 := ⟨by decide +kernel, rfl⟩
theorem d_L_law_671 : gD cL_law 671 (.aload_n 0) 1 672 := ⟨by decide +kernel, rfl⟩
theorem d_L_law_672 : gD cL_law 672 (.iload_n 3) 1 673 := ⟨by decide +kernel, rfl⟩
theorem d_L_law_673 : gD cL_law 673 (.iconst 2) 1 674 := ⟨by decide +kernel, rfl⟩
theorem d_L_law_674 : gD cL_law 674 (.iadd) 1 675 := ⟨by decide +kernel, rfl⟩
theorem d_L_law_675 : gD cL_law 675 (.iaload) 1 676 := ⟨by decide +kernel, rfl⟩
theorem d_L_law_676 : gD cL_law 676 (.invokevirtual 65) 3 679 := ⟨by decide +kernel, rfl⟩
theorem d_L_law_679 : gD cL_law 679 (.if_icmp .eq 1135) 3 682 ∧ ((679 : Nat) : Int) + 1135 = ((1814 : Nat) : Int) := ⟨⟨by decide +kernel, rfl⟩, by decide⟩
theorem d_L_law_682 : gD cL_law 682 (.iconst 0) 1 683 := ⟨by decide +kernel, rfl⟩
theorem d_L_law_683 : gD cL_law 683 (.ireturn) 1 684 := ⟨by decide +kernel, rfl⟩
theorem d_L_law_684 : gD cL_law 684 (.aload_n 1) 1 685 := ⟨by decide +kernel, rfl⟩
theorem d_L_law_685 : gD cL_law 685 (.aload_n 0) 1 686 := ⟨by decide +kernel, rfl⟩
theorem d_L_law_686 : gD cL_law 686 (.iload_n 3) 1 687 := ⟨by decide +kernel, rfl⟩
theorem d_L_law_687 : gD cL_law 687 (.iconst 1) 1 688 := ⟨by decide +kernel, rfl⟩
theorem d_L_law_688 : gD cL_law 688 (.iadd) 1 689 := ⟨by decide +kernel, rfl⟩
theorem d_L_law_689 : gD cL_law 689 (.iaload) 1 690 := ⟨by decide +kernel, rfl⟩
theorem d_L_law_690 : gD cL_law 690 (.aload_n 0) 1 691 := ⟨by decide +kernel, rfl⟩
theorem d_L_law_691 : gD cL_law 691 (.iload_n 3) 1 692 := ⟨by decide +kernel, rfl⟩
theorem d_L_law_692 : gD cL_law 692 (.iconst 2) 1 693 := ⟨by decide +kernel, rfl⟩
theorem d_L_law_693 : gD cL_law 693 (.iadd) 1 694 := ⟨by decide +kernel, rfl⟩
theorem d_L_law_694 : gD cL_law 694 (.iaload) 1 695 := ⟨by decide +kernel, rfl⟩
theorem d_L_law_695 : gD cL_law 695 (.aload_n 0) 1 696 := ⟨by decide +kernel, rfl⟩
theorem d_L_law_696 : gD cL_law 696 (.iload_n 3) 1 697 := ⟨by decide +kernel, rfl⟩
theorem d_L_law_697 : gD cL_law 697 (.iconst 3) 1 698 := ⟨by decide +kernel, rfl⟩
theorem d_L_law_698 : gD cL_law 698 (.iadd) 1 699 := ⟨by decide +kernel, rfl⟩
theorem d_L_law_699 : gD cL_law 699 (.iaload) 1 700 := ⟨by decide +kernel, rfl⟩
theorem d_L_law_700 : gD cL_law 700 (.invokevirtual 66) 3 703 := ⟨by decide +kernel, rfl⟩
theorem d_L_law_703 : gD cL_law 703 (.aload_n 2) 1 704 := ⟨by decide +kernel, rfl⟩
theorem d_L_law_704 : gD cL_law 704 (.aload_n 0) 1 705 := ⟨by decide +kernel, rfl⟩
theorem d_L_law_705 : gD cL_law 705 (.iload_n 3) 1 706 := ⟨by decide +kernel, rfl⟩
theorem d_L_law_706 : gD cL_law 706 (.iconst 1) 1 707 := ⟨by decide +kernel, rfl⟩
theorem d_L_law_707 : gD cL_law 707 (.iadd) 1 708 := ⟨by decide +kernel, rfl⟩
theorem d_L_law_708 : gD cL_law 708 (.iaload) 1 709 := ⟨by decide +kernel, rfl⟩
theorem d_L_law_709 : gD cL_law 709 (.aload_n 0) 1 710 := ⟨by decide +kernel, rfl⟩
theorem d_L_law_710 : gD cL_law 710 (.iload_n 3) 1 711 := ⟨by decide +kernel, rfl⟩
theorem d_L_law_711 : gD cL_law 711 (.iconst 2) 1 712 := ⟨by decide +kernel, rfl⟩
theorem d_L_law_712 : gD cL_law 712 (.iadd) 1 713 := ⟨by decide +kernel, rfl⟩
theorem d_L_law_713 : gD cL_law 713 (.iaload) 1 714 := ⟨by decide +kernel, rfl⟩
theorem d_L_law_714 : gD cL_law 714 (.aload_n 0) 1 715 := ⟨by decide +kernel, rfl⟩
theorem d_L_law_715 : gD cL_law 715 (.iload_n 3) 1 716 := ⟨by decide +kernel, rfl⟩
theorem d_L_law_716 : gD cL_law 716 (.iconst 3) 1 717 := ⟨by decide +kernel, rfl⟩
theorem d_L_law_717 : gD cL_law 717 (.iadd) 1 718 := ⟨by decide +kernel, rfl⟩
theorem d_L_law_718 : gD cL_law 718 (.iaload) 1 719 := ⟨by decide +kernel, rfl⟩
theorem d_L_law_719 : gD cL_law 719 (.invokevirtual 69) 3 722 := ⟨by decide +kernel, rfl⟩
theorem d_L_law_722 : gD cL_law 722 (.if_icmp .eq 1092) 3 725 ∧ ((722 : Nat) : Int) + 1092 = ((1814 : Nat) : Int) := ⟨⟨by decide +kernel, rfl⟩, by decide⟩
theorem d_L_law_725 : gD cL_law 725 (.iconst 0) 1 726 := ⟨by decide +kernel, rfl⟩
theorem d_L_law_726 : gD cL_law 726 (.ireturn) 1 727 := ⟨by decide +kernel, rfl⟩
theorem d_L_law_727 : gD cL_law 727 (.aload_n 1) 1 728 := ⟨by decide +kernel, rfl⟩
theorem d_L_law_728 : gD cL_law 728 (.aload_n 0) 1 729 := ⟨by decide +kernel, rfl⟩
theorem d_L_law_729 : gD cL_law 729 (.iload_n 3) 1 730 := ⟨by decide +kernel, rfl⟩
theorem d_L_law_730 : gD cL_law 730 (.iconst 1) 1 731 := ⟨by decide +kernel, rfl⟩
theorem d_L_law_731 : gD cL_law 731 (.iadd) 1 732 := ⟨by decide +kernel, rfl⟩
theorem d_L_law_732 : gD cL_law 732 (.iaload) 1 733 := ⟨by decide +kernel, rfl⟩
theorem d_L_law_733 : gD cL_law 733 (.aload_n 0) 1 734 := ⟨by decide +kernel, rfl⟩
theorem d_L_law_734 : gD cL_law 734 (.iload_n 3) 1 735 := ⟨by decide +kernel, rfl⟩
theorem d_L_law_735 : gD cL_law 735 (.iconst 2) 1 736 := ⟨by decide +kernel, rfl⟩
theorem d_L_law_736 : gD cL_law 736 (.iadd) 1 737 := ⟨by decide +kernel, rfl⟩
theorem d_L_law_737 : gD cL_law 737 (.iaload) 1 738 := ⟨by decide +kernel, rfl⟩
theorem d_L_law_738 : gD cL_law 738 (.aload_n 0) 1 739 := ⟨by decide +kernel, rfl⟩
theorem d_L_law_739 : gD cL_law 739 (.iload_n 3) 1 740 := ⟨by decide +kernel, rfl⟩
theorem d_L_law_740 : gD cL_law 740 (.iconst 3) 1 741 := ⟨by decide +kernel, rfl⟩
theorem d_L_law_741 : gD cL_law 741 (.iadd) 1 742 := ⟨by decide +kernel, rfl⟩
theorem d_L_law_742 : gD cL_law 742 (.iaload) 1 743 := ⟨by decide +kernel, rfl⟩
theorem d_L_law_743 : gD cL_law 743 (.aload_n 0) 1 744 := ⟨by decide +kernel, rfl⟩
theorem d_L_law_744 : gD cL_law 744 (.iload_n 3) 1 745 := ⟨by decide +kernel, rfl⟩
theorem d_L_law_745 : gD cL_law 745 (.iconst 4) 1 746 := ⟨by decide +kernel, rfl⟩
theorem d_L_law_746 : gD cL_law 746 (.iadd) 1 747 := ⟨by decide +kernel, rfl⟩
theorem d_L_law_747 : gD cL_law 747 (.iaload) 1 748 := ⟨by decide +kernel, rfl⟩
theorem d_L_law_748 : gD cL_law 748 (.ifCond .eq 7) 3 751 ∧ ((748 : Nat) : Int) + 7 = ((755 : Nat) : Int) := ⟨⟨by decide +kernel, rfl⟩, by decide⟩
theorem d_L_law_751 : gD cL_law 751 (.iconst 1) 1 752 := ⟨by decide +kernel, rfl⟩
theorem d_L_law_752 : decode cL_law 752 = .ok (.goto 4, 3) ∧ ((752 : Nat) : Int) + 4 = ((756 : Nat) : Int) := ⟨by decide +kernel, by decide⟩
theorem d_L_law_755 : gD cL_law 755 (.iconst 0) 1 756 := ⟨by decide +kernel, rfl⟩
theorem d_L_law_756 : gD cL_law 756 (.aload_n 0) 1 757 := ⟨by decide +kernel, rfl⟩
theorem d_L_law_757 : gD cL_law 757 (.iload_n 3) 1 758 := ⟨by decide +kernel, rfl⟩
theorem d_L_law_758 : gD cL_law 758 (.iconst 5) 1 759 := ⟨by decide +kernel, rfl⟩
theorem d_L_law_759 : gD cL_law 759 (.iadd) 1 760 := ⟨by decide +kernel, rfl⟩
theorem d_L_law_760 : gD cL_law 760 (.iaload) 1 761 := ⟨by decide +kernel, rfl⟩
theorem d_L_law_761 : gD cL_law 761 (.invokevirtual 70) 3 764 := ⟨by decide +kernel, rfl⟩
theorem d_L_law_764 : gD cL_law 764 (.aload_n 2) 1 765 := ⟨by decide +kernel, rfl⟩
theorem d_L_law_765 : gD cL_law 765 (.aload_n 0) 1 766 := ⟨by decide +kernel, rfl⟩
theorem d_L_law_766 : gD cL_law 766 (.iload_n 3) 1 767 := ⟨by decide +kernel, rfl⟩
theorem d_L_law_767 : gD cL_law 767 (.iconst 1) 1 768 := ⟨by decide +kernel, rfl⟩
theorem d_L_law_768 : gD cL_law 768 (.iadd) 1 769 := ⟨by decide +kernel, rfl⟩
theorem d_L_law_769 : gD cL_law 769 (.iaload) 1 770 := ⟨by decide +kernel, rfl⟩
theorem d_L_law_770 : gD cL_law 770 (.aload_n 0) 1 771 := ⟨by decide +kernel, rfl⟩
theorem d_L_law_771 : gD cL_law 771 (.iload_n 3) 1 772 := ⟨by decide +kernel, rfl⟩
theorem d_L_law_772 : gD cL_law 772 (.iconst 2) 1 773 := ⟨by decide +kernel, rfl⟩
theorem d_L_law_773 : gD cL_law 773 (.iadd) 1 774 := ⟨by decide +kernel, rfl⟩
theorem d_L_law_774 : gD cL_law 774 (.iaload) 1 775 := ⟨by decide +kernel, rfl⟩
theorem d_L_law_775 : gD cL_law 775 (.aload_n 0) 1 776 := ⟨by decide +kernel, rfl⟩
theorem d_L_law_776 : gD cL_law 776 (.iload_n 3) 1 777 := ⟨by decide +kernel, rfl⟩
theorem d_L_law_777 : gD cL_law 777 (.iconst 3) 1 778 := ⟨by decide +kernel, rfl⟩
theorem d_L_law_778 : gD cL_law 778 (.iadd) 1 779 := ⟨by decide +kernel, rfl⟩
theorem d_L_law_779 : gD cL_law 779 (.iaload) 1 780 := ⟨by decide +kernel, rfl⟩
theorem d_L_law_780 : gD cL_law 780 (.aload_n 0) 1 781 := ⟨by decide +kernel, rfl⟩
theorem d_L_law_781 : gD cL_law 781 (.iload_n 3) 1 782 := ⟨by decide +kernel, rfl⟩
theorem d_L_law_782 : gD cL_law 782 (.iconst 4) 1 783 := ⟨by decide +kernel, rfl⟩
theorem d_L_law_783 : gD cL_law 783 (.iadd) 1 784 := ⟨by decide +kernel, rfl⟩
theorem d_L_law_784 : gD cL_law 784 (.iaload) 1 785 := ⟨by decide +kernel, rfl⟩
theorem d_L_law_785 : gD cL_law 785 (.ifCond .eq 7) 3 788 ∧ ((785 : Nat) : Int) + 7 = ((792 : Nat) : Int) := ⟨⟨by decide +kernel, rfl⟩, by decide⟩
theorem d_L_law_788 : gD cL_law 788 (.iconst 1) 1 789 := ⟨by decide +kernel, rfl⟩
theorem d_L_law_789 : decode cL_law 789 = .ok (.goto 4, 3) ∧ ((789 : Nat) : Int) + 4 = ((793 : Nat) : Int) := ⟨by decide +kernel, by decide⟩
theorem d_L_law_792 : gD cL_law 792 (.iconst 0) 1 793 := ⟨by decide +kernel, rfl⟩
theorem d_L_law_793 : gD cL_law 793 (.aload_n 0) 1 794 := ⟨by decide +kernel, rfl⟩
theorem d_L_law_794 : gD cL_law 794 (.iload_n 3) 1 795 := ⟨by decide +kernel, rfl⟩
theorem d_L_law_795 : gD cL_law 795 (.iconst 5) 1 796 := ⟨by decide +kernel, rfl⟩
theorem d_L_law_796 : gD cL_law 796 (.iadd) 1 797 := ⟨by decide +kernel, rfl⟩
theorem d_L_law_797 : gD cL_law 797 (.iaload) 1 798 := ⟨by decide +kernel, rfl⟩
theorem d_L_law_798 : gD cL_law 798 (.invokevirtual 74) 3 801 := ⟨by decide +kernel, rfl⟩
theorem d_L_law_801 : gD cL_law 801 (.if_icmp .eq 1013) 3 804 ∧ ((801 : Nat) : Int) + 1013 = ((1814 : Nat) : Int) := ⟨⟨by decide +kernel, rfl⟩, by decide⟩
theorem d_L_law_804 : gD cL_law 804 (.iconst 0) 1 805 := ⟨by decide +kernel, rfl⟩
theorem d_L_law_805 : gD cL_law 805 (.ireturn) 1 806 := ⟨by decide +kernel, rfl⟩
theorem d_L_law_806 : gD cL_law 806 (.aload_n 1) 1 807 := ⟨by decide +kernel, rfl⟩
theorem d_L_law_807 : gD cL_law 807 (.aload_n 0) 1 808 := ⟨by decide +kernel, rfl⟩
theorem d_L_law_808 : gD cL_law 808 (.iload_n 3) 1 809 := ⟨by decide +kernel, rfl⟩
theorem d_L_law_809 : gD cL_law 809 (.iconst 1) 1 810 := ⟨by decide +kernel, rfl⟩
theorem d_L_law_810 : gD cL_law 810 (.iadd) 1 811 := ⟨by decide +kernel, rfl⟩
theorem d_L_law_811 : gD cL_law 811 (.iaload) 1 812 := ⟨by decide +kernel, rfl⟩
theorem d_L_law_812 : gD cL_law 812 (.aload_n 0) 1 813 := ⟨by decide +kernel, rfl⟩
theorem d_L_law_813 : gD cL_law 813 (.iload_n 3) 1 814 := ⟨by decide +kernel, rfl⟩
theorem d_L_law_814 : gD cL_law 814 (.iconst 2) 1 815 := ⟨by decide +kernel, rfl⟩
theorem d_L_law_815 : gD cL_law 815 (.iadd) 1 816 := ⟨by decide +kernel, rfl⟩
theorem d_L_law_816 : gD cL_law 816 (.iaload) 1 817 := ⟨by decide +kernel, rfl⟩
theorem d_L_law_817 : gD cL_law 817 (.aload_n 0) 1 818 := ⟨by decide +kernel, rfl⟩
theorem d_L_law_818 : gD cL_law 818 (.iload_n 3) 1 819 := ⟨by decide +kernel, rfl⟩
theorem d_L_law_819 : gD cL_law 819 (.iconst 3) 1 820 := ⟨by decide +kernel, rfl⟩
theorem d_L_law_820 : gD cL_law 820 (.iadd) 1 821 := ⟨by decide +kernel, rfl⟩
theorem d_L_law_821 : gD cL_law 821 (.iaload) 1 822 := ⟨by decide +kernel, rfl⟩
theorem d_L_law_822 : gD cL_law 822 (.aload_n 0) 1 823 := ⟨by decide +kernel, rfl⟩
theorem d_L_law_823 : gD cL_law 823 (.iload_n 3) 1 824 := ⟨by decide +kernel, rfl⟩
theorem d_L_law_824 : gD cL_law 824 (.iconst 4) 1 825 := ⟨by decide +kernel, rfl⟩
theorem d_L_law_825 : gD cL_law 825 (.iadd) 1 826 := ⟨by decide +kernel, rfl⟩
theorem d_L_law_826 : gD cL_law 826 (.iaload) 1 827 := ⟨by decide +kernel, rfl⟩
theorem d_L_law_827 : gD cL_law 827 (.ifCond .eq 7) 3 830 ∧ ((827 : Nat) : Int) + 7 = ((834 : Nat) : Int) := ⟨⟨by decide +kernel, rfl⟩, by decide⟩
theorem d_L_law_830 : gD cL_law 830 (.iconst 1) 1 831 := ⟨by decide +kernel, rfl⟩
theorem d_L_law_831 : decode cL_law 831 = .ok (.goto 4, 3) ∧ ((831 : Nat) : Int) + 4 = ((835 : Nat) : Int) := ⟨by decide +kernel, by decide⟩
theorem d_L_law_834 : gD cL_law 834 (.iconst 0) 1 835 := ⟨by decide +kernel, rfl⟩
theorem d_L_law_835 : gD cL_law 835 (.aload_n 0) 1 836 := ⟨by decide +kernel, rfl⟩
theorem d_L_law_836 : gD cL_law 836 (.iload_n 3) 1 837 := ⟨by decide +kernel, rfl⟩
theorem d_L_law_837 : gD cL_law 837 (.iconst 5) 1 838 := ⟨by decide +kernel, rfl⟩
theorem d_L_law_838 : gD cL_law 838 (.iadd) 1 839 := ⟨by decide +kernel, rfl⟩
theorem d_L_law_839 : gD cL_law 839 (.iaload) 1 840 := ⟨by decide +kernel, rfl⟩
theorem d_L_law_840 : gD cL_law 840 (.ifCond .eq 7) 3 843 ∧ ((840 : Nat) : Int) + 7 = ((847 : Nat) : Int) := ⟨⟨by decide +kernel, rfl⟩, by decide⟩
theorem d_L_law_843 : gD cL_law 843 (.iconst 1) 1 844 := ⟨by decide +kernel, rfl⟩
theorem d_L_law_844 : decode cL_law 844 = .ok (.goto 4, 3) ∧ ((844 : Nat) : Int) + 4 = ((848 : Nat) : Int) := ⟨by decide +kernel, by decide⟩
theorem d_L_law_847 : gD cL_law 847 (.iconst 0) 1 848 := ⟨by decide +kernel, rfl⟩
theorem d_L_law_848 : gD cL_law 848 (.invokevirtual 75) 3 851 := ⟨by decide +kernel, rfl⟩
theorem d_L_law_851 : gD cL_law 851 (.aload_n 2) 1 852 := ⟨by decide +kernel, rfl⟩
theorem d_L_law_852 : gD cL_law 852 (.aload_n 0) 1 853 := ⟨by decide +kernel, rfl⟩
theorem d_L_law_853 : gD cL_law 853 (.iload_n 3) 1 854 := ⟨by decide +kernel, rfl⟩
theorem d_L_law_854 : gD cL_law 854 (.iconst 1) 1 855 := ⟨by decide +kernel, rfl⟩
theorem d_L_law_855 : gD cL_law 855 (.iadd) 1 856 := ⟨by decide +kernel, rfl⟩
theorem d_L_law_856 : gD cL_law 856 (.iaload) 1 857 := ⟨by decide +kernel, rfl⟩
theorem d_L_law_857 : gD cL_law 857 (.aload_n 0) 1 858 := ⟨by decide +kernel, rfl⟩
theorem d_L_law_858 : gD cL_law 858 (.iload_n 3) 1 859 := ⟨by decide +kernel, rfl⟩
theorem d_L_law_859 : gD cL_law 859 (.iconst 2) 1 860 := ⟨by decide +kernel, rfl⟩
theorem d_L_law_860 : gD cL_law 860 (.iadd) 1 861 := ⟨by decide +kernel, rfl⟩
theorem d_L_law_861 : gD cL_law 861 (.iaload) 1 862 := ⟨by decide +kernel, rfl⟩
theorem d_L_law_862 : gD cL_law 862 (.aload_n 0) 1 863 := ⟨by decide +kernel, rfl⟩
theorem d_L_law_863 : gD cL_law 863 (.iload_n 3) 1 864 := ⟨by decide +kernel, rfl⟩
theorem d_L_law_864 : gD cL_law 864 (.iconst 3) 1 865 := ⟨by decide +kernel, rfl⟩
theorem d_L_law_865 : gD cL_law 865 (.iadd) 1 866 := ⟨by decide +kernel, rfl⟩
theorem d_L_law_866 : gD cL_law 866 (.iaload) 1 867 := ⟨by decide +kernel, rfl⟩
theorem d_L_law_867 : gD cL_law 867 (.aload_n 0) 1 868 := ⟨by decide +kernel, rfl⟩
theorem d_L_law_868 : gD cL_law 868 (.iload_n 3) 1 869 := ⟨by decide +kernel, rfl⟩
theorem d_L_law_869 : gD cL_law 869 (.iconst 4) 1 870 := ⟨by decide +kernel, rfl⟩
theorem d_L_law_870 : gD cL_law 870 (.iadd) 1 871 := ⟨by decide +kernel, rfl⟩
theorem d_L_law_871 : gD cL_law 871 (.iaload) 1 872 := ⟨by decide +kernel, rfl⟩
theorem d_L_law_872 : gD cL_law 872 (.ifCond .eq 7) 3 875 ∧ ((872 : Nat) : Int) + 7 = ((879 : Nat) : Int) := ⟨⟨by decide +kernel, rfl⟩, by decide⟩
theorem d_L_law_875 : gD cL_law 875 (.iconst 1) 1 876 := ⟨by decide +kernel, rfl⟩
theorem d_L_law_876 : decode cL_law 876 = .ok (.goto 4, 3) ∧ ((876 : Nat) : Int) + 4 = ((880 : Nat) : Int) := ⟨by decide +kernel, by decide⟩
theorem d_L_law_879 : gD cL_law 879 (.iconst 0) 1 880 := ⟨by decide +kernel, rfl⟩
theorem d_L_law_880 : gD cL_law 880 (.aload_n 0) 1 881 := ⟨by decide +kernel, rfl⟩
theorem d_L_law_881 : gD cL_law 881 (.iload_n 3) 1 882 := ⟨by decide +kernel, rfl⟩
theorem d_L_law_882 : gD cL_law 882 (.iconst 5) 1 883 := ⟨by decide +kernel, rfl⟩
theorem d_L_law_883 : gD cL_law 883 (.iadd) 1 884 := ⟨by decide +kernel, rfl⟩
theorem d_L_law_884 : gD cL_law 884 (.iaload) 1 885 := ⟨by decide +kernel, rfl⟩
theorem d_L_law_885 : gD cL_law 885 (.ifCond .eq 7) 3 888 ∧ ((885 : Nat) : Int) + 7 = ((892 : Nat) : Int) := ⟨⟨by decide +kernel, rfl⟩, by decide⟩
theorem d_L_law_888 : gD cL_law 888 (.iconst 1) 1 889 := ⟨by decide +kernel, rfl⟩
theorem d_L_law_889 : decode cL_law 889 = .ok (.goto 4, 3) ∧ ((889 : Nat) : Int) + 4 = ((893 : Nat) : Int) := ⟨by decide +kernel, by decide⟩
theorem d_L_law_892 : gD cL_law 892 (.iconst 0) 1 893 := ⟨by decide +kernel, rfl⟩
theorem d_L_law_893 : gD cL_law 893 (.invokevirtual 79) 3 896 := ⟨by decide +kernel, rfl⟩
theorem d_L_law_896 : gD cL_law 896 (.if_icmp .eq 918) 3 899 ∧ ((896 : Nat) : Int) + 918 = ((1814 : Nat) : Int) := ⟨⟨by decide +kernel, rfl⟩, by decide⟩
theorem d_L_law_899 : gD cL_law 899 (.iconst 0) 1 900 := ⟨by decide +kernel, rfl⟩
theorem d_L_law_900 : gD cL_law 900 (.ireturn) 1 901 := ⟨by decide +kernel, rfl⟩
theorem d_L_law_901 : gD cL_law 901 (.aload_n 1) 1 902 := ⟨by decide +kernel, rfl⟩
theorem d_L_law_902 : gD cL_law 902 (.aload_n 0) 1 903 := ⟨by decide +kernel, rfl⟩
theorem d_L_law_903 : gD cL_law 903 (.iload_n 3) 1 904 := ⟨by decide +kernel, rfl⟩
theorem d_L_law_904 : gD cL_law 904 (.iconst 1) 1 905 := ⟨by decide +kernel, rfl⟩
theorem d_L_law_905 : gD cL_law 905 (.iadd) 1 906 := ⟨by decide +kernel, rfl⟩
theorem d_L_law_906 : gD cL_law 906 (.iaload) 1 907 := ⟨by decide +kernel, rfl⟩
theorem d_L_law_907 : gD cL_law 907 (.aload_n 0) 1 908 := ⟨by decide +kernel, rfl⟩
theorem d_L_law_908 : gD cL_law 908 (.iload_n 3) 1 909 := ⟨by decide +kernel, rfl⟩
theorem d_L_law_909 : gD cL_law 909 (.iconst 2) 1 910 := ⟨by decide +kernel, rfl⟩
theorem d_L_law_910 : gD cL_law 910 (.iadd) 1 911 := ⟨by decide +kernel, rfl⟩
theorem d_L_law_911 : gD cL_law 911 (.iaload) 1 912 := ⟨by decide +kernel, rfl⟩
theorem d_L_law_912 : gD cL_law 912 (.invokevirtual 80) 3 915 := ⟨by decide +kernel, rfl⟩
theorem d_L_law_915 : gD cL_law 915 (.aload_n 2) 1 916 := ⟨by decide +kernel, rfl⟩
theorem d_L_law_916 : gD cL_law 916 (.aload_n 0) 1 917 := ⟨by decide +kernel, rfl⟩
theorem d_L_law_917 : gD cL_law 917 (.iload_n 3) 1 918 := ⟨by decide +kernel, rfl⟩
theorem d_L_law_918 : gD cL_law 918 (.iconst 1) 1 919 := ⟨by decide +kernel, rfl⟩
theorem d_L_law_919 : gD cL_law 919 (.iadd) 1 920 := ⟨by decide +kernel, rfl⟩
theorem d_L_law_920 : gD cL_law 920 (.iaload) 1 921 := ⟨by decide +kernel, rfl⟩
theorem d_L_law_921 : gD cL_law 921 (.aload_n 0) 1 922 := ⟨by decide +kernel, rfl⟩
theorem d_L_law_922 : gD cL_law 922 (.iload_n 3) 1 923 := ⟨by decide +kernel, rfl⟩
theorem d_L_law_923 : gD cL_law 923 (.iconst 2) 1 924 := ⟨by decide +kernel, rfl⟩
theorem d_L_law_924 : gD cL_law 924 (.iadd) 1 925 := ⟨by decide +kernel, rfl⟩
theorem d_L_law_925 : gD cL_law 925 (.iaload) 1 926 := ⟨by decide +kernel, rfl⟩
theorem d_L_law_926 : gD cL_law 926 (.invokevirtual 83) 3 929 := ⟨by decide +kernel, rfl⟩
theorem d_L_law_929 : gD cL_law 929 (.if_icmp .eq 885) 3 932 ∧ ((929 : Nat) : Int) + 885 = ((1814 : Nat) : Int) := ⟨⟨by decide +kernel, rfl⟩, by decide⟩
theorem d_L_law_932 : gD cL_law 932 (.iconst 0) 1 933 := ⟨by decide +kernel, rfl⟩
theorem d_L_law_933 : gD cL_law 933 (.ireturn) 1 934 := ⟨by decide +kernel, rfl⟩
theorem d_L_law_934 : gD cL_law 934 (.aload_n 1) 1 935 := ⟨by decide +kernel, rfl⟩
theorem d_L_law_935 : gD cL_law 935 (.aload_n 0) 1 936 := ⟨by decide +kernel, rfl⟩
theorem d_L_law_936 : gD cL_law 936 (.iload_n 3) 1 937 := ⟨by decide +kernel, rfl⟩
theorem d_L_law_937 : gD cL_law 937 (.iconst 1) 1 938 := ⟨by decide +kernel, rfl⟩
theorem d_L_law_938 : gD cL_law 938 (.iadd) 1 939 := ⟨by decide +kernel, rfl⟩
theorem d_L_law_939 : gD cL_law 939 (.iaload) 1 940 := ⟨by decide +kernel, rfl⟩
theorem d_L_law_940 : gD cL_law 940 (.aload_n 0) 1 941 := ⟨by decide +kernel, rfl⟩
theorem d_L_law_941 : gD cL_law 941 (.iload_n 3) 1 942 := ⟨by decide +kernel, rfl⟩
theorem d_L_law_942 : gD cL_law 942 (.iconst 2) 1 943 := ⟨by decide +kernel, rfl⟩
theorem d_L_law_943 : gD cL_law 943 (.iadd) 1 944 := ⟨by decide +kernel, rfl⟩
theorem d_L_law_944 : gD cL_law 944 (.iaload) 1 945 := ⟨by decide +kernel, rfl⟩
theorem d_L_law_945 : gD cL_law 945 (.aload_n 0) 1 946 := ⟨by decide +kernel, rfl⟩
theorem d_L_law_946 : gD cL_law 946 (.iload_n 3) 1 947 := ⟨by decide +kernel, rfl⟩
theorem d_L_law_947 : gD cL_law 947 (.iconst 3) 1 948 := ⟨by decide +kernel, rfl⟩
theorem d_L_law_948 : gD cL_law 948 (.iadd) 1 949 := ⟨by decide +kernel, rfl⟩
theorem d_L_law_949 : gD cL_law 949 (.iaload) 1 950 := ⟨by decide +kernel, rfl⟩
theorem d_L_law_950 : gD cL_law 950 (.aload_n 0) 1 951 := ⟨by decide +kernel, rfl⟩
theorem d_L_law_951 : gD cL_law 951 (.iload_n 3) 1 952 := ⟨by decide +kernel, rfl⟩
theorem d_L_law_952 : gD cL_law 952 (.iconst 4) 1 953 := ⟨by decide +kernel, rfl⟩
theorem d_L_law_953 : gD cL_law 953 (.iadd) 1 954 := ⟨by decide +kernel, rfl⟩
theorem d_L_law_954 : gD cL_law 954 (.iaload) 1 955 := ⟨by decide +kernel, rfl⟩
theorem d_L_law_955 : gD cL_law 955 (.ifCond .eq 7) 3 958 ∧ ((955 : Nat) : Int) + 7 = ((962 : Nat) : Int) := ⟨⟨by decide +kernel, rfl⟩, by decide⟩
theorem d_L_law_958 : gD cL_law 958 (.iconst 1) 1 959 := ⟨by decide +kernel, rfl⟩
theorem d_L_law_959 : decode cL_law 959 = .ok (.goto 4, 3) ∧ ((959 : Nat) : Int) + 4 = ((963 : Nat) : Int) := ⟨by decide +kernel, by decide⟩
theorem d_L_law_962 : gD cL_law 962 (.iconst 0) 1 963 := ⟨by decide +kernel, rfl⟩
theorem d_L_law_963 : gD cL_law 963 (.aload_n 0) 1 964 := ⟨by decide +kernel, rfl⟩
theorem d_L_law_964 : gD cL_law 964 (.iload_n 3) 1 965 := ⟨by decide +kernel, rfl⟩
theorem d_L_law_965 : gD cL_law 965 (.iconst 5) 1 966 := ⟨by decide +kernel, rfl⟩
theorem d_L_law_966 : gD cL_law 966 (.iadd) 1 967 := ⟨by decide +kernel, rfl⟩
theorem d_L_law_967 : gD cL_law 967 (.iaload) 1 968 := ⟨by decide +kernel, rfl⟩
theorem d_L_law_968 : gD cL_law 968 (.ifCond .eq 7) 3 971 ∧ ((968 : Nat) : Int) + 7 = ((975 : Nat) : Int) := ⟨⟨by decide +kernel, rfl⟩, by decide⟩
theorem d_L_law_971 : gD cL_law 971 (.iconst 1) 1 972 := ⟨by decide +kernel, rfl⟩
theorem d_L_law_972 : decode cL_law 972 = .ok (.goto 4, 3) ∧ ((972 : Nat) : Int) + 4 = ((976 : Nat) : Int) := ⟨by decide +kernel, by decide⟩
theorem d_L_law_975 : gD cL_law 975 (.iconst 0) 1 976 := ⟨by decide +kernel, rfl⟩
theorem d_L_law_976 : gD cL_law 976 (.invokevirtual 84) 3 979 := ⟨by decide +kernel, rfl⟩
theorem d_L_law_979 : gD cL_law 979 (.aload_n 2) 1 980 := ⟨by decide +kernel, rfl⟩
theorem d_L_law_980 : gD cL_law 980 (.aload_n 0) 1 981 := ⟨by decide +kernel, rfl⟩
theorem d_L_law_981 : gD cL_law 981 (.iload_n 3) 1 982 := ⟨by decide +kernel, rfl⟩
theorem d_L_law_982 : gD cL_law 982 (.iconst 1) 1 983 := ⟨by decide +kernel, rfl⟩
theorem d_L_law_983 : gD cL_law 983 (.iadd) 1 984 := ⟨by decide +kernel, rfl⟩
theorem d_L_law_984 : gD cL_law 984 (.iaload) 1 985 := ⟨by decide +kernel, rfl⟩
theorem d_L_law_985 : gD cL_law 985 (.aload_n 0) 1 986 := ⟨by decide +kernel, rfl⟩
theorem d_L_law_986 : gD cL_law 986 (.iload_n 3) 1 987 := ⟨by decide +kernel, rfl⟩
theorem d_L_law_987 : gD cL_law 987 (.iconst 2) 1 988 := ⟨by decide +kernel, rfl⟩
theorem d_L_law_988 : gD cL_law 988 (.iadd) 1 989 := ⟨by decide +kernel, rfl⟩
theorem d_L_law_989 : gD cL_law 989 (.iaload) 1 990 := ⟨by decide +kernel, rfl⟩
theorem d_L_law_990 : gD cL_law 990 (.aload_n 0) 1 991 := ⟨by decide +kernel, rfl⟩
theorem d_L_law_991 : gD cL_law 991 (.iload_n 3) 1 992 := ⟨by decide +kernel, rfl⟩
theorem d_L_law_992 : gD cL_law 992 (.iconst 3) 1 993 := ⟨by decide +kernel, rfl⟩
theorem d_L_law_993 : gD cL_law 993 (.iadd) 1 994 := ⟨by decide +kernel, rfl⟩
theorem d_L_law_994 : gD cL_law 994 (.iaload) 1 995 := ⟨by decide +kernel, rfl⟩
theorem d_L_law_995 : gD cL_law 995 (.aload_n 0) 1 996 := ⟨by decide +kernel, rfl⟩
theorem d_L_law_996 : gD cL_law 996 (.iload_n 3) 1 997 := ⟨by decide +kernel, rfl⟩
theorem d_L_law_997 : gD cL_law 997 (.iconst 4) 1 998 := ⟨by decide +kernel, rfl⟩
theorem d_L_law_998 : gD cL_law 998 (.iadd) 1 999 := ⟨by decide +kernel, rfl⟩
theorem d_L_law_999 : gD cL_law 999 (.iaload) 1 1000 := ⟨by decide +kernel, rfl⟩
theorem d_L_law_1000 : gD cL_law 1000 (.ifCond .eq 7) 3 1003 ∧ ((1000 : Nat) : Int) + 7 = ((1007 : Nat) : Int) := ⟨⟨by decide +kernel, rfl⟩, by decide⟩
theorem d_L_law_1003 : gD cL_law 1003 (.iconst 1) 1 1004 := ⟨by decide +kernel, rfl⟩
theorem d_L_law_1004 : decode cL_law 1004 = .ok (.goto 4, 3) ∧ ((1004 : Nat) : Int) + 4 = ((1008 : Nat) : Int) := ⟨by decide +kernel, by decide⟩
theorem d_L_law_1007 : gD cL_law 1007 (.iconst 0) 1 1008 := ⟨by decide +kernel, rfl⟩
theorem d_L_law_1008 : gD cL_law 1008 (.aload_n 0) 1 1009 := ⟨by decide +kernel, rfl⟩
theorem d_L_law_1009 : gD cL_law 1009 (.iload_n 3) 1 1010 := ⟨by decide +kernel, rfl⟩
theorem d_L_law_1010 : gD cL_law 1010 (.iconst 5) 1 1011 := ⟨by decide +kernel, rfl⟩
theorem d_L_law_1011 : gD cL_law 1011 (.iadd) 1 1012 := ⟨by decide +kernel, rfl⟩
theorem d_L_law_1012 : gD cL_law 1012 (.iaload) 1 1013 := ⟨by decide +kernel, rfl⟩
theorem d_L_law_1013 : gD cL_law 1013 (.ifCond .eq 7) 3 1016 ∧ ((1013 : Nat) : Int) + 7 = ((1020 : Nat) : Int) := ⟨⟨by decide +kernel, rfl⟩, by decide⟩
theorem d_L_law_1016 : gD cL_law 1016 (.iconst 1) 1 1017 := ⟨by decide +kernel, rfl⟩
theorem d_L_law_1017 : decode cL_law 1017 = .ok (.goto 4, 3) ∧ ((1017 : Nat) : Int) + 4 = ((1021 : Nat) : Int) := ⟨by decide +kernel, by decide⟩
theorem d_L_law_1020 : gD cL_law 1020 (.iconst 0) 1 1021 := ⟨by decide +kernel, rfl⟩
theorem d_L_law_1021 : gD cL_law 1021 (.invokevirtual 88) 3 1024 := ⟨by decide +kernel, rfl⟩
theorem d_L_law_1024 : gD cL_law 1024 (.lcmp) 1 1025 := ⟨by decide +kernel, rfl⟩
theorem d_L_law_1025 : gD cL_law 1025 (.ifCond .eq 789) 3 1028 ∧ ((1025 : Nat) : Int) + 789 = ((1814 : Nat) : Int) := ⟨⟨by decide +kernel, rfl⟩, by decide⟩
theorem d_L_law_1028 : gD cL_law 1028 (.iconst 0) 1 1029 := ⟨by decide +kernel, rfl⟩
theorem d_L_law_1029 : gD cL_law 1029 (.ireturn) 1 1030 := ⟨by decide +kernel, rfl⟩
theorem d_L_law_1030 : gD cL_law 1030 (.aload_n 1) 1 1031 := ⟨by decide +kernel, rfl⟩
theorem d_L_law_1031 : gD cL_law 1031 (.aload_n 0) 1 1032 := ⟨by decide +kernel, rfl⟩
theorem d_L_law_1032 : gD cL_law 1032 (.iload_n 3) 1 1033 := ⟨by decide +kernel, rfl⟩
theorem d_L_law_1033 : gD cL_law 1033 (.iconst 1) 1 1034 := ⟨by decide +kernel, rfl⟩
theorem d_L_law_1034 : gD cL_law 1034 (.iadd) 1 1035 := ⟨by decide +kernel, rfl⟩
theorem d_L_law_1035 : gD cL_law 1035 (.iaload) 1 1036 := ⟨by decide +kernel, rfl⟩
theorem d_L_law_1036 : gD cL_law 1036 (.aload_n 0) 1 1037 := ⟨by decide +kernel, rfl⟩
theorem d_L_law_1037 : gD cL_law 1037 (.iload_n 3) 1 1038 := ⟨by decide +kernel, rfl⟩
theorem d_L_law_1038 : gD cL_law 1038 (.iconst 2) 1 1039 := ⟨by decide +kernel, rfl⟩
theorem d_L_law_1039 : gD cL_law 1039 (.iadd) 1 1040 := ⟨by decide +kernel, rfl⟩
theorem d_L_law_1040 : gD cL_law 1040 (.iaload) 1 1041 := ⟨by decide +kernel, rfl⟩
theorem d_L_law_1041 : gD cL_law 1041 (.aload_n 0) 1 1042 := ⟨by decide +kernel, rfl⟩
theorem d_L_law_1042 : gD cL_law 1042 (.iload_n 3) 1 1043 := ⟨by decide +kernel, rfl⟩
theorem d_L_law_1043 : gD cL_law 1043 (.iconst 3) 1 1044 := ⟨by decide +kernel, rfl⟩
theorem d_L_law_1044 : gD cL_law 1044 (.iadd) 1 1045 := ⟨by decide +kernel, rfl⟩
theorem d_L_law_1045 : gD cL_law 1045 (.iaload) 1 1046 := ⟨by decide +kernel, rfl⟩
theorem d_L_law_1046 : gD cL_law 1046 (.aload_n 0) 1 1047 := ⟨by decide +kernel, rfl⟩
theorem d_L_law_1047 : gD cL_law 1047 (.iload_n 3) 1 1048 := ⟨by decide +kernel, rfl⟩
theorem d_L_law_1048 : gD cL_law 1048 (.iconst 4) 1 1049 := ⟨by decide +kernel, rfl⟩
theorem d_L_law_1049 : gD cL_law 1049 (.iadd) 1 1050 := ⟨by decide +kernel, rfl⟩
theorem d_L_law_1050 : gD cL_law 1050 (.iaload) 1 1051 := ⟨by decide +kernel, rfl⟩
theorem d_L_law_1051 : gD cL_law 1051 (.ifCond .eq 7) 3 1054 ∧ ((1051 : Nat) : Int) + 7 = ((1058 : Nat) : Int) := ⟨⟨by decide +kernel, rfl⟩, by decide⟩
theorem d_L_law_1054 : gD cL_law 1054 (.iconst 1) 1 1055 := ⟨by decide +kernel, rfl⟩
theorem d_L_law_1055 : decode cL_law 1055 = .ok (.goto 4, 3) ∧ ((1055 : Nat) : Int) + 4 = ((1059 : Nat) : Int) := ⟨by decide +kernel, by decide⟩
theorem d_L_law_1058 : gD cL_law 1058 (.iconst 0) 1 1059 := ⟨by decide +kernel, rfl⟩
theorem d_L_law_1059 : gD cL_law 1059 (.invokevirtual 89) 3 1062 := ⟨by decide +kernel, rfl⟩
theorem d_L_law_1062 : gD cL_law 1062 (.aload_n 2) 1 1063 := ⟨by decide +kernel, rfl⟩
theorem d_L_law_1063 : gD cL_law 1063 (.aload_n 0) 1 1064 := ⟨by decide +kernel, rfl⟩
theorem d_L_law_1064 : gD cL_law 1064 (.iload_n 3) 1 1065 := ⟨by decide +kernel, rfl⟩
theorem d_L_law_1065 : gD cL_law 1065 (.iconst 1) 1 1066 := ⟨by decide +kernel, rfl⟩
theorem d_L_law_1066 : gD cL_law 1066 (.iadd) 1 1067 := ⟨by decide +kernel, rfl⟩
theorem d_L_law_1067 : gD cL_law 1067 (.iaload) 1 1068 := ⟨by decide +kernel, rfl⟩
theorem d_L_law_1068 : gD cL_law 1068 (.aload_n 0) 1 1069 := ⟨by decide +kernel, rfl⟩
theorem d_L_law_1069 : gD cL_law 1069 (.iload_n 3) 1 1070 := ⟨by decide +kernel, rfl⟩
theorem d_L_law_1070 : gD cL_law 1070 (.iconst 2) 1 1071 := ⟨by decide +kernel, rfl⟩
theorem d_L_law_1071 : gD cL_law 1071 (.iadd) 1 1072 := ⟨by decide +kernel, rfl⟩
theorem d_L_law_1072 : gD cL_law 1072 (.iaload) 1 1073 := ⟨by decide +kernel, rfl⟩
theorem d_L_law_1073 : gD cL_law 1073 (.aload_n 0) 1 1074 := ⟨by decide +kernel, rfl⟩
theorem d_L_law_1074 : gD cL_law 1074 (.iload_n 3) 1 1075 := ⟨by decide +kernel, rfl⟩
theorem d_L_law_1075 : gD cL_law 1075 (.iconst 3) 1 1076 := ⟨by decide +kernel, rfl⟩
theorem d_L_law_1076 : gD cL_law 1076 (.iadd) 1 1077 := ⟨by decide +kernel, rfl⟩
theorem d_L_law_1077 : gD cL_law 1077 (.iaload) 1 1078 := ⟨by decide +kernel, rfl⟩
theorem d_L_law_1078 : gD cL_law 1078 (.aload_n 0) 1 1079 := ⟨by decide +kernel, rfl⟩
theorem d_L_law_1079 : gD cL_law 1079 (.iload_n 3) 1 1080 := ⟨by decide +kernel, rfl⟩
theorem d_L_law_1080 : gD cL_law 1080 (.iconst 4) 1 1081 := ⟨by decide +kernel, rfl⟩
theorem d_L_law_1081 : gD cL_law 1081 (.iadd) 1 1082 := ⟨by decide +kernel, rfl⟩
theorem d_L_law_1082 : gD cL_law 1082 (.iaload) 1 1083 := ⟨by decide +kernel, rfl⟩
theorem d_L_law_1083 : gD cL_law 1083 (.ifCond .eq 7) 3 1086 ∧ ((1083 : Nat) : Int) + 7 = ((1090 : Nat) : Int) := ⟨⟨by decide +kernel, rfl⟩, by decide⟩
theorem d_L_law_1086 : gD cL_law 1086 (.iconst 1) 1 1087 := ⟨by decide +kernel, rfl⟩
theorem d_L_law_1087 : decode cL_law 1087 = .ok (.goto 4, 3) ∧ ((1087 : Nat) : Int) + 4 = ((1091 : Nat) : Int) := ⟨by decide +kernel, by decide⟩
theorem d_L_law_1090 : gD cL_law 1090 (.iconst 0) 1 1091 := ⟨by decide +kernel, rfl⟩
theorem d_L_law_1091 : gD cL_law 1091 (.invokevirtual 93) 3 1094 := ⟨by decide +kernel, rfl⟩
theorem d_L_law_1094 : gD cL_law 1094 (.lcmp) 1 1095 := ⟨by decide +kernel, rfl⟩
theorem d_L_law_1095 : gD cL_law 1095 (.ifCond .eq 719) 3 1098 ∧ ((1095 : Nat) : Int) + 719 = ((1814 : Nat) : Int) := ⟨⟨by decide +kernel, rfl⟩, by decide⟩
theorem d_L_law_1098 : gD cL_law 1098 (.iconst 0) 1 1099 := ⟨by decide +kernel, rfl⟩
theorem d_L_law_1099 : gD cL_law 1099 (.ireturn) 1 1100 := ⟨by decide +kernel, rfl⟩
theorem d_L_law_1100 : gD cL_law 1100 (.aload_n 1) 1 1101 := ⟨by decide +kernel, rfl⟩
theorem d_L_law_1101 : gD cL_law 1101 (.aload_n 0) 1 1102 := ⟨by decide +kernel, rfl⟩
theorem d_L_law_1102 : gD cL_law 1102 (.iload_n 3) 1 1103 := ⟨by decide +kernel, rfl⟩
theorem d_L_law_1103 : gD cL_law 1103 (.iconst 1) 1 1104 := ⟨by decide +kernel, rfl⟩
theorem d_L_law_1104 : gD cL_law 1104 (.iadd) 1 1105 := ⟨by decide +kernel, rfl⟩
theorem d_L_law_1105 : gD cL_law 1105 (.iaload) 1 1106 := ⟨by decide +kernel, rfl⟩
theorem d_L_law_1106 : gD cL_law 1106 (.aload_n 0) 1 1107 := ⟨by decide +kernel, rfl⟩
theorem d_L_law_1107 : gD cL_law 1107 (.iload_n 3) 1 1108 := ⟨by decide +kernel, rfl⟩
theorem d_L_law_1108 : gD cL_law 1108 (.iconst 2) 1 1109 := ⟨by decide +kernel, rfl⟩
theorem d_L_law_1109 : gD cL_law 1109 (.iadd) 1 1110 := ⟨by decide +kernel, rfl⟩
theorem d_L_law_1110 : gD cL_law 1110 (.iaload) 1 1111 := ⟨by decide +kernel, rfl⟩
theorem d_L_law_1111 : gD cL_law 1111 (.aload_n 0) 1 1112 := ⟨by decide +kernel, rfl⟩
theorem d_L_law_1112 : gD cL_law 1112 (.iload_n 3) 1 1113 := ⟨by decide +kernel, rfl⟩
theorem d_L_law_1113 : gD cL_law 1113 (.iconst 3) 1 1114 := ⟨by decide +kernel, rfl⟩
theorem d_L_law_1114 : gD cL_law 1114 (.iadd) 1 1115 := ⟨by decide +kernel, rfl⟩
theorem d_L_law_1115 : gD cL_law 1115 (.iaload) 1 1116 := ⟨by decide +kernel, rfl⟩
theorem d_L_law_1116 : gD cL_law 1116 (.aload_n 0) 1 1117 := ⟨by decide +kernel, rfl⟩
theorem d_L_law_1117 : gD cL_law 1117 (.iload_n 3) 1 1118 := ⟨by decide +kernel, rfl⟩
theorem d_L_law_1118 : gD cL_law 1118 (.iconst 4) 1 1119 := ⟨by decide +kernel, rfl⟩
theorem d_L_law_1119 : gD cL_law 1119 (.iadd) 1 1120 := ⟨by decide +kernel, rfl⟩
theorem d_L_law_1120 : gD cL_law 1120 (.iaload) 1 1121 := ⟨by decide +kernel, rfl⟩
theorem d_L_law_1121 : gD cL_law 1121 (.invokevirtual 94) 3 1124 := ⟨by decide +kernel, rfl⟩
theorem d_L_law_1124 : gD cL_law 1124 (.aload_n 2) 1 1125 := ⟨by decide +kernel, rfl⟩
theorem d_L_law_1125 : gD cL_law 1125 (.aload_n 0) 1 1126 := ⟨by decide +kernel, rfl⟩
theorem d_L_law_1126 : gD cL_law 1126 (.iload_n 3) 1 1127 := ⟨by decide +kernel, rfl⟩
theorem d_L_law_1127 : gD cL_law 1127 (.iconst 1) 1 1128 := ⟨by decide +kernel, rfl⟩
theorem d_L_law_1128 : gD cL_law 1128 (.iadd) 1 1129 := ⟨by decide +kernel, rfl⟩
theorem d_L_law_1129 : gD cL_law 1129 (.iaload) 1 1130 := ⟨by decide +kernel, rfl⟩
theorem d_L_law_1130 : gD cL_law 1130 (.aload_n 0) 1 1131 := ⟨by decide +kernel, rfl⟩
theorem d_L_law_1131 : gD cL_law 1131 (.iload_n 3) 1 1132 := ⟨by decide +kernel, rfl⟩
theorem d_L_law_1132 : gD cL_law 1132 (.iconst 2) 1 1133 := ⟨by decide +kernel, rfl⟩
theorem d_L_law_1133 : gD cL_law 1133 (.iadd) 1 1134 := ⟨by decide +kernel, rfl⟩
theorem d_L_law_1134 : gD cL_law 1134 (.iaload) 1 1135 := ⟨by decide +kernel, rfl⟩
theorem d_L_law_1135 : gD cL_law 1135 (.aload_n 0) 1 1136 := ⟨by decide +kernel, rfl⟩
theorem d_L_law_1136 : gD cL_law 1136 (.iload_n 3) 1 1137 := ⟨by decide +kernel, rfl⟩
theorem d_L_law_1137 : gD cL_law 1137 (.iconst 3) 1 1138 := ⟨by decide +kernel, rfl⟩
theorem d_L_law_1138 : gD cL_law 1138 (.iadd) 1 1139 := ⟨by decide +kernel, rfl⟩
theorem d_L_law_1139 : gD cL_law 1139 (.iaload) 1 1140 := ⟨by decide +kernel, rfl⟩
theorem d_L_law_1140 : gD cL_law 1140 (.aload_n 0) 1 1141 := ⟨by decide +kernel, rfl⟩
theorem d_L_law_1141 : gD cL_law 1141 (.iload_n 3) 1 1142 := ⟨by decide +kernel, rfl⟩
theorem d_L_law_1142 : gD cL_law 1142 (.iconst 4) 1 1143 := ⟨by decide +kernel, rfl⟩
theorem d_L_law_1143 : gD cL_law 1143 (.iadd) 1 1144 := ⟨by decide +kernel, rfl⟩
theorem d_L_law_1144 : gD cL_law 1144 (.iaload) 1 1145 := ⟨by decide +kernel, rfl⟩
theorem d_L_law_1145 : gD cL_law 1145 (.invokevirtual 97) 3 1148 := ⟨by decide +kernel, rfl⟩
theorem d_L_law_1148 : gD cL_law 1148 (.if_icmp .eq 666) 3 1151 ∧ ((1148 : Nat) : Int) + 666 = ((1814 : Nat) : Int) := ⟨⟨by decide +kernel, rfl⟩, by decide⟩
theorem d_L_law_1151 : gD cL_law 1151 (.iconst 0) 1 1152 := ⟨by decide +kernel, rfl⟩
theorem d_L_law_1152 : gD cL_law 1152 (.ireturn) 1 1153 := ⟨by decide +kernel, rfl⟩
theorem d_L_law_1153 : gD cL_law 1153 (.aload_n 1) 1 1154 := ⟨by decide +kernel, rfl⟩
theorem d_L_law_1154 : gD cL_law 1154 (.aload_n 0) 1 1155 := ⟨by decide +kernel, rfl⟩
theorem d_L_law_1155 : gD cL_law 1155 (.iload_n 3) 1 1156 := ⟨by decide +kernel, rfl⟩
theorem d_L_law_1156 : gD cL_law 1156 (.iconst 1) 1 1157 := ⟨by decide +kernel, rfl⟩
theorem d_L_law_1157 : gD cL_law 1157 (.iadd) 1 1158 := ⟨by decide +kernel, rfl⟩
theorem d_L_law_1158 : gD cL_law 1158 (.iaload) 1 1159 := ⟨by decide +kernel, rfl⟩
theorem d_L_law_1159 : gD cL_law 1159 (.aload_n 0) 1 1160 := ⟨by decide +kernel, rfl⟩
theorem d_L_law_1160 : gD cL_law 1160 (.iload_n 3) 1 1161 := ⟨by decide +kernel, rfl⟩
theorem d_L_law_1161 : gD cL_law 1161 (.iconst 2) 1 1162 := ⟨by decide +kernel, rfl⟩
theorem d_L_law_1162 : gD cL_law 1162 (.iadd) 1 1163 := ⟨by decide +kernel, rfl⟩
theorem d_L_law_1163 : gD cL_law 1163 (.iaload) 1 1164 := ⟨by decide +kernel, rfl⟩
theorem d_L_law_1164 : gD cL_law 1164 (.invokevirtual 98) 3 1167 := ⟨by decide +kernel, rfl⟩
theorem d_L_law_1167 : gD cL_law 1167 (.aload_n 2) 1 1168 := ⟨by decide +kernel, rfl⟩
theorem d_L_law_1168 : gD cL_law 1168 (.aload_n 0) 1 1169 := ⟨by decide +kernel, rfl⟩
theorem d_L_law_1169 : gD cL_law 1169 (.iload_n 3) 1 1170 := ⟨by decide +kernel, rfl⟩
theorem d_L_law_1170 : gD cL_law 1170 (.iconst 1) 1 1171 := ⟨by decide +kernel, rfl⟩
theorem d_L_law_1171 : gD cL_law 1171 (.iadd) 1 1172 := ⟨by decide +kernel, rfl⟩
theorem d_L_law_1172 : gD cL_law 1172 (.iaload) 1 1173 := ⟨by decide +kernel, rfl⟩
theorem d_L_law_1173 : gD cL_law 1173 (.aload_n 0) 1 1174 := ⟨by decide +kernel, rfl⟩
theorem d_L_law_1174 : gD cL_law 1174 (.iload_n 3) 1 1175 := ⟨by decide +kernel, rfl⟩
theorem d_L_law_1175 : gD cL_law 1175 (.iconst 2) 1 1176 := ⟨by decide +kernel, rfl⟩
theorem d_L_law_1176 : gD cL_law 1176 (.iadd) 1 1177 := ⟨by decide +kernel, rfl⟩
theorem d_L_law_1177 : gD cL_law 1177 (.iaload) 1 1178 := ⟨by decide +kernel, rfl⟩
theorem d_L_law_1178 : gD cL_law 1178 (.invokevirtual 101) 3 1181 := ⟨by decide +kernel, rfl⟩
theorem d_L_law_1181 : gD cL_law 1181 (.if_icmp .eq 633) 3 1184 ∧ ((1181 : Nat) : Int) + 633 = ((1814 : Nat) : Int) := ⟨⟨by decide +kernel, rfl⟩, by decide⟩
theorem d_L_law_1184 : gD cL_law 1184 (.iconst 0) 1 1185 := ⟨by decide +kernel, rfl⟩
theorem d_L_law_1185 : gD cL_law 1185 (.ireturn) 1 1186 := ⟨by decide +kernel, rfl⟩
theorem d_L_law_1186 : gD cL_law 1186 (.aload_n 1) 1 1187 := ⟨by decide +kernel, rfl⟩
theorem d_L_law_1187 : gD cL_law 1187 (.aload_n 0) 1 1188 := ⟨by decide +kernel, rfl⟩
theorem d_L_law_1188 : gD cL_law 1188 (.iload_n 3) 1 1189 := ⟨by decide +kernel, rfl⟩
theorem d_L_law_1189 : gD cL_law 1189 (.iconst 1) 1 1190 := ⟨by decide +kernel, rfl⟩
theorem d_L_law_1190 : gD cL_law 1190 (.iadd) 1 1191 := ⟨by decide +kernel, rfl⟩
theorem d_L_law_1191 : gD cL_law 1191 (.iaload) 1 1192 := ⟨by decide +kernel, rfl⟩
theorem d_L_law_1192 : gD cL_law 1192 (.aload_n 0) 1 1193 := ⟨by decide +kernel, rfl⟩
theorem d_L_law_1193 : gD cL_law 1193 (.iload_n 3) 1 1194 := ⟨by decide +kernel, rfl⟩
theorem d_L_law_1194 : gD cL_law 1194 (.iconst 2) 1 1195 := ⟨by decide +kernel, rfl⟩
theorem d_L_law_1195 : gD cL_law 1195 (.iadd) 1 1196 := ⟨by decide +kernel, rfl⟩
theorem d_L_law_1196 : gD cL_law 1196 (.iaload) 1 1197 := ⟨by decide +kernel, rfl⟩
theorem d_L_law_1197 : gD cL_law 1197 (.invokevirtual 102) 3 1200 := ⟨by decide +kernel, rfl⟩
theorem d_L_law_1200 : gD cL_law 1200 (.aload_n 2) 1 1201 := ⟨by decide +kernel, rfl⟩
theorem d_L_law_1201 : gD cL_law 1201 (.aload_n 0) 1 1202 := ⟨by decide +kernel, rfl⟩
theorem d_L_law_1202 : gD cL_law 1202 (.iload_n 3) 1 1203 := ⟨by decide +kernel, rfl⟩
theorem d_L_law_1203 : gD cL_law 1203 (.iconst 1) 1 1204 := ⟨by decide +kernel, rfl⟩
theorem d_L_law_1204 : gD cL_law 1204 (.iadd) 1 1205 := ⟨by decide +kernel, rfl⟩
theorem d_L_law_1205 : gD cL_law 1205 (.iaload) 1 1206 := ⟨by decide +kernel, rfl⟩
theorem d_L_law_1206 : gD cL_law 1206 (.aload_n 0) 1 1207 := ⟨by decide +kernel, rfl⟩
theorem d_L_law_1207 : gD cL_law 1207 (.iload_n 3) 1 1208 := ⟨by decide +kernel, rfl⟩
theorem d_L_law_1208 : gD cL_law 1208 (.iconst 2) 1 1209 := ⟨by decide +kernel, rfl⟩
theorem d_L_law_1209 : gD cL_law 1209 (.iadd) 1 1210 := ⟨by decide +kernel, rfl⟩
theorem d_L_law_1210 : gD cL_law 1210 (.iaload) 1 1211 := ⟨by decide +kernel, rfl⟩
theorem d_L_law_1211 : gD cL_law 1211 (.invokevirtual 106) 3 1214 := ⟨by decide +kernel, rfl⟩
theorem d_L_law_1214 : gD cL_law 1214 (.lcmp) 1 1215 := ⟨by decide +kernel, rfl⟩
theorem d_L_law_1215 : gD cL_law 1215 (.ifCond .eq 599) 3 1218 ∧ ((1215 : Nat) : Int) + 599 = ((1814 : Nat) : Int) := ⟨⟨by decide +kernel, rfl⟩, by decide⟩
theorem d_L_law_1218 : gD cL_law 1218 (.iconst 0) 1 1219 := ⟨by decide +kernel, rfl⟩
theorem d_L_law_1219 : gD cL_law 1219 (.ireturn) 1 1220 := ⟨by decide +kernel, rfl⟩
theorem d_L_law_1220 : gD cL_law 1220 (.aload_n 1) 1 1221 := ⟨by decide +kernel, rfl⟩
theorem d_L_law_1221 : gD cL_law 1221 (.aload_n 0) 1 1222 := ⟨by decide +kernel, rfl⟩
theorem d_L_law_1222 : gD cL_law 1222 (.iload_n 3) 1 1223 := ⟨by decide +kernel, rfl⟩
theorem d_L_law_1223 : gD cL_law 1223 (.iconst 1) 1 1224 := ⟨by decide +kernel, rfl⟩
theorem d_L_law_1224 : gD cL_law 1224 (.iadd) 1 1225 := ⟨by decide +kernel, rfl⟩
theorem d_L_law_1225 : gD cL_law 1225 (.iaload) 1 1226 := ⟨by decide +kernel, rfl⟩
theorem d_L_law_1226 : gD cL_law 1226 (.aload_n 0) 1 1227 := ⟨by decide +kernel, rfl⟩
theorem d_L_law_1227 : gD cL_law 1227 (.iload_n 3) 1 1228 := ⟨by decide +kernel, rfl⟩
theorem d_L_law_1228 : gD cL_law 1228 (.iconst 2) 1 1229 := ⟨by decide +kernel, rfl⟩
theorem d_L_law_1229 : gD cL_law 1229 (.iadd) 1 1230 := ⟨by decide +kernel, rfl⟩
theorem d_L_law_1230 : gD cL_law 1230 (.iaload) 1 1231 := ⟨by decide +kernel, rfl⟩
theorem d_L_law_1231 : gD cL_law 1231 (.aload_n 0) 1 1232 := ⟨by decide +kernel, rfl⟩
theorem d_L_law_1232 : gD cL_law 1232 (.iload_n 3) 1 1233 := ⟨by decide +kernel, rfl⟩
theorem d_L_law_1233 : gD cL_law 1233 (.iconst 3) 1 1234 := ⟨by decide +kernel, rfl⟩
theorem d_L_law_1234 : gD cL_law 1234 (.iadd) 1 1235 := ⟨by decide +kernel, rfl⟩
theorem d_L_law_1235 : gD cL_law 1235 (.iaload) 1 1236 := ⟨by decide +kernel, rfl⟩
theorem d_L_law_1236 : gD cL_law 1236 (.aload_n 0) 1 1237 := ⟨by decide +kernel, rfl⟩
theorem d_L_law_1237 : gD cL_law 1237 (.iload_n 3) 1 1238 := ⟨by decide +kernel, rfl⟩
theorem d_L_law_1238 : gD cL_law 1238 (.iconst 4) 1 1239 := ⟨by decide +kernel, rfl⟩
theorem d_L_law_1239 : gD cL_law 1239 (.iadd) 1 1240 := ⟨by decide +kernel, rfl⟩
theorem d_L_law_1240 : gD cL_law 1240 (.iaload) 1 1241 := ⟨by decide +kernel, rfl⟩
theorem d_L_law_1241 : gD cL_law 1241 (.invokevirtual 107) 3 1244 := ⟨by decide +kernel, rfl⟩
theorem d_L_law_1244 : gD cL_law 1244 (.aload_n 2) 1 1245 := ⟨by decide +kernel, rfl⟩
theorem d_L_law_1245 : gD cL_law 1245 (.aload_n 0) 1 1246 := ⟨by decide +kernel, rfl⟩
theorem d_L_law_1246 : gD cL_law 1246 (.iload_n 3) 1 1247 := ⟨by decide +kernel, rfl⟩
theorem d_L_law_1247 : gD cL_law 1247 (.iconst 1) 1 1248 := ⟨by decide +kernel, rfl⟩
theorem d_L_law_1248 : gD cL_law 1248 (.iadd) 1 1249 := ⟨by decide +kernel, rfl⟩
theorem d_L_law_1249 : gD cL_law 1249 (.iaload) 1 1250 := ⟨by decide +kernel, rfl⟩
theorem d_L_law_1250 : gD cL_law 1250 (.aload_n 0) 1 1251 := ⟨by decide +kernel, rfl⟩
theorem d_L_law_1251 : gD cL_law 1251 (.iload_n 3) 1 1252 := ⟨by decide +kernel, rfl⟩
theorem d_L_law_1252 : gD cL_law 1252 (.iconst 2) 1 1253 := ⟨by decide +kernel, rfl⟩
theorem d_L_law_1253 : gD cL_law 1253 (.iadd) 1 1254 := ⟨by decide +kernel, rfl⟩
theorem d_L_law_1254 : gD cL_law 1254 (.iaload) 1 1255 := ⟨by decide +kernel, rfl⟩
theorem d_L_law_1255 : gD cL_law 1255 (.aload_n 0) 1 1256 := ⟨by decide +kernel, rfl⟩
theorem d_L_law_1256 : gD cL_law 1256 (.iload_n 3) 1 1257 := ⟨by decide +kernel, rfl⟩
theorem d_L_law_1257 : gD cL_law 1257 (.iconst 3) 1 1258 := ⟨by decide +kernel, rfl⟩
theorem d_L_law_1258 : gD cL_law 1258 (.iadd) 1 1259 := ⟨by decide +kernel, rfl⟩
theorem d_L_law_1259 : gD cL_law 1259 (.iaload) 1 1260 := ⟨by decide +kernel, rfl⟩
theorem d_L_law_1260 : gD cL_law 1260 (.aload_n 0) 1 1261 := ⟨by decide +kernel, rfl⟩
theorem d_L_law_1261 : gD cL_law 1261 (.iload_n 3) 1 1262 := ⟨by decide +kernel, rfl⟩
theorem d_L_law_1262 : gD cL_law 1262 (.iconst 4) 1 1263 := ⟨by decide +kernel, rfl⟩
theorem d_L_law_1263 : gD cL_law 1263 (.iadd) 1 1264 := ⟨by decide +kernel, rfl⟩
theorem d_L_law_1264 : gD cL_law 1264 (.iaload) 1 1265 := ⟨by decide +kernel, rfl⟩
theorem d_L_law_1265 : gD cL_law 1265 (.invokevirtual 110) 3 1268 := ⟨by decide +kernel, rfl⟩
theorem d_L_law_1268 : gD cL_law 1268 (.if_icmp .eq 546) 3 1271 ∧ ((1268 : Nat) : Int) + 546 = ((1814 : Nat) : Int) := ⟨⟨by decide +kernel, rfl⟩, by decide⟩
theorem d_L_law_1271 : gD cL_law 1271 (.iconst 0) 1 1272 := ⟨by decide +kernel, rfl⟩
theorem d_L_law_1272 : gD cL_law 1272 (.ireturn) 1 1273 := ⟨by decide +kernel, rfl⟩
theorem d_L_law_1273 : gD cL_law 1273 (.aload_n 1) 1 1274 := ⟨by decide +kernel, rfl⟩
theorem d_L_law_1274 : gD cL_law 1274 (.aload_n 0) 1 1275 := ⟨by decide +kernel, rfl⟩
theorem d_L_law_1275 : gD cL_law 1275 (.iload_n 3) 1 1276 := ⟨by decide +kernel, rfl⟩
theorem d_L_law_1276 : gD cL_law 1276 (.iconst 1) 1 1277 := ⟨by decide +kernel, rfl⟩
theorem d_L_law_1277 : gD cL_law 1277 (.iadd) 1 1278 := ⟨by decide +kernel, rfl⟩
theorem d_L_law_1278 : gD cL_law 1278 (.iaload) 1 1279 := ⟨by decide +kernel, rfl⟩
theorem d_L_law_1279 : gD cL_law 1279 (.aload_n 0) 1 1280 := ⟨by decide +kernel, rfl⟩
theorem d_L_law_1280 : gD cL_law 1280 (.iload_n 3) 1 1281 := ⟨by decide +kernel, rfl⟩
theorem d_L_law_1281 : gD cL_law 1281 (.iconst 2) 1 1282 := ⟨by decide +kernel, rfl⟩
theorem d_L_law_1282 : gD cL_law 1282 (.iadd) 1 1283 := ⟨by decide +kernel, rfl⟩
theorem d_L_law_1283 : gD cL_law 1283 (.iaload) 1 1284 := ⟨by decide +kernel, rfl⟩
theorem d_L_law_1284 : gD cL_law 1284 (.aload_n 0) 1 1285 := ⟨by decide +kernel, rfl⟩
theorem d_L_law_1285 : gD cL_law 1285 (.iload_n 3) 1 1286 := ⟨by decide +kernel, rfl⟩
theorem d_L_law_1286 : gD cL_law 1286 (.iconst 3) 1 1287 := ⟨by decide +kernel, rfl⟩
theorem d_L_law_1287 : gD cL_law 1287 (.iadd) 1 1288 := ⟨by decide +kernel, rfl⟩
theorem d_L_law_1288 : gD cL_law 1288 (.iaload) 1 1289 := ⟨by decide +kernel, rfl⟩
theorem d_L_law_1289 : gD cL_law 1289 (.invokevirtual 111) 3 1292 := ⟨by decide +kernel, rfl⟩
theorem d_L_law_1292 : gD cL_law 1292 (.aload_n 2) 1 1293 := ⟨by decide +kernel, rfl⟩
theorem d_L_law_1293 : gD cL_law 1293 (.aload_n 0) 1 1294 := ⟨by decide +kernel, rfl⟩
theorem d_L_law_1294 : gD cL_law 1294 (.iload_n 3) 1 1295 := ⟨by decide +kernel, rfl⟩
theorem d_L_law_1295 : gD cL_law 1295 (.iconst 1) 1 1296 := ⟨by decide +kernel, rfl⟩
theorem d_L_law_1296 : gD cL_law 1296 (.iadd) 1 1297 := ⟨by decide +kernel, rfl⟩
theorem d_L_law_1297 : gD cL_law 1297 (.iaload) 1 1298 := ⟨by decide +kernel, rfl⟩
theorem d_L_law_1298 : gD cL_law 1298 (.aload_n 0) 1 1299 := ⟨by decide +kernel, rfl⟩
theorem d_L_law_1299 : gD cL_law 1299 (.iload_n 3) 1 1300 := ⟨by decide +kernel, rfl⟩
theorem d_L_law_1300 : gD cL_law 1300 (.iconst 2) 1 1301 := ⟨by decide +kernel, rfl⟩
theorem d_L_law_1301 : gD cL_law 1301 (.iadd) 1 1302 := ⟨by decide +kernel, rfl⟩
theorem d_L_law_1302 : gD cL_law 1302 (.iaload) 1 1303 := ⟨by decide +kernel, rfl⟩
theorem d_L_law_1303 : gD cL_law 1303 (.aload_n 0) 1 1304 := ⟨by decide +kernel, rfl⟩
theorem d_L_law_1304 : gD cL_law 1304 (.iload_n 3) 1 1305 := ⟨by decide +kernel, rfl⟩
theorem d_L_law_1305 : gD cL_law 1305 (.iconst 3) 1 1306 := ⟨by decide +kernel, rfl⟩
theorem d_L_law_1306 : gD cL_law 1306 (.iadd) 1 1307 := ⟨by decide +kernel, rfl⟩
theorem d_L_law_1307 : gD cL_law 1307 (.iaload) 1 1308 := ⟨by decide +kernel, rfl⟩
theorem d_L_law_1308 : gD cL_law 1308 (.invokevirtual 114) 3 1311 := ⟨by decide +kernel, rfl⟩
theorem d_L_law_1311 : gD cL_law 1311 (.if_icmp .eq 503) 3 1314 ∧ ((1311 : Nat) : Int) + 503 = ((1814 : Nat) : Int) := ⟨⟨by decide +kernel, rfl⟩, by decide⟩
theorem d_L_law_1314 : gD cL_law 1314 (.iconst 0) 1 1315 := ⟨by decide +kernel, rfl⟩
theorem d_L_law_1315 : gD cL_law 1315 (.ireturn) 1 1316 := ⟨by decide +kernel, rfl⟩
theorem d_L_law_1316 : gD cL_law 1316 (.aload_n 1) 1 1317 := ⟨by decide +kernel, rfl⟩
theorem d_L_law_1317 : gD cL_law 1317 (.aload_n 0) 1 1318 := ⟨by decide +kernel, rfl⟩
theorem d_L_law_1318 : gD cL_law 1318 (.iload_n 3) 1 1319 := ⟨by decide +kernel, rfl⟩
theorem d_L_law_1319 : gD cL_law 1319 (.iconst 1) 1 1320 := ⟨by decide +kernel, rfl⟩
theorem d_L_law_1320 : gD cL_law 1320 (.iadd) 1 1321 := ⟨by decide +kernel, rfl⟩
theorem d_L_law_1321 : gD cL_law 1321 (.iaload) 1 1322 := ⟨by decide +kernel, rfl⟩
theorem d_L_law_1322 : gD cL_law 1322 (.aload_n 0) 1 1323 := ⟨by decide +kernel, rfl⟩
theorem d_L_law_1323 : gD cL_law 1323 (.iload_n 3) 1 1324 := ⟨by decide +kernel, rfl⟩
theorem d_L_law_1324 : gD cL_law 1324 (.iconst 2) 1 1325 := ⟨by decide +kernel, rfl⟩
theorem d_L_law_1325 : gD cL_law 1325 (.iadd) 1 1326 := ⟨by decide +kernel, rfl⟩
theorem d_L_law_1326 : gD cL_law 1326 (.iaload) 1 1327 := ⟨by decide +kernel, rfl⟩
theorem d_L_law_1327 : gD cL_law 1327 (.aload_n 0) 1 1328 := ⟨by decide +kernel, rfl⟩
theorem d_L_law_1328 : gD cL_law 1328 (.iload_n 3) 1 1329 := ⟨by decide +kernel, rfl⟩
theorem d_L_law_1329 : gD cL_law 1329 (.iconst 3) 1 1330 := ⟨by decide +kernel, rfl⟩
theorem d_L_law_1330 : gD cL_law 1330 (.iadd) 1 1331 := ⟨by decide +kernel, rfl⟩
theorem d_L_law_1331 : gD cL_law 1331 (.iaload) 1 1332 := ⟨by decide +kernel, rfl⟩
theorem d_L_law_1332 : gD cL_law 1332 (.invokevirtual 115) 3 1335 := ⟨by decide +kernel, rfl⟩
theorem d_L_law_1335 : gD cL_law 1335 (.aload_n 2) 1 1336 := ⟨by decide +kernel, rfl⟩
theorem d_L_law_1336 : gD cL_law 1336 (.aload_n 0) 1 1337 := ⟨by decide +kernel, rfl⟩
theorem d_L_law_1337 : gD cL_law 1337 (.iload_n 3) 1 1338 := ⟨by decide +kernel, rfl⟩
theorem d_L_law_1338 : gD cL_law 1338 (.iconst 1) 1 1339 := ⟨by decide +kernel, rfl⟩
theorem d_L_law_1339 : gD cL_law 1339 (.iadd) 1 1340 := ⟨by decide +kernel, rfl⟩
theorem d_L_law_1340 : gD cL_law 1340 (.iaload) 1 1341 := ⟨by decide +kernel, rfl⟩
theorem d_L_law_1341 : gD cL_law 1341 (.aload_n 0) 1 1342 := ⟨by decide +kernel, rfl⟩
theorem d_L_law_1342 : gD cL_law 1342 (.iload_n 3) 1 1343 := ⟨by decide +kernel, rfl⟩
theorem d_L_law_1343 : gD cL_law 1343 (.iconst 2) 1 1344 := ⟨by decide +kernel, rfl⟩
theorem d_L_law_1344 : gD cL_law 1344 (.iadd) 1 1345 := ⟨by decide +kernel, rfl⟩
theorem d_L_law_1345 : gD cL_law 1345 (.iaload) 1 1346 := ⟨by decide +kernel, rfl⟩
theorem d_L_law_1346 : gD cL_law 1346 (.aload_n 0) 1 1347 := ⟨by decide +kernel, rfl⟩
theorem d_L_law_1347 : gD cL_law 1347 (.iload_n 3) 1 1348 := ⟨by decide +kernel, rfl⟩
theorem d_L_law_1348 : gD cL_law 1348 (.iconst 3) 1 1349 := ⟨by decide +kernel, rfl⟩
theorem d_L_law_1349 : gD cL_law 1349 (.iadd) 1 1350 := ⟨by decide +kernel, rfl⟩
theorem d_L_law_1350 : gD cL_law 1350 (.iaload) 1 1351 := ⟨by decide +kernel, rfl⟩
theorem d_L_law_1351 : gD cL_law 1351 (.invokevirtual 118) 3 1354 := ⟨by decide +kernel, rfl⟩
theorem d_L_law_1354 : gD cL_law 1354 (.if_icmp .eq 460) 3 1357 ∧ ((1354 : Nat) : Int) + 460 = ((1814 : Nat) : Int) := ⟨⟨by decide +kernel, rfl⟩, by decide⟩
theorem d_L_law_1357 : gD cL_law 1357 (.iconst 0) 1 1358 := ⟨by decide +kernel, rfl⟩
theorem d_L_law_1358 : gD cL_law 1358 (.ireturn) 1 1359 := ⟨by decide +kernel, rfl⟩
theorem d_L_law_1359 : gD cL_law 1359 (.aload_n 1) 1 1360 := ⟨by decide +kernel, rfl⟩
theorem d_L_law_1360 : gD cL_law 1360 (.aload_n 0) 1 1361 := ⟨by decide +kernel, rfl⟩
theorem d_L_law_1361 : gD cL_law 1361 (.iload_n 3) 1 1362 := ⟨by decide +kernel, rfl⟩
theorem d_L_law_1362 : gD cL_law 1362 (.iconst 1) 1 1363 := ⟨by decide +kernel, rfl⟩
theorem d_L_law_1363 : gD cL_law 1363 (.iadd) 1 1364 := ⟨by decide +kernel, rfl⟩
theorem d_L_law_1364 : gD cL_law 1364 (.iaload) 1 1365 := ⟨by decide +kernel, rfl⟩
theorem d_L_law_1365 : gD cL_law 1365 (.aload_n 0) 1 1366 := ⟨by decide +kernel, rfl⟩
theorem d_L_law_1366 : gD cL_law 1366 (.iload_n 3) 1 1367 := ⟨by decide +kernel, rfl⟩
theorem d_L_law_1367 : gD cL_law 1367 (.iconst 2) 1 1368 := ⟨by decide +kernel, rfl⟩
theorem d_L_law_1368 : gD cL_law 1368 (.iadd) 1 1369 := ⟨by decide +kernel, rfl⟩
theorem d_L_law_1369 : gD cL_law 1369 (.iaload) 1 1370 := ⟨by decide +kernel, rfl⟩
theorem d_L_law_1370 : gD cL_law 1370 (.invokevirtual 119) 3 1373 := ⟨by decide +kernel, rfl⟩
theorem d_L_law_1373 : gD cL_law 1373 (.aload_n 2) 1 1374 := ⟨by decide +kernel, rfl⟩
theorem d_L_law_1374 : gD cL_law 1374 (.aload_n 0) 1 1375 := ⟨by decide +kernel, rfl⟩
theorem d_L_law_1375 : gD cL_law 1375 (.iload_n 3) 1 1376 := ⟨by decide +kernel, rfl⟩
theorem d_L_law_1376 : gD cL_law 1376 (.iconst 1) 1 1377 := ⟨by decide +kernel, rfl⟩
theorem d_L_law_1377 : gD cL_law 1377 (.iadd) 1 1378 := ⟨by decide +kernel, rfl⟩
theorem d_L_law_1378 : gD cL_law 1378 (.iaload) 1 1379 := ⟨by decide +kernel, rfl⟩
theorem d_L_law_1379 : gD cL_law 1379 (.aload_n 0) 1 1380 := ⟨by decide +kernel, rfl⟩
theorem d_L_law_1380 : gD cL_law 1380 (.iload_n 3) 1 1381 := ⟨by decide +kernel, rfl⟩
theorem d_L_law_1381 : gD cL_law 1381 (.iconst 2) 1 1382 := ⟨by decide +kernel, rfl⟩
theorem d_L_law_1382 : gD cL_law 1382 (.iadd) 1 1383 := ⟨by decide +kernel, rfl⟩
theorem d_L_law_1383 : gD cL_law 1383 (.iaload) 1 1384 := ⟨by decide +kernel, rfl⟩
theorem d_L_law_1384 : gD cL_law 1384 (.invokevirtual 122) 3 1387 := ⟨by decide +kernel, rfl⟩
theorem d_L_law_1387 : gD cL_law 1387 (.if_icmp .eq 427) 3 1390 ∧ ((1387 : Nat) : Int) + 427 = ((1814 : Nat) : Int) := ⟨⟨by decide +kernel, rfl⟩, by decide⟩
theorem d_L_law_1390 : gD cL_law 1390 (.iconst 0) 1 1391 := ⟨by decide +kernel, rfl⟩
theorem d_L_law_1391 : gD cL_law 1391 (.ireturn) 1 1392 := ⟨by decide +kernel, rfl⟩
theorem d_L_law_1392 : gD cL_law 1392 (.aload_n 1) 1 1393 := ⟨by decide +kernel, rfl⟩
theorem d_L_law_1393 : gD cL_law 1393 (.aload_n 0) 1 1394 := ⟨by decide +kernel, rfl⟩
theorem d_L_law_1394 : gD cL_law 1394 (.iload_n 3) 1 1395 := ⟨by decide +kernel, rfl⟩
theorem d_L_law_1395 : gD cL_law 1395 (.iconst 1) 1 1396 := ⟨by decide +kernel, rfl⟩
theorem d_L_law_1396 : gD cL_law 1396 (.iadd) 1 1397 := ⟨by decide +kernel, rfl⟩
theorem d_L_law_1397 : gD cL_law 1397 (.iaload) 1 1398 := ⟨by decide +kernel, rfl⟩
theorem d_L_law_1398 : gD cL_law 1398 (.aload_n 0) 1 1399 := ⟨by decide +kernel, rfl⟩
theorem d_L_law_1399 : gD cL_law 1399 (.iload_n 3) 1 1400 := ⟨by decide +kernel, rfl⟩
theorem d_L_law_1400 : gD cL_law 1400 (.iconst 2) 1 1401 := ⟨by decide +kernel, rfl⟩
theorem d_L_law_1401 : gD cL_law 1401 (.iadd) 1 1402 := ⟨by decide +kernel, rfl⟩
theorem d_L_law_1402 : gD cL_law 1402 (.iaload) 1 1403 := ⟨by decide +kernel, rfl⟩
theorem d_L_law_1403 : gD cL_law 1403 (.ifCond .eq 7) 3 1406 ∧ ((1403 : Nat) : Int) + 7 = ((1410 : Nat) : Int) := ⟨⟨by decide +kernel, rfl⟩, by decide⟩
theorem d_L_law_1406 : gD cL_law 1406 (.iconst 1) 1 1407 := ⟨by decide +kernel, rfl⟩
theorem d_L_law_1407 : decode cL_law 1407 = .ok (.goto 4, 3) ∧ ((1407 : Nat) : Int) + 4 = ((1411 : Nat) : Int) := ⟨by decide +kernel, by decide⟩
theorem d_L_law_1410 : gD cL_law 1410 (.iconst 0) 1 1411 := ⟨by decide +kernel, rfl⟩
theorem d_L_law_1411 : gD cL_law 1411 (.invokevirtual 123) 3 1414 := ⟨by decide +kernel, rfl⟩
theorem d_L_law_1414 : gD cL_law 1414 (.aload_n 2) 1 1415 := ⟨by decide +kernel, rfl⟩
theorem d_L_law_1415 : gD cL_law 1415 (.aload_n 0) 1 1416 := ⟨by decide +kernel, rfl⟩
theorem d_L_law_1416 : gD cL_law 1416 (.iload_n 3) 1 1417 := ⟨by decide +kernel, rfl⟩
theorem d_L_law_1417 : gD cL_law 1417 (.iconst 1) 1 1418 := ⟨by decide +kernel, rfl⟩
theorem d_L_law_1418 : gD cL_law 1418 (.iadd) 1 1419 := ⟨by decide +kernel, rfl⟩
theorem d_L_law_1419 : gD cL_law 1419 (.iaload) 1 1420 := ⟨by decide +kernel, rfl⟩
theorem d_L_law_1420 : gD cL_law 1420 (.aload_n 0) 1 1421 := ⟨by decide +kernel, rfl⟩
theorem d_L_law_1421 : gD cL_law 1421 (.iload_n 3) 1 1422 := ⟨by decide +kernel, rfl⟩
theorem d_L_law_1422 : gD cL_law 1422 (.iconst 2) 1 1423 := ⟨by decide +kernel, rfl⟩
theorem d_L_law_1423 : gD cL_law 1423 (.iadd) 1 1424 := ⟨by decide +kernel, rfl⟩
theorem d_L_law_1424 : gD cL_law 1424 (.iaload) 1 1425 := ⟨by decide +kernel, rfl⟩
theorem d_L_law_1425 : gD cL_law 1425 (.ifCond .eq 7) 3 1428 ∧ ((1425 : Nat) : Int) + 7 = ((1432 : Nat) : Int) := ⟨⟨by decide +kernel, rfl⟩, by decide⟩
theorem d_L_law_1428 : gD cL_law 1428 (.iconst 1) 1 1429 := ⟨by decide +kernel, rfl⟩
theorem d_L_law_1429 : decode cL_law 1429 = .ok (.goto 4, 3) ∧ ((1429 : Nat) : Int) + 4 = ((1433 : Nat) : Int) := ⟨by decide +kernel, by decide⟩
theorem d_L_law_1432 : gD cL_law 1432 (.iconst 0) 1 1433 := ⟨by decide +kernel, rfl⟩
theorem d_L_law_1433 : gD cL_law 1433 (.invokevirtual 127) 3 1436 := ⟨by decide +kernel, rfl⟩
theorem d_L_law_1436 : gD cL_law 1436 (.if_icmp .eq 378) 3 1439 ∧ ((1436 : Nat) : Int) + 378 = ((1814 : Nat) : Int) := ⟨⟨by decide +kernel, rfl⟩, by decide⟩
theorem d_L_law_1439 : gD cL_law 1439 (.iconst 0) 1 1440 := ⟨by decide +kernel, rfl⟩
theorem d_L_law_1440 : gD cL_law 1440 (.ireturn) 1 1441 := ⟨by decide +kernel, rfl⟩
theorem d_L_law_1441 : gD cL_law 1441 (.aload_n 1) 1 1442 := ⟨by decide +kernel, rfl⟩
theorem d_L_law_1442 : gD cL_law 1442 (.aload_n 0) 1 1443 := ⟨by decide +kernel, rfl⟩
theorem d_L_law_1443 : gD cL_law 1443 (.iload_n 3) 1 1444 := ⟨by decide +kernel, rfl⟩
theorem d_L_law_1444 : gD cL_law 1444 (.iconst 1) 1 1445 := ⟨by decide +kernel, rfl⟩
theorem d_L_law_1445 : gD cL_law 1445 (.iadd) 1 1446 := ⟨by decide +kernel, rfl⟩
theorem d_L_law_1446 : gD cL_law 1446 (.iaload) 1 1447 := ⟨by decide +kernel, rfl⟩
theorem d_L_law_1447 : gD cL_law 1447 (.aload_n 0) 1 1448 := ⟨by decide +kernel, rfl⟩
theorem d_L_law_1448 : gD cL_law 1448 (.iload_n 3) 1 1449 := ⟨by decide +kernel, rfl⟩
theorem d_L_law_1449 : gD cL_law 1449 (.iconst 2) 1 1450 := ⟨by decide +kernel, rfl⟩
theorem d_L_law_1450 : gD cL_law 1450 (.iadd) 1 1451 := ⟨by decide +kernel, rfl⟩
theorem d_L_law_1451 : gD cL_law 1451 (.iaload) 1 1452 := ⟨by decide +kernel, rfl⟩
theorem d_L_law_1452 : gD cL_law 1452 (.aload_n 0) 1 1453 := ⟨by decide +kernel, rfl⟩
theorem d_L_law_1453 : gD cL_law 1453 (.iload_n 3) 1 1454 := ⟨by decide +kernel, rfl⟩
theorem d_L_law_1454 : gD cL_law 1454 (.iconst 3) 1 1455 := ⟨by decide +kernel, rfl⟩
theorem d_L_law_1455 : gD cL_law 1455 (.iadd) 1 1456 := ⟨by decide +kernel, rfl⟩
theorem d_L_law_1456 : gD cL_law 1456 (.iaload) 1 1457 := ⟨by decide +kernel, rfl⟩
theorem d_L_law_1457 : gD cL_law 1457 (.invokevirtual 128) 3 1460 := ⟨by decide +kernel, rfl⟩
theorem d_L_law_1460 : gD cL_law 1460 (.aload_n 2) 1 1461 := ⟨by decide +kernel, rfl⟩
theorem d_L_law_1461 : gD cL_law 1461 (.aload_n 0) 1 1462 := ⟨by decide +kernel, rfl⟩
theorem d_L_law_1462 : gD cL_law 1462 (.iload_n 3) 1 1463 := ⟨by decide +kernel, rfl⟩
theorem d_L_law_1463 : gD cL_law 1463 (.iconst 1) 1 1464 := ⟨by decide +kernel, rfl⟩
theorem d_L_law_1464 : gD cL_law 1464 (.iadd) 1 1465 := ⟨by decide +kernel, rfl⟩
theorem d_L_law_1465 : gD cL_law 1465 (.iaload) 1 1466 := ⟨by decide +kernel, rfl⟩
theorem d_L_law_1466 : gD cL_law 1466 (.aload_n 0) 1 1467 := ⟨by decide +kernel, rfl⟩
theorem d_L_law_1467 : gD cL_law 1467 (.iload_n 3) 1 1468 := ⟨by decide +kernel, rfl⟩
theorem d_L_law_1468 : gD cL_law 1468 (.iconst 2) 1 1469 := ⟨by decide +kernel, rfl⟩
theorem d_L_law_1469 : gD cL_law 1469 (.iadd) 1 1470 := ⟨by decide +kernel, rfl⟩
theorem d_L_law_1470 : gD cL_law 1470 (.iaload) 1 1471 := ⟨by decide +kernel, rfl⟩
theorem d_L_law_1471 : gD cL_law 1471 (.aload_n 0) 1 1472 := ⟨by decide +kernel, rfl⟩
theorem d_L_law_1472 : gD cL_law 1472 (.iload_n 3) 1 1473 := ⟨by decide +kernel, rfl⟩
theorem d_L_law_1473 : gD cL_law 1473 (.iconst 3) 1 1474 := ⟨by decide +kernel, rfl⟩
theorem d_L_law_1474 : gD cL_law 1474 (.iadd) 1 1475 := ⟨by decide +kernel, rfl⟩
theorem d_L_law_1475 : gD cL_law 1475 (.iaload) 1 1476 := ⟨by decide +kernel, rfl⟩
theorem d_L_law_1476 : gD cL_law 1476 (.invokevirtual 131) 3 1479 := ⟨by decide +kernel, rfl⟩
theorem d_L_law_1479 : gD cL_law 1479 (.if_icmp .eq 335) 3 1482 ∧ ((1479 : Nat) : Int) + 335 = ((1814 : Nat) : Int) := ⟨⟨by decide +kernel, rfl⟩, by decide⟩
theorem d_L_law_1482 : gD cL_law 1482 (.iconst 0) 1 1483 := ⟨by decide +kernel, rfl⟩
theorem d_L_law_1483 : gD cL_law 1483 (.ireturn) 1 1484 := ⟨by decide +kernel, rfl⟩
theorem d_L_law_1484 : gD cL_law 1484 (.aload_n 1) 1 1485 := ⟨by decide +kernel, rfl⟩
theorem d_L_law_1485 : gD cL_law 1485 (.aload_n 0) 1 1486 := ⟨by decide +kernel, rfl⟩
theorem d_L_law_1486 : gD cL_law 1486 (.iload_n 3) 1 1487 := ⟨by decide +kernel, rfl⟩
theorem d_L_law_1487 : gD cL_law 1487 (.iconst 1) 1 1488 := ⟨by decide +kernel, rfl⟩
theorem d_L_law_1488 : gD cL_law 1488 (.iadd) 1 1489 := ⟨by decide +kernel, rfl⟩
theorem d_L_law_1489 : gD cL_law 1489 (.iaload) 1 1490 := ⟨by decide +kernel, rfl⟩
theorem d_L_law_1490 : gD cL_law 1490 (.aload_n 0) 1 1491 := ⟨by decide +kernel, rfl⟩
theorem d_L_law_1491 : gD cL_law 1491 (.iload_n 3) 1 1492 := ⟨by decide +kernel, rfl⟩
theorem d_L_law_1492 : gD cL_law 1492 (.iconst 2) 1 1493 := ⟨by decide +kernel, rfl⟩
theorem d_L_law_1493 : gD cL_law 1493 (.iadd) 1 1494 := ⟨by decide +kernel, rfl⟩
theorem d_L_law_1494 : gD cL_law 1494 (.iaload) 1 1495 := ⟨by decide +kernel, rfl⟩
theorem d_L_law_1495 : gD cL_law 1495 (.aload_n 0) 1 1496 := ⟨by decide +kernel, rfl⟩
theorem d_L_law_1496 : gD cL_law 1496 (.iload_n 3) 1 1497 := ⟨by decide +kernel, rfl⟩
theorem d_L_law_1497 : gD cL_law 1497 (.iconst 3) 1 1498 := ⟨by decide +kernel, rfl⟩
theorem d_L_law_1498 : gD cL_law 1498 (.iadd) 1 1499 := ⟨by decide +kernel, rfl⟩
theorem d_L_law_1499 : gD cL_law 1499 (.iaload) 1 1500 := ⟨by decide +kernel, rfl⟩
theorem d_L_law_1500 : gD cL_law 1500 (.aload_n 0) 1 1501 := ⟨by decide +kernel, rfl⟩
theorem d_L_law_1501 : gD cL_law 1501 (.iload_n 3) 1 1502 := ⟨by decide +kernel, rfl⟩
theorem d_L_law_1502 : gD cL_law 1502 (.iconst 4) 1 1503 := ⟨by decide +kernel, rfl⟩
theorem d_L_law_1503 : gD cL_law 1503 (.iadd) 1 1504 := ⟨by decide +kernel, rfl⟩
theorem d_L_law_1504 : gD cL_law 1504 (.iaload) 1 1505 := ⟨by decide +kernel, rfl⟩
theorem d_L_law_1505 : gD cL_law 1505 (.aload_n 0) 1 1506 := ⟨by decide +kernel, rfl⟩
theorem d_L_law_1506 : gD cL_law 1506 (.iload_n 3) 1 1507 := ⟨by decide +kernel, rfl⟩
theorem d_L_law_1507 : gD cL_law 1507 (.iconst 5) 1 1508 := ⟨by decide +kernel, rfl⟩
theorem d_L_law_1508 : gD cL_law 1508 (.iadd) 1 1509 := ⟨by decide +kernel, rfl⟩
theorem d_L_law_1509 : gD cL_law 1509 (.iaload) 1 1510 := ⟨by decide +kernel, rfl⟩
theorem d_L_law_1510 : gD cL_law 1510 (.ifCond .eq 7) 3 1513 ∧ ((1510 : Nat) : Int) + 7 = ((1517 : Nat) : Int) := ⟨⟨by decide +kernel, rfl⟩, by decide⟩
theorem d_L_law_1513 : gD cL_law 1513 (.iconst 1) 1 1514 := ⟨by decide +kernel, rfl⟩
theorem d_L_law_1514 : decode cL_law 1514 = .ok (.goto 4, 3) ∧ ((1514 : Nat) : Int) + 4 = ((1518 : Nat) : Int) := ⟨by decide +kernel, by decide⟩
theorem d_L_law_1517 : gD cL_law 1517 (.iconst 0) 1 1518 := ⟨by decide +kernel, rfl⟩
theorem d_L_law_1518 : gD cL_law 1518 (.invokevirtual 132) 3 1521 := ⟨by decide +kernel, rfl⟩
theorem d_L_law_1521 : gD cL_law 1521 (.aload_n 2) 1 1522 := ⟨by decide +kernel, rfl⟩
theorem d_L_law_1522 : gD cL_law 1522 (.aload_n 0) 1 1523 := ⟨by decide +kernel, rfl⟩
theorem d_L_law_1523 : gD cL_law 1523 (.iload_n 3) 1 1524 := ⟨by decide +kernel, rfl⟩
theorem d_L_law_1524 : gD cL_law 1524 (.iconst 1) 1 1525 := ⟨by decide +kernel, rfl⟩
theorem d_L_law_1525 : gD cL_law 1525 (.iadd) 1 1526 := ⟨by decide +kernel, rfl⟩
theorem d_L_law_1526 : gD cL_law 1526 (.iaload) 1 1527 := ⟨by decide +kernel, rfl⟩
theorem d_L_law_1527 : gD cL_law 1527 (.aload_n 0) 1 1528 := ⟨by decide +kernel, rfl⟩
theorem d_L_law_1528 : gD cL_law 1528 (.iload_n 3) 1 1529 := ⟨by decide +kernel, rfl⟩
theorem d_L_law_1529 : gD cL_law 1529 (.iconst 2) 1 1530 := ⟨by decide +kernel, rfl⟩
theorem d_L_law_1530 : gD cL_law 1530 (.iadd) 1 1531 := ⟨by decide +kernel, rfl⟩
theorem d_L_law_1531 : gD cL_law 1531 (.iaload) 1 1532 := ⟨by decide +kernel, rfl⟩
theorem d_L_law_1532 : gD cL_law 1532 (.aload_n 0) 1 1533 := ⟨by decide +kernel, rfl⟩
theorem d_L_law_1533 : gD cL_law 1533 (.iload_n 3) 1 1534 := ⟨by decide +kernel, rfl⟩
theorem d_L_law_1534 : gD cL_law 1534 (.iconst 3) 1 1535 := ⟨by decide +kernel, rfl⟩
theorem d_L_law_1535 : gD cL_law 1535 (.iadd) 1 1536 := ⟨by decide +kernel, rfl⟩
theorem d_L_law_1536 : gD cL_law 1536 (.iaload) 1 1537 := ⟨by decide +kernel, rfl⟩
theorem d_L_law_1537 : gD cL_law 1537 (.aload_n 0) 1 1538 := ⟨by decide +kernel, rfl⟩
theorem d_L_law_1538 : gD cL_law 1538 (.iload_n 3) 1 1539 := ⟨by decide +kernel, rfl⟩
theorem d_L_law_1539 : gD cL_law 1539 (.iconst 4) 1 1540 := ⟨by decide +kernel, rfl⟩
theorem d_L_law_1540 : gD cL_law 1540 (.iadd) 1 1541 := ⟨by decide +kernel, rfl⟩
theorem d_L_law_1541 : gD cL_law 1541 (.iaload) 1 1542 := ⟨by decide +kernel, rfl⟩
theorem d_L_law_1542 : gD cL_law 1542 (.aload_n 0) 1 1543 := ⟨by decide +kernel, rfl⟩
theorem d_L_law_1543 : gD cL_law 1543 (.iload_n 3) 1 1544 := ⟨by decide +kernel, rfl⟩
theorem d_L_law_1544 : gD cL_law 1544 (.iconst 5) 1 1545 := ⟨by decide +kernel, rfl⟩
theorem d_L_law_1545 : gD cL_law 1545 (.iadd) 1 1546 := ⟨by decide +kernel, rfl⟩
theorem d_L_law_1546 : gD cL_law 1546 (.iaload) 1 1547 := ⟨by decide +kernel, rfl⟩
theorem d_L_law_1547 : gD cL_law 1547 (.ifCond .eq 7) 3 1550 ∧ ((1547 : Nat) : Int) + 7 = ((1554 : Nat) : Int) := ⟨⟨by decide +kernel, rfl⟩, by decide⟩
theorem d_L_law_1550 : gD cL_law 1550 (.iconst 1) 1 1551 := ⟨by decide +kernel, rfl⟩
theorem d_L_law_1551 : decode cL_law 1551 = .ok (.goto 4, 3) ∧ ((1551 : Nat) : Int) + 4 = ((1555 : Nat) : Int) := ⟨by decide +kernel, by decide⟩
theorem d_L_law_1554 : gD cL_law 1554 (.iconst 0) 1 1555 := ⟨by decide +kernel, rfl⟩
theorem d_L_law_1555 : gD cL_law 1555 (.invokevirtual 136) 3 1558 := ⟨by decide +kernel, rfl⟩
theorem d_L_law_1558 : gD cL_law 1558 (.if_icmp .eq 256) 3 1561 ∧ ((1558 : Nat) : Int) + 256 = ((1814 : Nat) : Int) := ⟨⟨by decide +kernel, rfl⟩, by decide⟩
theorem d_L_law_1561 : gD cL_law 1561 (.iconst 0) 1 1562 := ⟨by decide +kernel, rfl⟩
theorem d_L_law_1562 : gD cL_law 1562 (.ireturn) 1 1563 := ⟨by decide +kernel, rfl⟩
theorem d_L_law_1563 : gD cL_law 1563 (.aload_n 1) 1 1564 := ⟨by decide +kernel, rfl⟩
theorem d_L_law_1564 : gD cL_law 1564 (.aload_n 0) 1 1565 := ⟨by decide +kernel, rfl⟩
theorem d_L_law_1565 : gD cL_law 1565 (.iload_n 3) 1 1566 := ⟨by decide +kernel, rfl⟩
theorem d_L_law_1566 : gD cL_law 1566 (.iconst 1) 1 1567 := ⟨by decide +kernel, rfl⟩
theorem d_L_law_1567 : gD cL_law 1567 (.iadd) 1 1568 := ⟨by decide +kernel, rfl⟩
theorem d_L_law_1568 : gD cL_law 1568 (.iaload) 1 1569 := ⟨by decide +kernel, rfl⟩
theorem d_L_law_1569 : gD cL_law 1569 (.aload_n 0) 1 1570 := ⟨by decide +kernel, rfl⟩
theorem d_L_law_1570 : gD cL_law 1570 (.iload_n 3) 1 1571 := ⟨by decide +kernel, rfl⟩
theorem d_L_law_1571 : gD cL_law 1571 (.iconst 2) 1 1572 := ⟨by decide +kernel, rfl⟩
theorem d_L_law_1572 : gD cL_law 1572 (.iadd) 1 1573 := ⟨by decide +kernel, rfl⟩
theorem d_L_law_1573 : gD cL_law 1573 (.iaload) 1 1574 := ⟨by decide +kernel, rfl⟩
theorem d_L_law_1574 : gD cL_law 1574 (.invokevirtual 137) 3 1577 := ⟨by decide +kernel, rfl⟩
theorem d_L_law_1577 : gD cL_law 1577 (.aload_n 2) 1 1578 := ⟨by decide +kernel, rfl⟩
theorem d_L_law_1578 : gD cL_law 1578 (.aload_n 0) 1 1579 := ⟨by decide +kernel, rfl⟩
theorem d_L_law_1579 : gD cL_law 1579 (.iload_n 3) 1 1580 := ⟨by decide +kernel, rfl⟩
theorem d_L_law_1580 : gD cL_law 1580 (.iconst 1) 1 1581 := ⟨by decide +kernel, rfl⟩
theorem d_L_law_1581 : gD cL_law 1581 (.iadd) 1 1582 := ⟨by decide +kernel, rfl⟩
theorem d_L_law_1582 : gD cL_law 1582 (.iaload) 1 1583 := ⟨by decide +kernel, rfl⟩
theorem d_L_law_1583 : gD cL_law 1583 (.aload_n 0) 1 1584 := ⟨by decide +kernel, rfl⟩
theorem d_L_law_1584 : gD cL_law 1584 (.iload_n 3) 1 1585 := ⟨by decide +kernel, rfl⟩
theorem d_L_law_1585 : gD cL_law 1585 (.iconst 2) 1 1586 := ⟨by decide +kernel, rfl⟩
theorem d_L_law_1586 : gD cL_law 1586 (.iadd) 1 1587 := ⟨by decide +kernel, rfl⟩
theorem d_L_law_1587 : gD cL_law 1587 (.iaload) 1 1588 := ⟨by decide +kernel, rfl⟩
theorem d_L_law_1588 : gD cL_law 1588 (.invokevirtual 140) 3 1591 := ⟨by decide +kernel, rfl⟩
theorem d_L_law_1591 : gD cL_law 1591 (.if_icmp .eq 223) 3 1594 ∧ ((1591 : Nat) : Int) + 223 = ((1814 : Nat) : Int) := ⟨⟨by decide +kernel, rfl⟩, by decide⟩
theorem d_L_law_1594 : gD cL_law 1594 (.iconst 0) 1 1595 := ⟨by decide +kernel, rfl⟩
theorem d_L_law_1595 : gD cL_law 1595 (.ireturn) 1 1596 := ⟨by decide +kernel, rfl⟩
theorem d_L_law_1596 : gD cL_law 1596 (.aload_n 1) 1 1597 := ⟨by decide +kernel, rfl⟩
theorem d_L_law_1597 : gD cL_law 1597 (.aload_n 0) 1 1598 := ⟨by decide +kernel, rfl⟩
theorem d_L_law_1598 : gD cL_law 1598 (.iload_n 3) 1 1599 := ⟨by decide +kernel, rfl⟩
theorem d_L_law_1599 : gD cL_law 1599 (.iconst 1) 1 1600 := ⟨by decide +kernel, rfl⟩
theorem d_L_law_1600 : gD cL_law 1600 (.iadd) 1 1601 := ⟨by decide +kernel, rfl⟩
theorem d_L_law_1601 : gD cL_law 1601 (.iaload) 1 1602 := ⟨by decide +kernel, rfl⟩
theorem d_L_law_1602 : gD cL_law 1602 (.aload_n 0) 1 1603 := ⟨by decide +kernel, rfl⟩
theorem d_L_law_1603 : gD cL_law 1603 (.iload_n 3) 1 1604 := ⟨by decide +kernel, rfl⟩
theorem d_L_law_1604 : gD cL_law 1604 (.iconst 2) 1 1605 := ⟨by decide +kernel, rfl⟩
theorem d_L_law_1605 : gD cL_law 1605 (.iadd) 1 1606 := ⟨by decide +kernel, rfl⟩
theorem d_L_law_1606 : gD cL_law 1606 (.iaload) 1 1607 := ⟨by decide +kernel, rfl⟩
theorem d_L_law_1607 : gD cL_law 1607 (.aload_n 0) 1 1608 := ⟨by decide +kernel, rfl⟩
theorem d_L_law_1608 : gD cL_law 1608 (.iload_n 3) 1 1609 := ⟨by decide +kernel, rfl⟩
theorem d_L_law_1609 : gD cL_law 1609 (.iconst 3) 1 1610 := ⟨by decide +kernel, rfl⟩
theorem d_L_law_1610 : gD cL_law 1610 (.iadd) 1 1611 := ⟨by decide +kernel, rfl⟩
theorem d_L_law_1611 : gD cL_law 1611 (.iaload) 1 1612 := ⟨by decide +kernel, rfl⟩
theorem d_L_law_1612 : gD cL_law 1612 (.aload_n 0) 1 1613 := ⟨by decide +kernel, rfl⟩
theorem d_L_law_1613 : gD cL_law 1613 (.iload_n 3) 1 1614 := ⟨by decide +kernel, rfl⟩
theorem d_L_law_1614 : gD cL_law 1614 (.iconst 4) 1 1615 := ⟨by decide +kernel, rfl⟩
theorem d_L_law_1615 : gD cL_law 1615 (.iadd) 1 1616 := ⟨by decide +kernel, rfl⟩
theorem d_L_law_1616 : gD cL_law 1616 (.iaload) 1 1617 := ⟨by decide +kernel, rfl⟩
theorem d_L_law_1617 : gD cL_law 1617 (.invokevirtual 141) 3 1620 := ⟨by decide +kernel, rfl⟩
theorem d_L_law_1620 : gD cL_law 1620 (.aload_n 2) 1 1621 := ⟨by decide +kernel, rfl⟩
theorem d_L_law_1621 : gD cL_law 1621 (.aload_n 0) 1 1622 := ⟨by decide +kernel, rfl⟩
theorem d_L_law_1622 : gD cL_law 1622 (.iload_n 3) 1 1623 := ⟨by decide +kernel, rfl⟩
theorem d_L_law_1623 : gD cL_law 1623 (.iconst 1) 1 1624 := ⟨by decide +kernel, rfl⟩
theorem d_L_law_1624 : gD cL_law 1624 (.iadd) 1 1625 := ⟨by decide +kernel, rfl⟩
theorem d_L_law_1625 : gD cL_law 1625 (.iaload) 1 1626 := ⟨by decide +kernel, rfl⟩
theorem d_L_law_1626 : gD cL_law 1626 (.aload_n 0) 1 1627 := ⟨by decide +kernel, rfl⟩
theorem d_L_law_1627 : gD cL_law 1627 (.iload_n 3) 1 1628 := ⟨by decide +kernel, rfl⟩
theorem d_L_law_1628 : gD cL_law 1628 (.iconst 2) 1 1629 := ⟨by decide +kernel, rfl⟩
theorem d_L_law_1629 : gD cL_law 1629 (.iadd) 1 1630 := ⟨by decide +kernel, rfl⟩
theorem d_L_law_1630 : gD cL_law 1630 (.iaload) 1 1631 := ⟨by decide +kernel, rfl⟩
theorem d_L_law_1631 : gD cL_law 1631 (.aload_n 0) 1 1632 := ⟨by decide +kernel, rfl⟩
theorem d_L_law_1632 : gD cL_law 1632 (.iload_n 3) 1 1633 := ⟨by decide +kernel, rfl⟩
theorem d_L_law_1633 : gD cL_law 1633 (.iconst 3) 1 1634 := ⟨by decide +kernel, rfl⟩
theorem d_L_law_1634 : gD cL_law 1634 (.iadd) 1 1635 := ⟨by decide +kernel, rfl⟩
theorem d_L_law_1635 : gD cL_law 1635 (.iaload) 1 1636 := ⟨by decide +kernel, rfl⟩
theorem d_L_law_1636 : gD cL_law 1636 (.aload_n 0) 1 1637 := ⟨by decide +kernel, rfl⟩
theorem d_L_law_1637 : gD cL_law 1637 (.iload_n 3) 1 1638 := ⟨by decide +kernel, rfl⟩
theorem d_L_law_1638 : gD cL_law 1638 (.iconst 4) 1 1639 := ⟨by decide +kernel, rfl⟩
theorem d_L_law_1639 : gD cL_law 1639 (.iadd) 1 1640 := ⟨by decide +kernel, rfl⟩
theorem d_L_law_1640 : gD cL_law 1640 (.iaload) 1 1641 := ⟨by decide +kernel, rfl⟩
theorem d_L_law_1641 : gD cL_law 1641 (.invokevirtual 144) 3 1644 := ⟨by decide +kernel, rfl⟩
theorem d_L_law_1644 : gD cL_law 1644 (.if_icmp .eq 170) 3 1647 ∧ ((1644 : Nat) : Int) + 170 = ((1814 : Nat) : Int) := ⟨⟨by decide +kernel, rfl⟩, by decide⟩
theorem d_L_law_1647 : gD cL_law 1647 (.iconst 0) 1 1648 := ⟨by decide +kernel, rfl⟩
theorem d_L_law_1648 : gD cL_law 1648 (.ireturn) 1 1649 := ⟨by decide +kernel, rfl⟩
theorem d_L_law_1649 : gD cL_law 1649 (.aload_n 1) 1 1650 := ⟨by decide +kernel, rfl⟩
theorem d_L_law_1650 : gD cL_law 1650 (.aload_n 0) 1 1651 := ⟨by decide +kernel, rfl⟩
theorem d_L_law_1651 : gD cL_law 1651 (.iload_n 3) 1 1652 := ⟨by decide +kernel, rfl⟩
theorem d_L_law_1652 : gD cL_law 1652 (.iconst 1) 1 1653 := ⟨by decide +kernel, rfl⟩
theorem d_L_law_1653 : gD cL_law 1653 (.iadd) 1 1654 := ⟨by decide +kernel, rfl⟩
theorem d_L_law_1654 : gD cL_law 1654 (.iaload) 1 1655 := ⟨by decide +kernel, rfl⟩
theorem d_L_law_1655 : gD cL_law 1655 (.aload_n 0) 1 1656 := ⟨by decide +kernel, rfl⟩
theorem d_L_law_1656 : gD cL_law 1656 (.iload_n 3) 1 1657 := ⟨by decide +kernel, rfl⟩
theorem d_L_law_1657 : gD cL_law 1657 (.iconst 2) 1 1658 := ⟨by decide +kernel, rfl⟩
theorem d_L_law_1658 : gD cL_law 1658 (.iadd) 1 1659 := ⟨by decide +kernel, rfl⟩
theorem d_L_law_1659 : gD cL_law 1659 (.iaload) 1 1660 := ⟨by decide +kernel, rfl⟩
theorem d_L_law_1660 : gD cL_law 1660 (.aload_n 0) 1 1661 := ⟨by decide +kernel, rfl⟩
theorem d_L_law_1661 : gD cL_law 1661 (.iload_n 3) 1 1662 := ⟨by decide +kernel, rfl⟩
theorem d_L_law_1662 : gD cL_law 1662 (.iconst 3) 1 1663 := ⟨by decide +kernel, rfl⟩
theorem d_L_law_1663 : gD cL_law 1663 (.iadd) 1 1664 := ⟨by decide +kernel, rfl⟩
theorem d_L_law_1664 : gD cL_law 1664 (.iaload) 1 1665 := ⟨by decide +kernel, rfl⟩
theorem d_L_law_1665 : gD cL_law 1665 (.aload_n 0) 1 1666 := ⟨by decide +kernel, rfl⟩
theorem d_L_law_1666 : gD cL_law 1666 (.iload_n 3) 1 1667 := ⟨by decide +kernel, rfl⟩
theorem d_L_law_1667 : gD cL_law 1667 (.iconst 4) 1 1668 := ⟨by decide +kernel, rfl⟩
theorem d_L_law_1668 : gD cL_law 1668 (.iadd) 1 1669 := ⟨by decide +kernel, rfl⟩
theorem d_L_law_1669 : gD cL_law 1669 (.iaload) 1 1670 := ⟨by decide +kernel, rfl⟩
theorem d_L_law_1670 : gD cL_law 1670 (.invokevirtual 145) 3 1673 := ⟨by decide +kernel, rfl⟩
theorem d_L_law_1673 : gD cL_law 1673 (.aload_n 2) 1 1674 := ⟨by decide +kernel, rfl⟩
theorem d_L_law_1674 : gD cL_law 1674 (.aload_n 0) 1 1675 := ⟨by decide +kernel, rfl⟩
theorem d_L_law_1675 : gD cL_law 1675 (.iload_n 3) 1 1676 := ⟨by decide +kernel, rfl⟩
theorem d_L_law_1676 : gD cL_law 1676 (.iconst 1) 1 1677 := ⟨by decide +kernel, rfl⟩
theorem d_L_law_1677 : gD cL_law 1677 (.iadd) 1 1678 := ⟨by decide +kernel, rfl⟩
theorem d_L_law_1678 : gD cL_law 1678 (.iaload) 1 1679 := ⟨by decide +kernel, rfl⟩
theorem d_L_law_1679 : gD cL_law 1679 (.aload_n 0) 1 1680 := ⟨by decide +kernel, rfl⟩
theorem d_L_law_1680 : gD cL_law 1680 (.iload_n 3) 1 1681 := ⟨by decide +kernel, rfl⟩
theorem d_L_law_1681 : gD cL_law 1681 (.iconst 2) 1 1682 := ⟨by decide +kernel, rfl⟩
theorem d_L_law_1682 : gD cL_law 1682 (.iadd) 1 1683 := ⟨by decide +kernel, rfl⟩
theorem d_L_law_1683 : gD cL_law 1683 (.iaload) 1 1684 := ⟨by decide +kernel, rfl⟩
theorem d_L_law_1684 : gD cL_law 1684 (.aload_n 0) 1 1685 := ⟨by decide +kernel, rfl⟩
theorem d_L_law_1685 : gD cL_law 1685 (.iload_n 3) 1 1686 := ⟨by decide +kernel, rfl⟩
theorem d_L_law_1686 : gD cL_law 1686 (.iconst 3) 1 1687 := ⟨by decide +kernel, rfl⟩
theorem d_L_law_1687 : gD cL_law 1687 (.iadd) 1 1688 := ⟨by decide +kernel, rfl⟩
theorem d_L_law_1688 : gD cL_law 1688 (.iaload) 1 1689 := ⟨by decide +kernel, rfl⟩
theorem d_L_law_1689 : gD cL_law 1689 (.aload_n 0) 1 1690 := ⟨by decide +kernel, rfl⟩
theorem d_L_law_1690 : gD cL_law 1690 (.iload_n 3) 1 1691 := ⟨by decide +kernel, rfl⟩
theorem d_L_law_1691 : gD cL_law 1691 (.iconst 4) 1 1692 := ⟨by decide +kernel, rfl⟩
theorem d_L_law_1692 : gD cL_law 1692 (.iadd) 1 1693 := ⟨by decide +kernel, rfl⟩
theorem d_L_law_1693 : gD cL_law 1693 (.iaload) 1 1694 := ⟨by decide +kernel, rfl⟩
theorem d_L_law_1694 : gD cL_law 1694 (.invokevirtual 148) 3 1697 := ⟨by decide +kernel, rfl⟩
theorem d_L_law_1697 : gD cL_law 1697 (.if_icmp .eq 117) 3 1700 ∧ ((1697 : Nat) : Int) + 117 = ((1814 : Nat) : Int) := ⟨⟨by decide +kernel, rfl⟩, by decide⟩
theorem d_L_law_1700 : gD cL_law 1700 (.iconst 0) 1 1701 := ⟨by decide +kernel, rfl⟩
theorem d_L_law_1701 : gD cL_law 1701 (.ireturn) 1 1702 := ⟨by decide +kernel, rfl⟩
theorem d_L_law_1702 : gD cL_law 1702 (.aload_n 1) 1 1703 := ⟨by decide +kernel, rfl⟩
theorem d_L_law_1703 : gD cL_law 1703 (.aload_n 0) 1 1704 := ⟨by decide +kernel, rfl⟩
theorem d_L_law_1704 : gD cL_law 1704 (.iload_n 3) 1 1705 := ⟨by decide +kernel, rfl⟩
theorem d_L_law_1705 : gD cL_law 1705 (.iconst 1) 1 1706 := ⟨by decide +kernel, rfl⟩
theorem d_L_law_1706 : gD cL_law 1706 (.iadd) 1 1707 := ⟨by decide +kernel, rfl⟩
theorem d_L_law_1707 : gD cL_law 1707 (.iaload) 1 1708 := ⟨by decide +kernel, rfl⟩
theorem d_L_law_1708 : gD cL_law 1708 (.aload_n 0) 1 1709 := ⟨by decide +kernel, rfl⟩
theorem d_L_law_1709 : gD cL_law 1709 (.iload_n 3) 1 1710 := ⟨by decide +kernel, rfl⟩
theorem d_L_law_1710 : gD cL_law 1710 (.iconst 2) 1 1711 := ⟨by decide +kernel, rfl⟩
theorem d_L_law_1711 : gD cL_law 1711 (.iadd) 1 1712 := ⟨by decide +kernel, rfl⟩
theorem d_L_law_1712 : gD cL_law 1712 (.iaload) 1 1713 := ⟨by decide +kernel, rfl⟩
theorem d_L_law_1713 : gD cL_law 1713 (.aload_n 0) 1 1714 := ⟨by decide +kernel, rfl⟩
theorem d_L_law_1714 : gD cL_law 1714 (.iload_n 3) 1 1715 := ⟨by decide +kernel, rfl⟩
theorem d_L_law_1715 : gD cL_law 1715 (.iconst 3) 1 1716 := ⟨by decide +kernel, rfl⟩
theorem d_L_law_1716 : gD cL_law 1716 (.iadd) 1 1717 := ⟨by decide +kernel, rfl⟩
theorem d_L_law_1717 : gD cL_law 1717 (.iaload) 1 1718 := ⟨by decide +kernel, rfl⟩
theorem d_L_law_1718 : gD cL_law 1718 (.invokevirtual 149) 3 1721 := ⟨by decide +kernel, rfl⟩
theorem d_L_law_1721 : gD cL_law 1721 (.aload_n 2) 1 1722 := ⟨by decide +kernel, rfl⟩
theorem d_L_law_1722 : gD cL_law 1722 (.aload_n 0) 1 1723 := ⟨by decide +kernel, rfl⟩
theorem d_L_law_1723 : gD cL_law 1723 (.iload_n 3) 1 1724 := ⟨by decide +kernel, rfl⟩
theorem d_L_law_1724 : gD cL_law 1724 (.iconst 1) 1 1725 := ⟨by decide +kernel, rfl⟩
theorem d_L_law_1725 : gD cL_law 1725 (.iadd) 1 1726 := ⟨by decide +kernel, rfl⟩
theorem d_L_law_1726 : gD cL_law 1726 (.iaload) 1 1727 := ⟨by decide +kernel, rfl⟩
theorem d_L_law_1727 : gD cL_law 1727 (.aload_n 0) 1 1728 := ⟨by decide +kernel, rfl⟩
theorem d_L_law_1728 : gD cL_law 1728 (.iload_n 3) 1 1729 := ⟨by decide +kernel, rfl⟩
theorem d_L_law_1729 : gD cL_law 1729 (.iconst 2) 1 1730 := ⟨by decide +kernel, rfl⟩
theorem d_L_law_1730 : gD cL_law 1730 (.iadd) 1 1731 := ⟨by decide +kernel, rfl⟩
theorem d_L_law_1731 : gD cL_law 1731 (.iaload) 1 1732 := ⟨by decide +kernel, rfl⟩
theorem d_L_law_1732 : gD cL_law 1732 (.aload_n 0) 1 1733 := ⟨by decide +kernel, rfl⟩
theorem d_L_law_1733 : gD cL_law 1733 (.iload_n 3) 1 1734 := ⟨by decide +kernel, rfl⟩
theorem d_L_law_1734 : gD cL_law 1734 (.iconst 3) 1 1735 := ⟨by decide +kernel, rfl⟩
theorem d_L_law_1735 : gD cL_law 1735 (.iadd) 1 1736 := ⟨by decide +kernel, rfl⟩
theorem d_L_law_1736 : gD cL_law 1736 (.iaload) 1 1737 := ⟨by decide +kernel, rfl⟩
theorem d_L_law_1737 : gD cL_law 1737 (.invokevirtual 152) 3 1740 := ⟨by decide +kernel, rfl⟩
theorem d_L_law_1740 : gD cL_law 1740 (.if_icmp .eq 74) 3 1743 ∧ ((1740 : Nat) : Int) + 74 = ((1814 : Nat) : Int) := ⟨⟨by decide +kernel, rfl⟩, by decide⟩
theorem d_L_law_1743 : gD cL_law 1743 (.iconst 0) 1 1744 := ⟨by decide +kernel, rfl⟩
theorem d_L_law_1744 : gD cL_law 1744 (.ireturn) 1 1745 := ⟨by decide +kernel, rfl⟩
theorem d_L_law_1745 : gD cL_law 1745 (.aload_n 1) 1 1746 := ⟨by decide +kernel, rfl⟩
theorem d_L_law_1746 : gD cL_law 1746 (.aload_n 0) 1 1747 := ⟨by decide +kernel, rfl⟩
theorem d_L_law_1747 : gD cL_law 1747 (.iload_n 3) 1 1748 := ⟨by decide +kernel, rfl⟩
theorem d_L_law_1748 : gD cL_law 1748 (.iconst 1) 1 1749 := ⟨by decide +kernel, rfl⟩
theorem d_L_law_1749 : gD cL_law 1749 (.iadd) 1 1750 := ⟨by decide +kernel, rfl⟩
theorem d_L_law_1750 : gD cL_law 1750 (.iaload) 1 1751 := ⟨by decide +kernel, rfl⟩
theorem d_L_law_1751 : gD cL_law 1751 (.invokevirtual 153) 3 1754 := ⟨by decide +kernel, rfl⟩
theorem d_L_law_1754 : gD cL_law 1754 (.aload_n 2) 1 1755 := ⟨by decide +kernel, rfl⟩
theorem d_L_law_1755 : gD cL_law 1755 (.aload_n 0) 1 1756 := ⟨by decide +kernel, rfl⟩
theorem d_L_law_1756 : gD cL_law 1756 (.iload_n 3) 1 1757 := ⟨by decide +kernel, rfl⟩
theorem d_L_law_1757 : gD cL_law 1757 (.iconst 1) 1 1758 := ⟨by decide +kernel, rfl⟩
theorem d_L_law_1758 : gD cL_law 1758 (.iadd) 1 1759 := ⟨by decide +kernel, rfl⟩
theorem d_L_law_1759 : gD cL_law 1759 (.iaload) 1 1760 := ⟨by decide +kernel, rfl⟩
theorem d_L_law_1760 : gD cL_law 1760 (.invokevirtual 156) 3 1763 := ⟨by decide +kernel, rfl⟩
theorem d_L_law_1763 : gD cL_law 1763 (.if_icmp .eq 51) 3 1766 ∧ ((1763 : Nat) : Int) + 51 = ((1814 : Nat) : Int) := ⟨⟨by decide +kernel, rfl⟩, by decide⟩
theorem d_L_law_1766 : gD cL_law 1766 (.iconst 0) 1 1767 := ⟨by decide +kernel, rfl⟩
theorem d_L_law_1767 : gD cL_law 1767 (.ireturn) 1 1768 := ⟨by decide +kernel, rfl⟩
theorem d_L_law_1768 : gD cL_law 1768 (.aload_n 1) 1 1769 := ⟨by decide +kernel, rfl⟩
theorem d_L_law_1769 : gD cL_law 1769 (.aload_n 0) 1 1770 := ⟨by decide +kernel, rfl⟩
theorem d_L_law_1770 : gD cL_law 1770 (.iload_n 3) 1 1771 := ⟨by decide +kernel, rfl⟩
theorem d_L_law_1771 : gD cL_law 1771 (.iconst 1) 1 1772 := ⟨by decide +kernel, rfl⟩
theorem d_L_law_1772 : gD cL_law 1772 (.iadd) 1 1773 := ⟨by decide +kernel, rfl⟩
theorem d_L_law_1773 : gD cL_law 1773 (.iaload) 1 1774 := ⟨by decide +kernel, rfl⟩
theorem d_L_law_1774 : gD cL_law 1774 (.invokevirtual 157) 3 1777 := ⟨by decide +kernel, rfl⟩
theorem d_L_law_1777 : gD cL_law 1777 (.aload_n 2) 1 1778 := ⟨by decide +kernel, rfl⟩
theorem d_L_law_1778 : gD cL_law 1778 (.aload_n 0) 1 1779 := ⟨by decide +kernel, rfl⟩
theorem d_L_law_1779 : gD cL_law 1779 (.iload_n 3) 1 1780 := ⟨by decide +kernel, rfl⟩
theorem d_L_law_1780 : gD cL_law 1780 (.iconst 1) 1 1781 := ⟨by decide +kernel, rfl⟩
theorem d_L_law_1781 : gD cL_law 1781 (.iadd) 1 1782 := ⟨by decide +kernel, rfl⟩
theorem d_L_law_1782 : gD cL_law 1782 (.iaload) 1 1783 := ⟨by decide +kernel, rfl⟩
theorem d_L_law_1783 : gD cL_law 1783 (.invokevirtual 161) 3 1786 := ⟨by decide +kernel, rfl⟩
theorem d_L_law_1786 : gD cL_law 1786 (.if_icmp .eq 28) 3 1789 ∧ ((1786 : Nat) : Int) + 28 = ((1814 : Nat) : Int) := ⟨⟨by decide +kernel, rfl⟩, by decide⟩
theorem d_L_law_1789 : gD cL_law 1789 (.iconst 0) 1 1790 := ⟨by decide +kernel, rfl⟩
theorem d_L_law_1790 : gD cL_law 1790 (.ireturn) 1 1791 := ⟨by decide +kernel, rfl⟩
theorem d_L_law_1791 : gD cL_law 1791 (.aload_n 1) 1 1792 := ⟨by decide +kernel, rfl⟩
theorem d_L_law_1792 : gD cL_law 1792 (.aload_n 0) 1 1793 := ⟨by decide +kernel, rfl⟩
theorem d_L_law_1793 : gD cL_law 1793 (.iload_n 3) 1 1794 := ⟨by decide +kernel, rfl⟩
theorem d_L_law_1794 : gD cL_law 1794 (.iconst 1) 1 1795 := ⟨by decide +kernel, rfl⟩
theorem d_L_law_1795 : gD cL_law 1795 (.iadd) 1 1796 := ⟨by decide +kernel, rfl⟩
theorem d_L_law_1796 : gD cL_law 1796 (.iaload) 1 1797 := ⟨by decide +kernel, rfl⟩
theorem d_L_law_1797 : gD cL_law 1797 (.invokevirtual 162) 3 1800 := ⟨by decide +kernel, rfl⟩
theorem d_L_law_1800 : gD cL_law 1800 (.aload_n 2) 1 1801 := ⟨by decide +kernel, rfl⟩
theorem d_L_law_1801 : gD cL_law 1801 (.aload_n 0) 1 1802 := ⟨by decide +kernel, rfl⟩
theorem d_L_law_1802 : gD cL_law 1802 (.iload_n 3) 1 1803 := ⟨by decide +kernel, rfl⟩
theorem d_L_law_1803 : gD cL_law 1803 (.iconst 1) 1 1804 := ⟨by decide +kernel, rfl⟩
theorem d_L_law_1804 : gD cL_law 1804 (.iadd) 1 1805 := ⟨by decide +kernel, rfl⟩
theorem d_L_law_1805 : gD cL_law 1805 (.iaload) 1 1806 := ⟨by decide +kernel, rfl⟩
theorem d_L_law_1806 : gD cL_law 1806 (.invokevirtual 165) 3 1809 := ⟨by decide +kernel, rfl⟩
theorem d_L_law_1809 : gD cL_law 1809 (.if_icmp .eq 5) 3 1812 ∧ ((1809 : Nat) : Int) + 5 = ((1814 : Nat) : Int) := ⟨⟨by decide +kernel, rfl⟩, by decide⟩
theorem d_L_law_1812 : gD cL_law 1812 (.iconst 0) 1 1813 := ⟨by decide +kernel, rfl⟩
theorem d_L_law_1813 : gD cL_law 1813 (.ireturn) 1 1814 := ⟨by decide +kernel, rfl⟩
theorem d_L_law_1814 : gD cL_law 1814 (.iinc 3 6) 3 1817 := ⟨by decide +kernel, rfl⟩
theorem d_L_law_1817 : decode cL_law 1817 = .ok (.goto (-1799), 3) ∧ ((1817 : Nat) : Int) + (-1799) = ((18 : Nat) : Int) := ⟨by decide +kernel, by decide⟩
theorem d_L_law_1820 : gD cL_law 1820 (.iconst 1) 1 1821 := ⟨by decide +kernel, rfl⟩
theorem d_L_law_1821 : gD cL_law 1821 (.ireturn) 1 1822 := ⟨by decide +kernel, rfl⟩
set_option maxRecDepth 20000 in
theorem w_L_law_1814 {Γ : GC} {E : GE} {nm : String} (hO : gOk Γ E code RL 4 room_1 ret nm) (L : Nat) (xs : Nat → Int32) (hX : gX Γ E L xs) {k18 : (Option Nat → Option Nat → Int32 → GS → Option Unit)} (hk18 : ∀ (z1 : Option Nat) (z2 : Option Nat) (z3 : Int32) (S1 : GS), Go Γ E (gBL Γ) 4 (343, 19442) 18 S1 [(0, vA (some 400000)), (1, vA z1), (2, vA z2), (3, vI z3)] [] (k18 z1 z2 z3 S1)) (x1 : Option Nat) (x2 : Option Nat) (x3 : Int32) (S : GS) : Go Γ E (gBL Γ) 4 (343, 19442) 1814 S [(0, vA (some 400000)), (1, vA x1), (2, vA x2), (3, vI x3)] [] (f_L_law_1814 k18 L xs x1 x2 x3 S) := by
  unfold f_L_law_1814
  refine g_iinc (lv' := [(3, vI (x3 + 6)), (0, vA (some 400000)), (1, vA x1), (2, vA x2)]) hO 6 d_L_law_1814 (by decide) 3 rfl (by decide) rfl ?_
  refine g_goto (tgt := 18) hO d_L_law_1817.1 d_L_law_1817.2 ?_
  exact g_sub [1, 2, 3, 0] rfl (hk18 _ _ _ _)
set_option maxRecDepth 20000 in
theorem w_L_law_793 {Γ : GC} {E : GE} {nm : String} (hO : gOk Γ E code RL 4 room_1 ret nm) (L : Nat) (xs : Nat → Int32) (hX : gX Γ E L xs) {k18 : (Option Nat → Option Nat → Int32 → GS → Option Unit)} (hk18 : ∀ (z1 : Option Nat) (z2 : Option Nat) (z3 : Int32) (S1 : GS), Go Γ E (gBL Γ) 4 (343, 19442) 18 S1 [(0, vA (some 400000)), (1, vA z1), (2, vA z2), (3, vI z3)] [] (k18 z1 z2 z3 S1)) (x1 : Option Nat) (x2 : Option Nat) (x3 : Int32) (y0 : Int32) (y1 : Option Nat) (y2 : Int32) (y3 : Int32) (y4 : Int32) (y5 : Int32) (S : GS) : Go Γ E (gBL Γ) 4 (343, 19442) 793 S [(0, vA (some 400000)), (1, vA x1), (2, vA x2), (3, vI x3)] [vI y5, vI y4, vI y3, vI y2, vA y1, vI y0] (f_L_law_793 k18 L xs x1 x2 x3 y0 y1 y2 y3 y4 y5 S) := by
  unfold f_L_law_793
  refine g_aload_n hO d_L_law_793 (by rfl) 0 rfl ?_
  refine g_iload_n hO d_L_law_794 (by rfl) 3 rfl ?_
  refine g_iconst hO 5 d_L_law_795 (by decide) ?_
  refine g_iadd hO d_L_law_796 ?_
  refine h_sx hO hX d_L_law_797 (fun v1 => ?_)
  refine k_virtIs hO cl_X12 mm_X12_laced lkV_L_74 ⟨⟨Nat.le_of_ble_eq_true rfl, Nat.le_of_ble_eq_true rfl⟩, Nat.le_of_ble_eq_true rfl, Nat.le_of_ble_eq_true rfl⟩ (kn' := (343, 19442)) rfl (As := [vI y2, vI y3, vI y4, vI y5, vI v1]) rfl (Nat.le_of_ble_eq_true rfl) (fun o' _ => t_X12_laced Γ.2.1 E o' y2 y3 y4 y5 v1 S) d_L_law_798 rfl (fun v2 S3 => ?_)
  refine g_ic_eq (tgt := 1814) hO d_L_law_801.1 d_L_law_801.2 (fun _ => ?_) (fun _ => ?_)
  · skip
    exact g_sub [0, 1, 2, 3] rfl (w_L_law_1814 hO L xs hX hk18 _ _ _ _)
  · skip
    refine g_iconst hO 0 d_L_law_804 (by decide) ?_
    exact g_none
set_option maxRecDepth 20000 in
theorem w_L_law_756 {Γ : GC} {E : GE} {nm : String} (hO : gOk Γ E code RL 4 room_1 ret nm) (L : Nat) (xs : Nat → Int32) (hX : gX Γ E L xs) {k18 : (Option Nat → Option Nat → Int32 → GS → Option Unit)} (hk18 : ∀ (z1 : Option Nat) (z2 : Option Nat) (z3 : Int32) (S1 : GS), Go Γ E (gBL Γ) 4 (343, 19442) 18 S1 [(0, vA (some 400000)), (1, vA z1), (2, vA z2), (3, vI z3)] [] (k18 z1 z2 z3 S1)) (x1 : Option Nat) (x2 : Option Nat) (x3 : Int32) (y0 : Option Nat) (y1 : Int32) (y2 : Int32) (y3 : Int32) (y4 : Int32) (S : GS) : Go Γ E (gBL Γ) 4 (343, 19442) 756 S [(0, vA (some 400000)), (1, vA x1), (2, vA x2), (3, vI x3)] [vI y4, vI y3, vI y2, vI y1, vA y0] (f_L_law_756 k18 L xs x1 x2 x3 y0 y1 y2 y3 y4 S) := by
  unfold f_L_law_756
  refine g_aload_n hO d_L_law_756 (by rfl) 0 rfl ?_
  refine g_iload_n hO d_L_law_757 (by rfl) 3 rfl ?_
  refine g_iconst hO 5 d_L_law_758 (by decide) ?_
  refine g_iadd hO d_L_law_759 ?_
  refine h_sx hO hX d_L_law_760 (fun v1 => ?_)
  refine k_virtIs hO cl_X11 mm_X11_laced lkV_L_70 ⟨⟨Nat.le_of_ble_eq_true rfl, Nat.le_of_ble_eq_true rfl⟩, Nat.le_of_ble_eq_true rfl, Nat.le_of_ble_eq_true rfl⟩ (kn' := (343, 19442)) rfl (As := [vI y1, vI y2, vI y3, vI y4, vI v1]) rfl (Nat.le_of_ble_eq_true rfl) (fun o' _ => t_X11_laced Γ.2.1 E o' y1 y2 y3 y4 v1 S) d_L_law_761 rfl (fun v2 S3 => ?_)
  refine g_aload_n hO d_L_law_764 (by rfl) 2 rfl ?_
  refine g_aload_n hO d_L_law_765 (by rfl) 0 rfl ?_
  refine g_iload_n hO d_L_law_766 (by rfl) 3 rfl ?_
  refine g_iconst hO 1 d_L_law_767 (by decide) ?_
  refine g_iadd hO d_L_law_768 ?_
  refine h_sx hO hX d_L_law_769 (fun v4 => ?_)
  refine g_aload_n hO d_L_law_770 (by rfl) 0 rfl ?_
  refine g_iload_n hO d_L_law_771 (by rfl) 3 rfl ?_
  refine g_iconst hO 2 d_L_law_772 (by decide) ?_
  refine g_iadd hO d_L_law_773 ?_
  refine h_sx hO hX d_L_law_774 (fun v5 => ?_)
  refine g_aload_n hO d_L_law_775 (by rfl) 0 rfl ?_
  refine g_iload_n hO d_L_law_776 (by rfl) 3 rfl ?_
  refine g_iconst hO 3 d_L_law_777 (by decide) ?_
  refine g_iadd hO d_L_law_778 ?_
  refine h_sx hO hX d_L_law_779 (fun v6 => ?_)
  refine g_aload_n hO d_L_law_780 (by rfl) 0 rfl ?_
  refine g_iload_n hO d_L_law_781 (by rfl) 3 rfl ?_
  refine g_iconst hO 4 d_L_law_782 (by decide) ?_
  refine g_iadd hO d_L_law_783 ?_
  refine h_sx hO hX d_L_law_784 (fun v7 => ?_)
  refine g_if_eq (tgt := 792) hO d_L_law_785.1 d_L_law_785.2 (fun _ => ?_) (fun _ => ?_)
  · skip
    refine g_iconst hO 0 d_L_law_792 (by decide) ?_
    exact g_sub [0, 1, 2, 3] rfl (w_L_law_793 hO L xs hX hk18 _ _ _ _ _ _ _ _ _ _)
  · skip
    refine g_iconst hO 1 d_L_law_788 (by decide) ?_
    refine g_goto (tgt := 793) hO d_L_law_789.1 d_L_law_789.2 ?_
    exact g_sub [0, 1, 2, 3] rfl (w_L_law_793 hO L xs hX hk18 _ _ _ _ _ _ _ _ _ _)
set_option maxRecDepth 20000 in
theorem w_L_law_893 {Γ : GC} {E : GE} {nm : String} (hO : gOk Γ E code RL 4 room_1 ret nm) (L : Nat) (xs : Nat → Int32) (hX : gX Γ E L xs) {k18 : (Option Nat → Option Nat → Int32 → GS → Option Unit)} (hk18 : ∀ (z1 : Option Nat) (z2 : Option Nat) (z3 : Int32) (S1 : GS), Go Γ E (gBL Γ) 4 (343, 19442) 18 S1 [(0, vA (some 400000)), (1, vA z1), (2, vA z2), (3, vI z3)] [] (k18 z1 z2 z3 S1)) (x1 : Option Nat) (x2 : Option Nat) (x3 : Int32) (y0 : Int32) (y1 : Option Nat) (y2 : Int32) (y3 : Int32) (y4 : Int32) (y5 : Int32) (y6 : Int32) (S : GS) : Go Γ E (gBL Γ) 4 (343, 19442) 893 S [(0, vA (some 400000)), (1, vA x1), (2, vA x2), (3, vI x3)] [vI y6, vI y5, vI y4, vI y3, vI y2, vA y1, vI y0] (f_L_law_893 k18 L xs x1 x2 x3 y0 y1 y2 y3 y4 y5 y6 S) := by
  unfold f_L_law_893
  refine k_virtIs hO cl_X12 mm_X12_least lkV_L_79 ⟨⟨Nat.le_of_ble_eq_true rfl, Nat.le_of_ble_eq_true rfl⟩, Nat.le_of_ble_eq_true rfl, Nat.le_of_ble_eq_true rfl⟩ (kn' := (343, 19442)) rfl (As := [vI y2, vI y3, vI y4, vI y5, vI y6]) rfl (Nat.le_of_ble_eq_true rfl) (fun o' _ => t_X12_least Γ.2.1 E o' y2 y3 y4 y5 y6 S) d_L_law_893 rfl (fun v1 S2 => ?_)
  refine g_ic_eq (tgt := 1814) hO d_L_law_896.1 d_L_law_896.2 (fun _ => ?_) (fun _ => ?_)
  · skip
    exact g_sub [0, 1, 2, 3] rfl (w_L_law_1814 hO L xs hX hk18 _ _ _ _)
  · skip
    refine g_iconst hO 0 d_L_law_899 (by decide) ?_
    exact g_none
set_option maxRecDepth 20000 in
theorem w_L_law_880 {Γ : GC} {E : GE} {nm : String} (hO : gOk Γ E code RL 4 room_1 ret nm) (L : Nat) (xs : Nat → Int32) (hX : gX Γ E L xs) {k18 : (Option Nat → Option Nat → Int32 → GS → Option Unit)} (hk18 : ∀ (z1 : Option Nat) (z2 : Option Nat) (z3 : Int32) (S1 : GS), Go Γ E (gBL Γ) 4 (343, 19442) 18 S1 [(0, vA (some 400000)), (1, vA z1), (2, vA z2), (3, vI z3)] [] (k18 z1 z2 z3 S1)) (x1 : Option Nat) (x2 : Option Nat) (x3 : Int32) (y0 : Int32) (y1 : Option Nat) (y2 : Int32) (y3 : Int32) (y4 : Int32) (y5 : Int32) (S : GS) : Go Γ E (gBL Γ) 4 (343, 19442) 880 S [(0, vA (some 400000)), (1, vA x1), (2, vA x2), (3, vI x3)] [vI y5, vI y4, vI y3, vI y2, vA y1, vI y0] (f_L_law_880 k18 L xs x1 x2 x3 y0 y1 y2 y3 y4 y5 S) := by
  unfold f_L_law_880
  refine g_aload_n hO d_L_law_880 (by rfl) 0 rfl ?_
  refine g_iload_n hO d_L_law_881 (by rfl) 3 rfl ?_
  refine g_iconst hO 5 d_L_law_882 (by decide) ?_
  refine g_iadd hO d_L_law_883 ?_
  refine h_sx hO hX d_L_law_884 (fun v1 => ?_)
  refine g_if_eq (tgt := 892) hO d_L_law_885.1 d_L_law_885.2 (fun _ => ?_) (fun _ => ?_)
  · skip
    refine g_iconst hO 0 d_L_law_892 (by decide) ?_
    exact g_sub [0, 1, 2, 3] rfl (w_L_law_893 hO L xs hX hk18 _ _ _ _ _ _ _ _ _ _ _)
  · skip
    refine g_iconst hO 1 d_L_law_888 (by decide) ?_
    refine g_goto (tgt := 893) hO d_L_law_889.1 d_L_law_889.2 ?_
    exact g_sub [0, 1, 2, 3] rfl (w_L_law_893 hO L xs hX hk18 _ _ _ _ _ _ _ _ _ _ _)
set_option maxRecDepth 20000 in
theorem w_L_law_848 {Γ : GC} {E : GE} {nm : String} (hO : gOk Γ E code RL 4 room_1 ret nm) (L : Nat) (xs : Nat → Int32) (hX : gX Γ E L xs) {k18 : (Option Nat → Option Nat → Int32 → GS → Option Unit)} (hk18 : ∀ (z1 : Option Nat) (z2 : Option Nat) (z3 : Int32) (S1 : GS), Go Γ E (gBL Γ) 4 (343, 19442) 18 S1 [(0, vA (some 400000)), (1, vA z1), (2, vA z2), (3, vI z3)] [] (k18 z1 z2 z3 S1)) (x1 : Option Nat) (x2 : Option Nat) (x3 : Int32) (y0 : Option Nat) (y1 : Int32) (y2 : Int32) (y3 : Int32) (y4 : Int32) (y5 : Int32) (S : GS) : Go Γ E (gBL Γ) 4 (343, 19442) 848 S [(0, vA (some 400000)), (1, vA x1), (2, vA x2), (3, vI x3)] [vI y5, vI y4, vI y3, vI y2, vI y1, vA y0] (f_L_law_848 k18 L xs x1 x2 x3 y0 y1 y2 y3 y4 y5 S) := by
  unfold f_L_law_848
  refine k_virtIs hO cl_X11 mm_X11_least lkV_L_75 ⟨⟨Nat.le_of_ble_eq_true rfl, Nat.le_of_ble_eq_true rfl⟩, Nat.le_of_ble_eq_true rfl, Nat.le_of_ble_eq_true rfl⟩ (kn' := (343, 19442)) rfl (As := [vI y1, vI y2, vI y3, vI y4, vI y5]) rfl (Nat.le_of_ble_eq_true rfl) (fun o' _ => t_X11_least Γ.2.1 E o' y1 y2 y3 y4 y5 S) d_L_law_848 rfl (fun v1 S2 => ?_)
  refine g_aload_n hO d_L_law_851 (by rfl) 2 rfl ?_
  refine g_aload_n hO d_L_law_852 (by rfl) 0 rfl ?_
  refine g_iload_n hO d_L_law_853 (by rfl) 3 rfl ?_
  refine g_iconst hO 1 d_L_law_854 (by decide) ?_
  refine g_iadd hO d_L_law_855 ?_
  refine h_sx hO hX d_L_law_856 (fun v3 => ?_)
  refine g_aload_n hO d_L_law_857 (by rfl) 0 rfl ?_
  refine g_iload_n hO d_L_law_858 (by rfl) 3 rfl ?_
  refine g_iconst hO 2 d_L_law_859 (by decide) ?_
  refine g_iadd hO d_L_law_860 ?_
  refine h_sx hO hX d_L_law_861 (fun v4 => ?_)
  refine g_aload_n hO d_L_law_862 (by rfl) 0 rfl ?_
  refine g_iload_n hO d_L_law_863 (by rfl) 3 rfl ?_
  refine g_iconst hO 3 d_L_law_864 (by decide) ?_
  refine g_iadd hO d_L_law_865 ?_
  refine h_sx hO hX d_L_law_866 (fun v5 => ?_)
  refine g_aload_n hO d_L_law_867 (by rfl) 0 rfl ?_
  refine g_iload_n hO d_L_law_868 (by rfl) 3 rfl ?_
  refine g_iconst hO 4 d_L_law_869 (by decide) ?_
  refine g_iadd hO d_L_law_870 ?_
  refine h_sx hO hX d_L_law_871 (fun v6 => ?_)
  refine g_if_eq (tgt := 879) hO d_L_law_872.1 d_L_law_872.2 (fun _ => ?_) (fun _ => ?_)
  · skip
    refine g_iconst hO 0 d_L_law_879 (by decide) ?_
    exact g_sub [0, 1, 2, 3] rfl (w_L_law_880 hO L xs hX hk18 _ _ _ _ _ _ _ _ _ _)
  · skip
    refine g_iconst hO 1 d_L_law_875 (by decide) ?_
    refine g_goto (tgt := 880) hO d_L_law_876.1 d_L_law_876.2 ?_
    exact g_sub [0, 1, 2, 3] rfl (w_L_law_880 hO L xs hX hk18 _ _ _ _ _ _ _ _ _ _)
set_option maxRecDepth 20000 in
theorem w_L_law_835 {Γ : GC} {E : GE} {nm : String} (hO : gOk Γ E code RL 4 room_1 ret nm) (L : Nat) (xs : Nat → Int32) (hX : gX Γ E L xs) {k18 : (Option Nat → Option Nat → Int32 → GS → Option Unit)} (hk18 : ∀ (z1 : Option Nat) (z2 : Option Nat) (z3 : Int32) (S1 : GS), Go Γ E (gBL Γ) 4 (343, 19442) 18 S1 [(0, vA (some 400000)), (1, vA z1), (2, vA z2), (3, vI z3)] [] (k18 z1 z2 z3 S1)) (x1 : Option Nat) (x2 : Option Nat) (x3 : Int32) (y0 : Option Nat) (y1 : Int32) (y2 : Int32) (y3 : Int32) (y4 : Int32) (S : GS) : Go Γ E (gBL Γ) 4 (343, 19442) 835 S [(0, vA (some 400000)), (1, vA x1), (2, vA x2), (3, vI x3)] [vI y4, vI y3, vI y2, vI y1, vA y0] (f_L_law_835 k18 L xs x1 x2 x3 y0 y1 y2 y3 y4 S) := by
  unfold f_L_law_835
  refine g_aload_n hO d_L_law_835 (by rfl) 0 rfl ?_
  refine g_iload_n hO d_L_law_836 (by rfl) 3 rfl ?_
  refine g_iconst hO 5 d_L_law_837 (by decide) ?_
  refine g_iadd hO d_L_law_838 ?_
  refine h_sx hO hX d_L_law_839 (fun v1 => ?_)
  refine g_if_eq (tgt := 847) hO d_L_law_840.1 d_L_law_840.2 (fun _ => ?_) (fun _ => ?_)
  · skip
    refine g_iconst hO 0 d_L_law_847 (by decide) ?_
    exact g_sub [0, 1, 2, 3] rfl (w_L_law_848 hO L xs hX hk18 _ _ _ _ _ _ _ _ _ _)
  · skip
    refine g_iconst hO 1 d_L_law_843 (by decide) ?_
    refine g_goto (tgt := 848) hO d_L_law_844.1 d_L_law_844.2 ?_
    exact g_sub [0, 1, 2, 3] rfl (w_L_law_848 hO L xs hX hk18 _ _ _ _ _ _ _ _ _ _)
set_option maxRecDepth 20000 in
theorem w_L_law_1021 {Γ : GC} {E : GE} {nm : String} (hO : gOk Γ E code RL 4 room_1 ret nm) (L : Nat) (xs : Nat → Int32) (hX : gX Γ E L xs) {k18 : (Option Nat → Option Nat → Int32 → GS → Option Unit)} (hk18 : ∀ (z1 : Option Nat) (z2 : Option Nat) (z3 : Int32) (S1 : GS), Go Γ E (gBL Γ) 4 (343, 19442) 18 S1 [(0, vA (some 400000)), (1, vA z1), (2, vA z2), (3, vI z3)] [] (k18 z1 z2 z3 S1)) (x1 : Option Nat) (x2 : Option Nat) (x3 : Int32) (y0 : Int64) (y1 : Option Nat) (y2 : Int32) (y3 : Int32) (y4 : Int32) (y5 : Int32) (y6 : Int32) (S : GS) : Go Γ E (gBL Γ) 4 (343, 19442) 1021 S [(0, vA (some 400000)), (1, vA x1), (2, vA x2), (3, vI x3)] [vI y6, vI y5, vI y4, vI y3, vI y2, vA y1, vJ y0] (f_L_law_1021 k18 L xs x1 x2 x3 y0 y1 y2 y3 y4 y5 y6 S) := by
  unfold f_L_law_1021
  refine k_virtJs hO cl_X12 mm_X12_reach lkV_L_88 ⟨⟨Nat.le_of_ble_eq_true rfl, Nat.le_of_ble_eq_true rfl⟩, Nat.le_of_ble_eq_true rfl, Nat.le_of_ble_eq_true rfl⟩ (kn' := (343, 19442)) rfl (As := [vI y2, vI y3, vI y4, vI y5, vI y6]) rfl (Nat.le_of_ble_eq_true rfl) (fun o' _ => t_X12_reach Γ.2.1 E o' y2 y3 y4 y5 y6 S) d_L_law_1021 rfl (fun v1 S2 => ?_)
  refine g_lcmp hO d_L_law_1024 ?_
  refine g_if_eq (tgt := 1814) hO d_L_law_1025.1 d_L_law_1025.2 (fun _ => ?_) (fun _ => ?_)
  · skip
    exact g_sub [0, 1, 2, 3] rfl (w_L_law_1814 hO L xs hX hk18 _ _ _ _)
  · skip
    refine g_iconst hO 0 d_L_law_1028 (by decide) ?_
    exact g_none
set_option maxRecDepth 20000 in
theorem w_L_law_1008 {Γ : GC} {E : GE} {nm : String} (hO : gOk Γ E code RL 4 room_1 ret nm) (L : Nat) (xs : Nat → Int32) (hX : gX Γ E L xs) {k18 : (Option Nat → Option Nat → Int32 → GS → Option Unit)} (hk18 : ∀ (z1 : Option Nat) (z2 : Option Nat) (z3 : Int32) (S1 : GS), Go Γ E (gBL Γ) 4 (343, 19442) 18 S1 [(0, vA (some 400000)), (1, vA z1), (2, vA z2), (3, vI z3)] [] (k18 z1 z2 z3 S1)) (x1 : Option Nat) (x2 : Option Nat) (x3 : Int32) (y0 : Int64) (y1 : Option Nat) (y2 : Int32) (y3 : Int32) (y4 : Int32) (y5 : Int32) (S : GS) : Go Γ E (gBL Γ) 4 (343, 19442) 1008 S [(0, vA (some 400000)), (1, vA x1), (2, vA x2), (3, vI x3)] [vI y5, vI y4, vI y3, vI y2, vA y1, vJ y0] (f_L_law_1008 k18 L xs x1 x2 x3 y0 y1 y2 y3 y4 y5 S) := by
  unfold f_L_law_1008
  refine g_aload_n hO d_L_law_1008 (by rfl) 0 rfl ?_
  refine g_iload_n hO d_L_law_1009 (by rfl) 3 rfl ?_
  refine g_iconst hO 5 d_L_law_1010 (by decide) ?_
  refine g_iadd hO d_L_law_1011 ?_
  refine h_sx hO hX d_L_law_1012 (fun v1 => ?_)
  refine g_if_eq (tgt := 1020) hO d_L_law_1013.1 d_L_law_1013.2 (fun _ => ?_) (fun _ => ?_)
  · skip
    refine g_iconst hO 0 d_L_law_1020 (by decide) ?_
    exact g_sub [0, 1, 2, 3] rfl (w_L_law_1021 hO L xs hX hk18 _ _ _ _ _ _ _ _ _ _ _)
  · skip
    refine g_iconst hO 1 d_L_law_1016 (by decide) ?_
    refine g_goto (tgt := 1021) hO d_L_law_1017.1 d_L_law_1017.2 ?_
    exact g_sub [0, 1, 2, 3] rfl (w_L_law_1021 hO L xs hX hk18 _ _ _ _ _ _ _ _ _ _ _)
set_option maxRecDepth 20000 in
theorem w_L_law_976 {Γ : GC} {E : GE} {nm : String} (hO : gOk Γ E code RL 4 room_1 ret nm) (L : Nat) (xs : Nat → Int32) (hX : gX Γ E L xs) {k18 : (Option Nat → Option Nat → Int32 → GS → Option Unit)} (hk18 : ∀ (z1 : Option Nat) (z2 : Option Nat) (z3 : Int32) (S1 : GS), Go Γ E (gBL Γ) 4 (343, 19442) 18 S1 [(0, vA (some 400000)), (1, vA z1), (2, vA z2), (3, vI z3)] [] (k18 z1 z2 z3 S1)) (x1 : Option Nat) (x2 : Option Nat) (x3 : Int32) (y0 : Option Nat) (y1 : Int32) (y2 : Int32) (y3 : Int32) (y4 : Int32) (y5 : Int32) (S : GS) : Go Γ E (gBL Γ) 4 (343, 19442) 976 S [(0, vA (some 400000)), (1, vA x1), (2, vA x2), (3, vI x3)] [vI y5, vI y4, vI y3, vI y2, vI y1, vA y0] (f_L_law_976 k18 L xs x1 x2 x3 y0 y1 y2 y3 y4 y5 S) := by
  unfold f_L_law_976
  refine k_virtJs hO cl_X11 mm_X11_reach lkV_L_84 ⟨⟨Nat.le_of_ble_eq_true rfl, Nat.le_of_ble_eq_true rfl⟩, Nat.le_of_ble_eq_true rfl, Nat.le_of_ble_eq_true rfl⟩ (kn' := (343, 19442)) rfl (As := [vI y1, vI y2, vI y3, vI y4, vI y5]) rfl (Nat.le_of_ble_eq_true rfl) (fun o' _ => t_X11_reach Γ.2.1 E o' y1 y2 y3 y4 y5 S) d_L_law_976 rfl (fun v1 S2 => ?_)
  refine g_aload_n hO d_L_law_979 (by rfl) 2 rfl ?_
  refine g_aload_n hO d_L_law_980 (by rfl) 0 rfl ?_
  refine g_iload_n hO d_L_law_981 (by rfl) 3 rfl ?_
  refine g_iconst hO 1 d_L_law_982 (by decide) ?_
  refine g_iadd hO d_L_law_983 ?_
  refine h_sx hO hX d_L_law_984 (fun v3 => ?_)
  refine g_aload_n hO d_L_law_985 (by rfl) 0 rfl ?_
  refine g_iload_n hO d_L_law_986 (by rfl) 3 rfl ?_
  refine g_iconst hO 2 d_L_law_987 (by decide) ?_
  refine g_iadd hO d_L_law_988 ?_
  refine h_sx hO hX d_L_law_989 (fun v4 => ?_)
  refine g_aload_n hO d_L_law_990 (by rfl) 0 rfl ?_
  refine g_iload_n hO d_L_law_991 (by rfl) 3 rfl ?_
  refine g_iconst hO 3 d_L_law_992 (by decide) ?_
  refine g_iadd hO d_L_law_993 ?_
  refine h_sx hO hX d_L_law_994 (fun v5 => ?_)
  refine g_aload_n hO d_L_law_995 (by rfl) 0 rfl ?_
  refine g_iload_n hO d_L_law_996 (by rfl) 3 rfl ?_
  refine g_iconst hO 4 d_L_law_997 (by decide) ?_
  refine g_iadd hO d_L_law_998 ?_
  refine h_sx hO hX d_L_law_999 (fun v6 => ?_)
  refine g_if_eq (tgt := 1007) hO d_L_law_1000.1 d_L_law_1000.2 (fun _ => ?_) (fun _ => ?_)
  · skip
    refine g_iconst hO 0 d_L_law_1007 (by decide) ?_
    exact g_sub [0, 1, 2, 3] rfl (w_L_law_1008 hO L xs hX hk18 _ _ _ _ _ _ _ _ _ _)
  · skip
    refine g_iconst hO 1 d_L_law_1003 (by decide) ?_
    refine g_goto (tgt := 1008) hO d_L_law_1004.1 d_L_law_1004.2 ?_
    exact g_sub [0, 1, 2, 3] rfl (w_L_law_1008 hO L xs hX hk18 _ _ _ _ _ _ _ _ _ _)
set_option maxRecDepth 20000 in
theorem w_L_law_963 {Γ : GC} {E : GE} {nm : String} (hO : gOk Γ E code RL 4 room_1 ret nm) (L : Nat) (xs : Nat → Int32) (hX : gX Γ E L xs) {k18 : (Option Nat → Option Nat → Int32 → GS → Option Unit)} (hk18 : ∀ (z1 : Option Nat) (z2 : Option Nat) (z3 : Int32) (S1 : GS), Go Γ E (gBL Γ) 4 (343, 19442) 18 S1 [(0, vA (some 400000)), (1, vA z1), (2, vA z2), (3, vI z3)] [] (k18 z1 z2 z3 S1)) (x1 : Option Nat) (x2 : Option Nat) (x3 : Int32) (y0 : Option Nat) (y1 : Int32) (y2 : Int32) (y3 : Int32) (y4 : Int32) (S : GS) : Go Γ E (gBL Γ) 4 (343, 19442) 963 S [(0, vA (some 400000)), (1, vA x1), (2, vA x2), (3, vI x3)] [vI y4, vI y3, vI y2, vI y1, vA y0] (f_L_law_963 k18 L xs x1 x2 x3 y0 y1 y2 y3 y4 S) := by
  unfold f_L_law_963
  refine g_aload_n hO d_L_law_963 (by rfl) 0 rfl ?_
  refine g_iload_n hO d_L_law_964 (by rfl) 3 rfl ?_
  refine g_iconst hO 5 d_L_law_965 (by decide) ?_
  refine g_iadd hO d_L_law_966 ?_
  refine h_sx hO hX d_L_law_967 (fun v1 => ?_)
  refine g_if_eq (tgt := 975) hO d_L_law_968.1 d_L_law_968.2 (fun _ => ?_) (fun _ => ?_)
  · skip
    refine g_iconst hO 0 d_L_law_975 (by decide) ?_
    exact g_sub [0, 1, 2, 3] rfl (w_L_law_976 hO L xs hX hk18 _ _ _ _ _ _ _ _ _ _)
  · skip
    refine g_iconst hO 1 d_L_law_971 (by decide) ?_
    refine g_goto (tgt := 976) hO d_L_law_972.1 d_L_law_972.2 ?_
    exact g_sub [0, 1, 2, 3] rfl (w_L_law_976 hO L xs hX hk18 _ _ _ _ _ _ _ _ _ _)
set_option maxRecDepth 20000 in
theorem w_L_law_1091 {Γ : GC} {E : GE} {nm : String} (hO : gOk Γ E code RL 4 room_1 ret nm) (L : Nat) (xs : Nat → Int32) (hX : gX Γ E L xs) {k18 : (Option Nat → Option Nat → Int32 → GS → Option Unit)} (hk18 : ∀ (z1 : Option Nat) (z2 : Option Nat) (z3 : Int32) (S1 : GS), Go Γ E (gBL Γ) 4 (343, 19442) 18 S1 [(0, vA (some 400000)), (1, vA z1), (2, vA z2), (3, vI z3)] [] (k18 z1 z2 z3 S1)) (x1 : Option Nat) (x2 : Option Nat) (x3 : Int32) (y0 : Int64) (y1 : Option Nat) (y2 : Int32) (y3 : Int32) (y4 : Int32) (y5 : Int32) (S : GS) : Go Γ E (gBL Γ) 4 (343, 19442) 1091 S [(0, vA (some 400000)), (1, vA x1), (2, vA x2), (3, vI x3)] [vI y5, vI y4, vI y3, vI y2, vA y1, vJ y0] (f_L_law_1091 k18 L xs x1 x2 x3 y0 y1 y2 y3 y4 y5 S) := by
  unfold f_L_law_1091
  refine k_virtJs hO cl_X12 mm_X12_drop lkV_L_93 ⟨⟨Nat.le_of_ble_eq_true rfl, Nat.le_of_ble_eq_true rfl⟩, Nat.le_of_ble_eq_true rfl, Nat.le_of_ble_eq_true rfl⟩ (kn' := (343, 19442)) rfl (As := [vI y2, vI y3, vI y4, vI y5]) rfl (Nat.le_of_ble_eq_true rfl) (fun o' _ => t_X12_drop Γ.2.1 E o' y2 y3 y4 y5 S) d_L_law_1091 rfl (fun v1 S2 => ?_)
  refine g_lcmp hO d_L_law_1094 ?_
  refine g_if_eq (tgt := 1814) hO d_L_law_1095.1 d_L_law_1095.2 (fun _ => ?_) (fun _ => ?_)
  · skip
    exact g_sub [0, 1, 2, 3] rfl (w_L_law_1814 hO L xs hX hk18 _ _ _ _)
  · skip
    refine g_iconst hO 0 d_L_law_1098 (by decide) ?_
    exact g_none
set_option maxRecDepth 20000 in
theorem w_L_law_1059 {Γ : GC} {E : GE} {nm : String} (hO : gOk Γ E code RL 4 room_1 ret nm) (L : Nat) (xs : Nat → Int32) (hX : gX Γ E L xs) {k18 : (Option Nat → Option Nat → Int32 → GS → Option Unit)} (hk18 : ∀ (z1 : Option Nat) (z2 : Option Nat) (z3 : Int32) (S1 : GS), Go Γ E (gBL Γ) 4 (343, 19442) 18 S1 [(0, vA (some 400000)), (1, vA z1), (2, vA z2), (3, vI z3)] [] (k18 z1 z2 z3 S1)) (x1 : Option Nat) (x2 : Option Nat) (x3 : Int32) (y0 : Option Nat) (y1 : Int32) (y2 : Int32) (y3 : Int32) (y4 : Int32) (S : GS) : Go Γ E (gBL Γ) 4 (343, 19442) 1059 S [(0, vA (some 400000)), (1, vA x1), (2, vA x2), (3, vI x3)] [vI y4, vI y3, vI y2, vI y1, vA y0] (f_L_law_1059 k18 L xs x1 x2 x3 y0 y1 y2 y3 y4 S) := by
  unfold f_L_law_1059
  refine k_virtJs hO cl_X11 mm_X11_drop lkV_L_89 ⟨⟨Nat.le_of_ble_eq_true rfl, Nat.le_of_ble_eq_true rfl⟩, Nat.le_of_ble_eq_true rfl, Nat.le_of_ble_eq_true rfl⟩ (kn' := (343, 19442)) rfl (As := [vI y1, vI y2, vI y3, vI y4]) rfl (Nat.le_of_ble_eq_true rfl) (fun o' _ => t_X11_drop Γ.2.1 E o' y1 y2 y3 y4 S) d_L_law_1059 rfl (fun v1 S2 => ?_)
  refine g_aload_n hO d_L_law_1062 (by rfl) 2 rfl ?_
  refine g_aload_n hO d_L_law_1063 (by rfl) 0 rfl ?_
  refine g_iload_n hO d_L_law_1064 (by rfl) 3 rfl ?_
  refine g_iconst hO 1 d_L_law_1065 (by decide) ?_
  refine g_iadd hO d_L_law_1066 ?_
  refine h_sx hO hX d_L_law_1067 (fun v3 => ?_)
  refine g_aload_n hO d_L_law_1068 (by rfl) 0 rfl ?_
  refine g_iload_n hO d_L_law_1069 (by rfl) 3 rfl ?_
  refine g_iconst hO 2 d_L_law_1070 (by decide) ?_
  refine g_iadd hO d_L_law_1071 ?_
  refine h_sx hO hX d_L_law_1072 (fun v4 => ?_)
  refine g_aload_n hO d_L_law_1073 (by rfl) 0 rfl ?_
  refine g_iload_n hO d_L_law_1074 (by rfl) 3 rfl ?_
  refine g_iconst hO 3 d_L_law_1075 (by decide) ?_
  refine g_iadd hO d_L_law_1076 ?_
  refine h_sx hO hX d_L_law_1077 (fun v5 => ?_)
  refine g_aload_n hO d_L_law_1078 (by rfl) 0 rfl ?_
  refine g_iload_n hO d_L_law_1079 (by rfl) 3 rfl ?_
  refine g_iconst hO 4 d_L_law_1080 (by decide) ?_
  refine g_iadd hO d_L_law_1081 ?_
  refine h_sx hO hX d_L_law_1082 (fun v6 => ?_)
  refine g_if_eq (tgt := 1090) hO d_L_law_1083.1 d_L_law_1083.2 (fun _ => ?_) (fun _ => ?_)
  · skip
    refine g_iconst hO 0 d_L_law_1090 (by decide) ?_
    exact g_sub [0, 1, 2, 3] rfl (w_L_law_1091 hO L xs hX hk18 _ _ _ _ _ _ _ _ _ _)
  · skip
    refine g_iconst hO 1 d_L_law_1086 (by decide) ?_
    refine g_goto (tgt := 1091) hO d_L_law_1087.1 d_L_law_1087.2 ?_
    exact g_sub [0, 1, 2, 3] rfl (w_L_law_1091 hO L xs hX hk18 _ _ _ _ _ _ _ _ _ _)
set_option maxRecDepth 20000 in
theorem w_L_law_1433 {Γ : GC} {E : GE} {nm : String} (hO : gOk Γ E code RL 4 room_1 ret nm) (L : Nat) (xs : Nat → Int32) (hX : gX Γ E L xs) {k18 : (Option Nat → Option Nat → Int32 → GS → Option Unit)} (hk18 : ∀ (z1 : Option Nat) (z2 : Option Nat) (z3 : Int32) (S1 : GS), Go Γ E (gBL Γ) 4 (343, 19442) 18 S1 [(0, vA (some 400000)), (1, vA z1), (2, vA z2), (3, vI z3)] [] (k18 z1 z2 z3 S1)) (x1 : Option Nat) (x2 : Option Nat) (x3 : Int32) (y0 : Int32) (y1 : Option Nat) (y2 : Int32) (y3 : Int32) (S : GS) : Go Γ E (gBL Γ) 4 (343, 19442) 1433 S [(0, vA (some 400000)), (1, vA x1), (2, vA x2), (3, vI x3)] [vI y3, vI y2, vA y1, vI y0] (f_L_law_1433 k18 L xs x1 x2 x3 y0 y1 y2 y3 S) := by
  unfold f_L_law_1433
  refine k_virtIs hO cl_X12 mm_X12_pays lkV_L_127 ⟨⟨Nat.le_of_ble_eq_true rfl, Nat.le_of_ble_eq_true rfl⟩, Nat.le_of_ble_eq_true rfl, Nat.le_of_ble_eq_true rfl⟩ (kn' := (343, 19442)) rfl (As := [vI y2, vI y3]) rfl (Nat.le_of_ble_eq_true rfl) (fun o' _ => t_X12_pays Γ.2.1 E o' y2 y3 S) d_L_law_1433 rfl (fun v1 S2 => ?_)
  refine g_ic_eq (tgt := 1814) hO d_L_law_1436.1 d_L_law_1436.2 (fun _ => ?_) (fun _ => ?_)
  · skip
    exact g_sub [0, 1, 2, 3] rfl (w_L_law_1814 hO L xs hX hk18 _ _ _ _)
  · skip
    refine g_iconst hO 0 d_L_law_1439 (by decide) ?_
    exact g_none
set_option maxRecDepth 20000 in
theorem w_L_law_1411 {Γ : GC} {E : GE} {nm : String} (hO : gOk Γ E code RL 4 room_1 ret nm) (L : Nat) (xs : Nat → Int32) (hX : gX Γ E L xs) {k18 : (Option Nat → Option Nat → Int32 → GS → Option Unit)} (hk18 : ∀ (z1 : Option Nat) (z2 : Option Nat) (z3 : Int32) (S1 : GS), Go Γ E (gBL Γ) 4 (343, 19442) 18 S1 [(0, vA (some 400000)), (1, vA z1), (2, vA z2), (3, vI z3)] [] (k18 z1 z2 z3 S1)) (x1 : Option Nat) (x2 : Option Nat) (x3 : Int32) (y0 : Option Nat) (y1 : Int32) (y2 : Int32) (S : GS) : Go Γ E (gBL Γ) 4 (343, 19442) 1411 S [(0, vA (some 400000)), (1, vA x1), (2, vA x2), (3, vI x3)] [vI y2, vI y1, vA y0] (f_L_law_1411 k18 L xs x1 x2 x3 y0 y1 y2 S) := by
  unfold f_L_law_1411
  refine k_virtIs hO cl_X11 mm_X11_pays lkV_L_123 ⟨⟨Nat.le_of_ble_eq_true rfl, Nat.le_of_ble_eq_true rfl⟩, Nat.le_of_ble_eq_true rfl, Nat.le_of_ble_eq_true rfl⟩ (kn' := (343, 19442)) rfl (As := [vI y1, vI y2]) rfl (Nat.le_of_ble_eq_true rfl) (fun o' _ => t_X11_pays Γ.2.1 E o' y1 y2 S) d_L_law_1411 rfl (fun v1 S2 => ?_)
  refine g_aload_n hO d_L_law_1414 (by rfl) 2 rfl ?_
  refine g_aload_n hO d_L_law_1415 (by rfl) 0 rfl ?_
  refine g_iload_n hO d_L_law_1416 (by rfl) 3 rfl ?_
  refine g_iconst hO 1 d_L_law_1417 (by decide) ?_
  refine g_iadd hO d_L_law_1418 ?_
  refine h_sx hO hX d_L_law_1419 (fun v3 => ?_)
  refine g_aload_n hO d_L_law_1420 (by rfl) 0 rfl ?_
  refine g_iload_n hO d_L_law_1421 (by rfl) 3 rfl ?_
  refine g_iconst hO 2 d_L_law_1422 (by decide) ?_
  refine g_iadd hO d_L_law_1423 ?_
  refine h_sx hO hX d_L_law_1424 (fun v4 => ?_)
  refine g_if_eq (tgt := 1432) hO d_L_law_1425.1 d_L_law_1425.2 (fun _ => ?_) (fun _ => ?_)
  · skip
    refine g_iconst hO 0 d_L_law_1432 (by decide) ?_
    exact g_sub [0, 1, 2, 3] rfl (w_L_law_1433 hO L xs hX hk18 _ _ _ _ _ _ _ _)
  · skip
    refine g_iconst hO 1 d_L_law_1428 (by decide) ?_
    refine g_goto (tgt := 1433) hO d_L_law_1429.1 d_L_law_1429.2 ?_
    exact g_sub [0, 1, 2, 3] rfl (w_L_law_1433 hO L xs hX hk18 _ _ _ _ _ _ _ _)
set_option maxRecDepth 20000 in
theorem w_L_law_1555 {Γ : GC} {E : GE} {nm : String} (hO : gOk Γ E code RL 4 room_1 ret nm) (L : Nat) (xs : Nat → Int32) (hX : gX Γ E L xs) {k18 : (Option Nat → Option Nat → Int32 → GS → Option Unit)} (hk18 : ∀ (z1 : Option Nat) (z2 : Option Nat) (z3 : Int32) (S1 : GS), Go Γ E (gBL Γ) 4 (343, 19442) 18 S1 [(0, vA (some 400000)), (1, vA z1), (2, vA z2), (3, vI z3)] [] (k18 z1 z2 z3 S1)) (x1 : Option Nat) (x2 : Option Nat) (x3 : Int32) (y0 : Int32) (y1 : Option Nat) (y2 : Int32) (y3 : Int32) (y4 : Int32) (y5 : Int32) (y6 : Int32) (S : GS) : Go Γ E (gBL Γ) 4 (343, 19442) 1555 S [(0, vA (some 400000)), (1, vA x1), (2, vA x2), (3, vI x3)] [vI y6, vI y5, vI y4, vI y3, vI y2, vA y1, vI y0] (f_L_law_1555 k18 L xs x1 x2 x3 y0 y1 y2 y3 y4 y5 y6 S) := by
  unfold f_L_law_1555
  refine k_virtIs hO cl_X12 mm_X12_cover lkV_L_136 ⟨⟨Nat.le_of_ble_eq_true rfl, Nat.le_of_ble_eq_true rfl⟩, Nat.le_of_ble_eq_true rfl, Nat.le_of_ble_eq_true rfl⟩ (kn' := (343, 19442)) rfl (As := [vI y2, vI y3, vI y4, vI y5, vI y6]) rfl (Nat.le_of_ble_eq_true rfl) (fun o' _ => t_X12_cover Γ.2.1 E o' y2 y3 y4 y5 y6 S) d_L_law_1555 rfl (fun v1 S2 => ?_)
  refine g_ic_eq (tgt := 1814) hO d_L_law_1558.1 d_L_law_1558.2 (fun _ => ?_) (fun _ => ?_)
  · skip
    exact g_sub [0, 1, 2, 3] rfl (w_L_law_1814 hO L xs hX hk18 _ _ _ _)
  · skip
    refine g_iconst hO 0 d_L_law_1561 (by decide) ?_
    exact g_none
set_option maxRecDepth 20000 in
theorem w_L_law_1518 {Γ : GC} {E : GE} {nm : String} (hO : gOk Γ E code RL 4 room_1 ret nm) (L : Nat) (xs : Nat → Int32) (hX : gX Γ E L xs) {k18 : (Option Nat → Option Nat → Int32 → GS → Option Unit)} (hk18 : ∀ (z1 : Option Nat) (z2 : Option Nat) (z3 : Int32) (S1 : GS), Go Γ E (gBL Γ) 4 (343, 19442) 18 S1 [(0, vA (some 400000)), (1, vA z1), (2, vA z2), (3, vI z3)] [] (k18 z1 z2 z3 S1)) (x1 : Option Nat) (x2 : Option Nat) (x3 : Int32) (y0 : Option Nat) (y1 : Int32) (y2 : Int32) (y3 : Int32) (y4 : Int32) (y5 : Int32) (S : GS) : Go Γ E (gBL Γ) 4 (343, 19442) 1518 S [(0, vA (some 400000)), (1, vA x1), (2, vA x2), (3, vI x3)] [vI y5, vI y4, vI y3, vI y2, vI y1, vA y0] (f_L_law_1518 k18 L xs x1 x2 x3 y0 y1 y2 y3 y4 y5 S) := by
  unfold f_L_law_1518
  refine k_virtIs hO cl_X11 mm_X11_cover lkV_L_132 ⟨⟨Nat.le_of_ble_eq_true rfl, Nat.le_of_ble_eq_true rfl⟩, Nat.le_of_ble_eq_true rfl, Nat.le_of_ble_eq_true rfl⟩ (kn' := (343, 19442)) rfl (As := [vI y1, vI y2, vI y3, vI y4, vI y5]) rfl (Nat.le_of_ble_eq_true rfl) (fun o' _ => t_X11_cover Γ.2.1 E o' y1 y2 y3 y4 y5 S) d_L_law_1518 rfl (fun v1 S2 => ?_)
  refine g_aload_n hO d_L_law_1521 (by rfl) 2 rfl ?_
  refine g_aload_n hO d_L_law_1522 (by rfl) 0 rfl ?_
  refine g_iload_n hO d_L_law_1523 (by rfl) 3 rfl ?_
  refine g_iconst hO 1 d_L_law_1524 (by decide) ?_
  refine g_iadd hO d_L_law_1525 ?_
  refine h_sx hO hX d_L_law_1526 (fun v3 => ?_)
  refine g_aload_n hO d_L_law_1527 (by rfl) 0 rfl ?_
  refine g_iload_n hO d_L_law_1528 (by rfl) 3 rfl ?_
  refine g_iconst hO 2 d_L_law_1529 (by decide) ?_
  refine g_iadd hO d_L_law_1530 ?_
  refine h_sx hO hX d_L_law_1531 (fun v4 => ?_)
  refine g_aload_n hO d_L_law_1532 (by rfl) 0 rfl ?_
  refine g_iload_n hO d_L_law_1533 (by rfl) 3 rfl ?_
  refine g_iconst hO 3 d_L_law_1534 (by decide) ?_
  refine g_iadd hO d_L_law_1535 ?_
  refine h_sx hO hX d_L_law_1536 (fun v5 => ?_)
  refine g_aload_n hO d_L_law_1537 (by rfl) 0 rfl ?_
  refine g_iload_n hO d_L_law_1538 (by rfl) 3 rfl ?_
  refine g_iconst hO 4 d_L_law_1539 (by decide) ?_
  refine g_iadd hO d_L_law_1540 ?_
  refine h_sx hO hX d_L_law_1541 (fun v6 => ?_)
  refine g_aload_n hO d_L_law_1542 (by rfl) 0 rfl ?_
  refine g_iload_n hO d_L_law_1543 (by rfl) 3 rfl ?_
  refine g_iconst hO 5 d_L_law_1544 (by decide) ?_
  refine g_iadd hO d_L_law_1545 ?_
  refine h_sx hO hX d_L_law_1546 (fun v7 => ?_)
  refine g_if_eq (tgt := 1554) hO d_L_law_1547.1 d_L_law_1547.2 (fun _ => ?_) (fun _ => ?_)
  · skip
    refine g_iconst hO 0 d_L_law_1554 (by decide) ?_
    exact g_sub [0, 1, 2, 3] rfl (w_L_law_1555 hO L xs hX hk18 _ _ _ _ _ _ _ _ _ _ _)
  · skip
    refine g_iconst hO 1 d_L_law_1550 (by decide) ?_
    refine g_goto (tgt := 1555) hO d_L_law_1551.1 d_L_law_1551.2 ?_
    exact g_sub [0, 1, 2, 3] rfl (w_L_law_1555 hO L xs hX hk18 _ _ _ _ _ _ _ _ _ _ _)
set_option maxRecDepth 20000 in
theorem w_L_law_18 {Γ : GC} {E : GE} {nm : String} (hO : gOk Γ E code RL 4 room_1 ret nm) (L : Nat) (xs : Nat → Int32) (hX : gX Γ E L xs) : ∀ (n : Nat) (x1 : Option Nat) (x2 : Option Nat) (x3 : Int32) (S : GS), Go Γ E (gBL Γ) 4 (343, 19442) 18 S [(0, vA (some 400000)), (1, vA x1), (2, vA x2), (3, vI x3)] [] (f_L_law_18 L xs n x1 x2 x3 S) := by
  intro n
  induction n with
  | zero =>
    intro x1 x2 x3 S
    exact g_none
  | succ n ih =>
    intro x1 x2 x3 S
    rw [f_L_law_18]
    refine g_iload_n hO d_L_law_18 (by rfl) 3 rfl ?_
    refine g_aload_n hO d_L_law_19 (by rfl) 0 rfl ?_
    refine h_sl hO hX d_L_law_20 (fun v1 => ?_)
    refine g_bipush hO 6 d_L_law_21 (by decide) ?_
    refine g_isub hO d_L_law_23 ?_
    refine g_ic_gt (tgt := 1820) hO d_L_law_24.1 d_L_law_24.2 (fun _ => ?_) (fun _ => ?_)
    · skip
      refine g_iconst hO 1 d_L_law_1820 (by decide) ?_
      exact g_law hO hX ⟨by decide, by decide⟩ d_L_law_1821.1
    · skip
      refine g_aload_n hO d_L_law_27 (by rfl) 0 rfl ?_
      refine g_iload_n hO d_L_law_28 (by rfl) 3 rfl ?_
      refine h_sx hO hX d_L_law_29 (fun v2 => ?_)
      refine g_bipush hO 63 d_L_law_30 (by decide) ?_
      refine g_iand hO d_L_law_32 ?_
      refine h_tsw (c := 0) (dt := 1814) hO d_L_law_33.1 35 (by decide) (by rfl) rfl (by decide) (by decide) d_L_law_33.2 ⟨⟨188, by decide, ?_⟩, ⟨251, by decide, ?_⟩, ⟨274, by decide, ?_⟩, ⟨307, by decide, ?_⟩, ⟨330, by decide, ?_⟩, ⟨363, by decide, ?_⟩, ⟨406, by decide, ?_⟩, ⟨459, by decide, ?_⟩, ⟨502, by decide, ?_⟩, ⟨535, by decide, ?_⟩, ⟨588, by decide, ?_⟩, ⟨651, by decide, ?_⟩, ⟨684, by decide, ?_⟩, ⟨727, by decide, ?_⟩, ⟨806, by decide, ?_⟩, ⟨901, by decide, ?_⟩, ⟨934, by decide, ?_⟩, ⟨1030, by decide, ?_⟩, ⟨1100, by decide, ?_⟩, ⟨1153, by decide, ?_⟩, ⟨1186, by decide, ?_⟩, ⟨1220, by decide, ?_⟩, ⟨1273, by decide, ?_⟩, ⟨1316, by decide, ?_⟩, ⟨1359, by decide, ?_⟩, ⟨1392, by decide, ?_⟩, ⟨1441, by decide, ?_⟩, ⟨1484, by decide, ?_⟩, ⟨1563, by decide, ?_⟩, ⟨1596, by decide, ?_⟩, ⟨1649, by decide, ?_⟩, ⟨1702, by decide, ?_⟩, ⟨1745, by decide, ?_⟩, ⟨1768, by decide, ?_⟩, ⟨1791, by decide, ?_⟩, trivial⟩ ?_
      · skip
        refine g_aload_n hO d_L_law_188 (by rfl) 1 rfl ?_
        refine g_aload_n hO d_L_law_189 (by rfl) 0 rfl ?_
        refine g_iload_n hO d_L_law_190 (by rfl) 3 rfl ?_
        refine g_iconst hO 1 d_L_law_191 (by decide) ?_
        refine g_iadd hO d_L_law_192 ?_
        refine h_sx hO hX d_L_law_193 (fun v3 => ?_)
        refine g_aload_n hO d_L_law_194 (by rfl) 0 rfl ?_
        refine g_iload_n hO d_L_law_195 (by rfl) 3 rfl ?_
        refine g_iconst hO 2 d_L_law_196 (by decide) ?_
        refine g_iadd hO d_L_law_197 ?_
        refine h_sx hO hX d_L_law_198 (fun v4 => ?_)
        refine g_aload_n hO d_L_law_199 (by rfl) 0 rfl ?_
        refine g_iload_n hO d_L_law_200 (by rfl) 3 rfl ?_
        refine g_iconst hO 3 d_L_law_201 (by decide) ?_
        refine g_iadd hO d_L_law_202 ?_
        refine h_sx hO hX d_L_law_203 (fun v5 => ?_)
        refine g_aload_n hO d_L_law_204 (by rfl) 0 rfl ?_
        refine g_iload_n hO d_L_law_205 (by rfl) 3 rfl ?_
        refine g_iconst hO 4 d_L_law_206 (by decide) ?_
        refine g_iadd hO d_L_law_207 ?_
        refine h_sx hO hX d_L_law_208 (fun v6 => ?_)
        refine g_aload_n hO d_L_law_209 (by rfl) 0 rfl ?_
        refine g_iload_n hO d_L_law_210 (by rfl) 3 rfl ?_
        refine g_iconst hO 5 d_L_law_211 (by decide) ?_
        refine g_iadd hO d_L_law_212 ?_
        refine h_sx hO hX d_L_law_213 (fun v7 => ?_)
        refine k_virtIs hO cl_X11 mm_X11_feed lkV_L_13 ⟨⟨Nat.le_of_ble_eq_true rfl, Nat.le_of_ble_eq_true rfl⟩, Nat.le_of_ble_eq_true rfl, Nat.le_of_ble_eq_true rfl⟩ (kn' := (343, 19442)) rfl (As := [vI v3, vI v4, vI v5, vI v6, vI v7]) rfl (Nat.le_of_ble_eq_true rfl) (fun o' _ => t_X11_feed Γ.2.1 E o' v3 v4 v5 v6 v7 S) d_L_law_214 rfl (fun v8 S9 => ?_)
        refine g_aload_n hO d_L_law_217 (by rfl) 2 rfl ?_
        refine g_aload_n hO d_L_law_218 (by rfl) 0 rfl ?_
        refine g_iload_n hO d_L_law_219 (by rfl) 3 rfl ?_
        refine g_iconst hO 1 d_L_law_220 (by decide) ?_
        refine g_iadd hO d_L_law_221 ?_
        refine h_sx hO hX d_L_law_222 (fun v10 => ?_)
        refine g_aload_n hO d_L_law_223 (by rfl) 0 rfl ?_
        refine g_iload_n hO d_L_law_224 (by rfl) 3 rfl ?_
        refine g_iconst hO 2 d_L_law_225 (by decide) ?_
        refine g_iadd hO d_L_law_226 ?_
        refine h_sx hO hX d_L_law_227 (fun v11 => ?_)
        refine g_aload_n hO d_L_law_228 (by rfl) 0 rfl ?_
        refine g_iload_n hO d_L_law_229 (by rfl) 3 rfl ?_
        refine g_iconst hO 3 d_L_law_230 (by decide) ?_
        refine g_iadd hO d_L_law_231 ?_
        refine h_sx hO hX d_L_law_232 (fun v12 => ?_)
        refine g_aload_n hO d_L_law_233 (by rfl) 0 rfl ?_
        refine g_iload_n hO d_L_law_234 (by rfl) 3 rfl ?_
        refine g_iconst hO 4 d_L_law_235 (by decide) ?_
        refine g_iadd hO d_L_law_236 ?_
        refine h_sx hO hX d_L_law_237 (fun v13 => ?_)
        refine g_aload_n hO d_L_law_238 (by rfl) 0 rfl ?_
        refine g_iload_n hO d_L_law_239 (by rfl) 3 rfl ?_
        refine g_iconst hO 5 d_L_law_240 (by decide) ?_
        refine g_iadd hO d_L_law_241 ?_
        refine h_sx hO hX d_L_law_242 (fun v14 => ?_)
        refine k_virtIs hO cl_X12 mm_X12_feed lkV_L_17 ⟨⟨Nat.le_of_ble_eq_true rfl, Nat.le_of_ble_eq_true rfl⟩, Nat.le_of_ble_eq_true rfl, Nat.le_of_ble_eq_true rfl⟩ (kn' := (343, 19442)) rfl (As := [vI v10, vI v11, vI v12, vI v13, vI v14]) rfl (Nat.le_of_ble_eq_true rfl) (fun o' _ => t_X12_feed Γ.2.1 E o' v10 v11 v12 v13 v14 S9) d_L_law_243 rfl (fun v15 S16 => ?_)
        refine g_ic_eq (tgt := 1814) hO d_L_law_246.1 d_L_law_246.2 (fun _ => ?_) (fun _ => ?_)
        · skip
          exact g_sub [0, 1, 2, 3] rfl (w_L_law_1814 hO L xs hX ih _ _ _ _)
        · skip
          refine g_iconst hO 0 d_L_law_249 (by decide) ?_
          exact g_none
      · skip
        refine g_aload_n hO d_L_law_251 (by rfl) 1 rfl ?_
        refine g_aload_n hO d_L_law_252 (by rfl) 0 rfl ?_
        refine g_iload_n hO d_L_law_253 (by rfl) 3 rfl ?_
        refine g_iconst hO 1 d_L_law_254 (by decide) ?_
        refine g_iadd hO d_L_law_255 ?_
        refine h_sx hO hX d_L_law_256 (fun v17 => ?_)
        refine k_virtIs hO cl_X11 mm_X11_end lkV_L_18 ⟨⟨Nat.le_of_ble_eq_true rfl, Nat.le_of_ble_eq_true rfl⟩, Nat.le_of_ble_eq_true rfl, Nat.le_of_ble_eq_true rfl⟩ (kn' := (343, 19442)) rfl (As := [vI v17]) rfl (Nat.le_of_ble_eq_true rfl) (fun o' _ => t_X11_end Γ.2.1 E o' v17 S) d_L_law_257 rfl (fun v18 S19 => ?_)
        refine g_aload_n hO d_L_law_260 (by rfl) 2 rfl ?_
        refine g_aload_n hO d_L_law_261 (by rfl) 0 rfl ?_
        refine g_iload_n hO d_L_law_262 (by rfl) 3 rfl ?_
        refine g_iconst hO 1 d_L_law_263 (by decide) ?_
        refine g_iadd hO d_L_law_264 ?_
        refine h_sx hO hX d_L_law_265 (fun v20 => ?_)
        refine k_virtIs hO cl_X12 mm_X12_end lkV_L_22 ⟨⟨Nat.le_of_ble_eq_true rfl, Nat.le_of_ble_eq_true rfl⟩, Nat.le_of_ble_eq_true rfl, Nat.le_of_ble_eq_true rfl⟩ (kn' := (343, 19442)) rfl (As := [vI v20]) rfl (Nat.le_of_ble_eq_true rfl) (fun o' _ => t_X12_end Γ.2.1 E o' v20 S19) d_L_law_266 rfl (fun v21 S22 => ?_)
        refine g_ic_eq (tgt := 1814) hO d_L_law_269.1 d_L_law_269.2 (fun _ => ?_) (fun _ => ?_)
        · skip
          exact g_sub [0, 1, 2, 3] rfl (w_L_law_1814 hO L xs hX ih _ _ _ _)
        · skip
          refine g_iconst hO 0 d_L_law_272 (by decide) ?_
          exact g_none
      · skip
        refine g_aload_n hO d_L_law_274 (by rfl) 1 rfl ?_
        refine g_aload_n hO d_L_law_275 (by rfl) 0 rfl ?_
        refine g_iload_n hO d_L_law_276 (by rfl) 3 rfl ?_
        refine g_iconst hO 1 d_L_law_277 (by decide) ?_
        refine g_iadd hO d_L_law_278 ?_
        refine h_sx hO hX d_L_law_279 (fun v23 => ?_)
        refine g_aload_n hO d_L_law_280 (by rfl) 0 rfl ?_
        refine g_iload_n hO d_L_law_281 (by rfl) 3 rfl ?_
        refine g_iconst hO 2 d_L_law_282 (by decide) ?_
        refine g_iadd hO d_L_law_283 ?_
        refine h_sx hO hX d_L_law_284 (fun v24 => ?_)
        refine k_virtIs hO cl_X11 mm_X11_text lkV_L_23 ⟨⟨Nat.le_of_ble_eq_true rfl, Nat.le_of_ble_eq_true rfl⟩, Nat.le_of_ble_eq_true rfl, Nat.le_of_ble_eq_true rfl⟩ (kn' := (343, 19442)) rfl (As := [vI v23, vI v24]) rfl (Nat.le_of_ble_eq_true rfl) (fun o' _ => t_X11_text Γ.2.1 E o' v23 v24 S) d_L_law_285 rfl (fun v25 S26 => ?_)
        refine g_aload_n hO d_L_law_288 (by rfl) 2 rfl ?_
        refine g_aload_n hO d_L_law_289 (by rfl) 0 rfl ?_
        refine g_iload_n hO d_L_law_290 (by rfl) 3 rfl ?_
        refine g_iconst hO 1 d_L_law_291 (by decide) ?_
        refine g_iadd hO d_L_law_292 ?_
        refine h_sx hO hX d_L_law_293 (fun v27 => ?_)
        refine g_aload_n hO d_L_law_294 (by rfl) 0 rfl ?_
        refine g_iload_n hO d_L_law_295 (by rfl) 3 rfl ?_
        refine g_iconst hO 2 d_L_law_296 (by decide) ?_
        refine g_iadd hO d_L_law_297 ?_
        refine h_sx hO hX d_L_law_298 (fun v28 => ?_)
        refine k_virtIs hO cl_X12 mm_X12_text lkV_L_27 ⟨⟨Nat.le_of_ble_eq_true rfl, Nat.le_of_ble_eq_true rfl⟩, Nat.le_of_ble_eq_true rfl, Nat.le_of_ble_eq_true rfl⟩ (kn' := (343, 19442)) rfl (As := [vI v27, vI v28]) rfl (Nat.le_of_ble_eq_true rfl) (fun o' _ => t_X12_text Γ.2.1 E o' v27 v28 S26) d_L_law_299 rfl (fun v29 S30 => ?_)
        refine g_ic_eq (tgt := 1814) hO d_L_law_302.1 d_L_law_302.2 (fun _ => ?_) (fun _ => ?_)
        · skip
          exact g_sub [0, 1, 2, 3] rfl (w_L_law_1814 hO L xs hX ih _ _ _ _)
        · skip
          refine g_iconst hO 0 d_L_law_305 (by decide) ?_
          exact g_none
      · skip
        refine g_aload_n hO d_L_law_307 (by rfl) 1 rfl ?_
        refine g_aload_n hO d_L_law_308 (by rfl) 0 rfl ?_
        refine g_iload_n hO d_L_law_309 (by rfl) 3 rfl ?_
        refine g_iconst hO 1 d_L_law_310 (by decide) ?_
        refine g_iadd hO d_L_law_311 ?_
        refine h_sx hO hX d_L_law_312 (fun v31 => ?_)
        refine k_virtIp hO cl_X11 mm_X11_fault lkV_L_28 ⟨⟨Nat.le_of_ble_eq_true rfl, Nat.le_of_ble_eq_true rfl⟩, Nat.le_of_ble_eq_true rfl, Nat.le_of_ble_eq_true rfl⟩ (kn' := (343, 19442)) rfl (As := [vI v31]) rfl (Nat.le_of_ble_eq_true rfl) (fun o' _ => t_X11_fault Γ.2.1 E o' v31 S) d_L_law_313 rfl (fun v32 => ?_)
        refine g_aload_n hO d_L_law_316 (by rfl) 2 rfl ?_
        refine g_aload_n hO d_L_law_317 (by rfl) 0 rfl ?_
        refine g_iload_n hO d_L_law_318 (by rfl) 3 rfl ?_
        refine g_iconst hO 1 d_L_law_319 (by decide) ?_
        refine g_iadd hO d_L_law_320 ?_
        refine h_sx hO hX d_L_law_321 (fun v34 => ?_)
        refine k_virtIs hO cl_X12 mm_X12_fault lkV_L_31 ⟨⟨Nat.le_of_ble_eq_true rfl, Nat.le_of_ble_eq_true rfl⟩, Nat.le_of_ble_eq_true rfl, Nat.le_of_ble_eq_true rfl⟩ (kn' := (343, 19442)) rfl (As := [vI v34]) rfl (Nat.le_of_ble_eq_true rfl) (fun o' _ => t_X12_fault Γ.2.1 E o' v34 S) d_L_law_322 rfl (fun v35 S36 => ?_)
        refine g_ic_eq (tgt := 1814) hO d_L_law_325.1 d_L_law_325.2 (fun _ => ?_) (fun _ => ?_)
        · skip
          exact g_sub [0, 1, 2, 3] rfl (w_L_law_1814 hO L xs hX ih _ _ _ _)
        · skip
          refine g_iconst hO 0 d_L_law_328 (by decide) ?_
          exact g_none
      · skip
        refine g_aload_n hO d_L_law_330 (by rfl) 1 rfl ?_
        refine g_aload_n hO d_L_law_331 (by rfl) 0 rfl ?_
        refine g_iload_n hO d_L_law_332 (by rfl) 3 rfl ?_
        refine g_iconst hO 1 d_L_law_333 (by decide) ?_
        refine g_iadd hO d_L_law_334 ?_
        refine h_sx hO hX d_L_law_335 (fun v37 => ?_)
        refine g_aload_n hO d_L_law_336 (by rfl) 0 rfl ?_
        refine g_iload_n hO d_L_law_337 (by rfl) 3 rfl ?_
        refine g_iconst hO 2 d_L_law_338 (by decide) ?_
        refine g_iadd hO d_L_law_339 ?_
        refine h_sx hO hX d_L_law_340 (fun v38 => ?_)
        refine k_virtIp hO cl_X11 mm_X11_court lkV_L_32 ⟨⟨Nat.le_of_ble_eq_true rfl, Nat.le_of_ble_eq_true rfl⟩, Nat.le_of_ble_eq_true rfl, Nat.le_of_ble_eq_true rfl⟩ (kn' := (343, 19442)) rfl (As := [vI v37, vI v38]) rfl (Nat.le_of_ble_eq_true rfl) (fun o' _ => t_X11_court Γ.2.1 E o' v37 v38 S) d_L_law_341 rfl (fun v39 => ?_)
        refine g_aload_n hO d_L_law_344 (by rfl) 2 rfl ?_
        refine g_aload_n hO d_L_law_345 (by rfl) 0 rfl ?_
        refine g_iload_n hO d_L_law_346 (by rfl) 3 rfl ?_
        refine g_iconst hO 1 d_L_law_347 (by decide) ?_
        refine g_iadd hO d_L_law_348 ?_
        refine h_sx hO hX d_L_law_349 (fun v41 => ?_)
        refine g_aload_n hO d_L_law_350 (by rfl) 0 rfl ?_
        refine g_iload_n hO d_L_law_351 (by rfl) 3 rfl ?_
        refine g_iconst hO 2 d_L_law_352 (by decide) ?_
        refine g_iadd hO d_L_law_353 ?_
        refine h_sx hO hX d_L_law_354 (fun v42 => ?_)
        refine k_virtIs hO cl_X12 mm_X12_court lkV_L_35 ⟨⟨Nat.le_of_ble_eq_true rfl, Nat.le_of_ble_eq_true rfl⟩, Nat.le_of_ble_eq_true rfl, Nat.le_of_ble_eq_true rfl⟩ (kn' := (343, 19442)) rfl (As := [vI v41, vI v42]) rfl (Nat.le_of_ble_eq_true rfl) (fun o' _ => t_X12_court Γ.2.1 E o' v41 v42 S) d_L_law_355 rfl (fun v43 S44 => ?_)
        refine g_ic_eq (tgt := 1814) hO d_L_law_358.1 d_L_law_358.2 (fun _ => ?_) (fun _ => ?_)
        · skip
          exact g_sub [0, 1, 2, 3] rfl (w_L_law_1814 hO L xs hX ih _ _ _ _)
        · skip
          refine g_iconst hO 0 d_L_law_361 (by decide) ?_
          exact g_none
      · skip
        refine g_aload_n hO d_L_law_363 (by rfl) 1 rfl ?_
        refine g_aload_n hO d_L_law_364 (by rfl) 0 rfl ?_
        refine g_iload_n hO d_L_law_365 (by rfl) 3 rfl ?_
        refine g_iconst hO 1 d_L_law_366 (by decide) ?_
        refine g_iadd hO d_L_law_367 ?_
        refine h_sx hO hX d_L_law_368 (fun v45 => ?_)
        refine g_aload_n hO d_L_law_369 (by rfl) 0 rfl ?_
        refine g_iload_n hO d_L_law_370 (by rfl) 3 rfl ?_
        refine g_iconst hO 2 d_L_law_371 (by decide) ?_
        refine g_iadd hO d_L_law_372 ?_
        refine h_sx hO hX d_L_law_373 (fun v46 => ?_)
        refine g_aload_n hO d_L_law_374 (by rfl) 0 rfl ?_
        refine g_iload_n hO d_L_law_375 (by rfl) 3 rfl ?_
        refine g_iconst hO 3 d_L_law_376 (by decide) ?_
        refine g_iadd hO d_L_law_377 ?_
        refine h_sx hO hX d_L_law_378 (fun v47 => ?_)
        refine k_virtIp hO cl_X11 mm_X11_lady lkV_L_36 ⟨⟨Nat.le_of_ble_eq_true rfl, Nat.le_of_ble_eq_true rfl⟩, Nat.le_of_ble_eq_true rfl, Nat.le_of_ble_eq_true rfl⟩ (kn' := (343, 19442)) rfl (As := [vI v45, vI v46, vI v47]) rfl (Nat.le_of_ble_eq_true rfl) (fun o' _ => t_X11_lady Γ.2.1 E o' v45 v46 v47 S) d_L_law_379 rfl (fun v48 => ?_)
        refine g_aload_n hO d_L_law_382 (by rfl) 2 rfl ?_
        refine g_aload_n hO d_L_law_383 (by rfl) 0 rfl ?_
        refine g_iload_n hO d_L_law_384 (by rfl) 3 rfl ?_
        refine g_iconst hO 1 d_L_law_385 (by decide) ?_
        refine g_iadd hO d_L_law_386 ?_
        refine h_sx hO hX d_L_law_387 (fun v50 => ?_)
        refine g_aload_n hO d_L_law_388 (by rfl) 0 rfl ?_
        refine g_iload_n hO d_L_law_389 (by rfl) 3 rfl ?_
        refine g_iconst hO 2 d_L_law_390 (by decide) ?_
        refine g_iadd hO d_L_law_391 ?_
        refine h_sx hO hX d_L_law_392 (fun v51 => ?_)
        refine g_aload_n hO d_L_law_393 (by rfl) 0 rfl ?_
        refine g_iload_n hO d_L_law_394 (by rfl) 3 rfl ?_
        refine g_iconst hO 3 d_L_law_395 (by decide) ?_
        refine g_iadd hO d_L_law_396 ?_
        refine h_sx hO hX d_L_law_397 (fun v52 => ?_)
        refine k_virtIs hO cl_X12 mm_X12_lady lkV_L_40 ⟨⟨Nat.le_of_ble_eq_true rfl, Nat.le_of_ble_eq_true rfl⟩, Nat.le_of_ble_eq_true rfl, Nat.le_of_ble_eq_true rfl⟩ (kn' := (343, 19442)) rfl (As := [vI v50, vI v51, vI v52]) rfl (Nat.le_of_ble_eq_true rfl) (fun o' _ => t_X12_lady Γ.2.1 E o' v50 v51 v52 S) d_L_law_398 rfl (fun v53 S54 => ?_)
        refine g_ic_eq (tgt := 1814) hO d_L_law_401.1 d_L_law_401.2 (fun _ => ?_) (fun _ => ?_)
        · skip
          exact g_sub [0, 1, 2, 3] rfl (w_L_law_1814 hO L xs hX ih _ _ _ _)
        · skip
          refine g_iconst hO 0 d_L_law_404 (by decide) ?_
          exact g_none
      · skip
        refine g_aload_n hO d_L_law_406 (by rfl) 1 rfl ?_
        refine g_aload_n hO d_L_law_407 (by rfl) 0 rfl ?_
        refine g_iload_n hO d_L_law_408 (by rfl) 3 rfl ?_
        refine g_iconst hO 1 d_L_law_409 (by decide) ?_
        refine g_iadd hO d_L_law_410 ?_
        refine h_sx hO hX d_L_law_411 (fun v55 => ?_)
        refine g_aload_n hO d_L_law_412 (by rfl) 0 rfl ?_
        refine g_iload_n hO d_L_law_413 (by rfl) 3 rfl ?_
        refine g_iconst hO 2 d_L_law_414 (by decide) ?_
        refine g_iadd hO d_L_law_415 ?_
        refine h_sx hO hX d_L_law_416 (fun v56 => ?_)
        refine g_aload_n hO d_L_law_417 (by rfl) 0 rfl ?_
        refine g_iload_n hO d_L_law_418 (by rfl) 3 rfl ?_
        refine g_iconst hO 3 d_L_law_419 (by decide) ?_
        refine g_iadd hO d_L_law_420 ?_
        refine h_sx hO hX d_L_law_421 (fun v57 => ?_)
        refine g_aload_n hO d_L_law_422 (by rfl) 0 rfl ?_
        refine g_iload_n hO d_L_law_423 (by rfl) 3 rfl ?_
        refine g_iconst hO 4 d_L_law_424 (by decide) ?_
        refine g_iadd hO d_L_law_425 ?_
        refine h_sx hO hX d_L_law_426 (fun v58 => ?_)
        refine k_virtIp hO cl_X11 mm_X11_under lkV_L_41 ⟨⟨Nat.le_of_ble_eq_true rfl, Nat.le_of_ble_eq_true rfl⟩, Nat.le_of_ble_eq_true rfl, Nat.le_of_ble_eq_true rfl⟩ (kn' := (343, 19442)) rfl (As := [vI v55, vI v56, vI v57, vI v58]) rfl (Nat.le_of_ble_eq_true rfl) (fun o' _ => t_X11_under Γ.2.1 E o' v55 v56 v57 v58 S) d_L_law_427 rfl (fun v59 => ?_)
        refine g_aload_n hO d_L_law_430 (by rfl) 2 rfl ?_
        refine g_aload_n hO d_L_law_431 (by rfl) 0 rfl ?_
        refine g_iload_n hO d_L_law_432 (by rfl) 3 rfl ?_
        refine g_iconst hO 1 d_L_law_433 (by decide) ?_
        refine g_iadd hO d_L_law_434 ?_
        refine h_sx hO hX d_L_law_435 (fun v61 => ?_)
        refine g_aload_n hO d_L_law_436 (by rfl) 0 rfl ?_
        refine g_iload_n hO d_L_law_437 (by rfl) 3 rfl ?_
        refine g_iconst hO 2 d_L_law_438 (by decide) ?_
        refine g_iadd hO d_L_law_439 ?_
        refine h_sx hO hX d_L_law_440 (fun v62 => ?_)
        refine g_aload_n hO d_L_law_441 (by rfl) 0 rfl ?_
        refine g_iload_n hO d_L_law_442 (by rfl) 3 rfl ?_
        refine g_iconst hO 3 d_L_law_443 (by decide) ?_
        refine g_iadd hO d_L_law_444 ?_
        refine h_sx hO hX d_L_law_445 (fun v63 => ?_)
        refine g_aload_n hO d_L_law_446 (by rfl) 0 rfl ?_
        refine g_iload_n hO d_L_law_447 (by rfl) 3 rfl ?_
        refine g_iconst hO 4 d_L_law_448 (by decide) ?_
        refine g_iadd hO d_L_law_449 ?_
        refine h_sx hO hX d_L_law_450 (fun v64 => ?_)
        refine k_virtIs hO cl_X12 mm_X12_under lkV_L_45 ⟨⟨Nat.le_of_ble_eq_true rfl, Nat.le_of_ble_eq_true rfl⟩, Nat.le_of_ble_eq_true rfl, Nat.le_of_ble_eq_true rfl⟩ (kn' := (343, 19442)) rfl (As := [vI v61, vI v62, vI v63, vI v64]) rfl (Nat.le_of_ble_eq_true rfl) (fun o' _ => t_X12_under Γ.2.1 E o' v61 v62 v63 v64 S) d_L_law_451 rfl (fun v65 S66 => ?_)
        refine g_ic_eq (tgt := 1814) hO d_L_law_454.1 d_L_law_454.2 (fun _ => ?_) (fun _ => ?_)
        · skip
          exact g_sub [0, 1, 2, 3] rfl (w_L_law_1814 hO L xs hX ih _ _ _ _)
        · skip
          refine g_iconst hO 0 d_L_law_457 (by decide) ?_
          exact g_none
      · skip
        refine g_aload_n hO d_L_law_459 (by rfl) 1 rfl ?_
        refine g_aload_n hO d_L_law_460 (by rfl) 0 rfl ?_
        refine g_iload_n hO d_L_law_461 (by rfl) 3 rfl ?_
        refine g_iconst hO 1 d_L_law_462 (by decide) ?_
        refine g_iadd hO d_L_law_463 ?_
        refine h_sx hO hX d_L_law_464 (fun v67 => ?_)
        refine g_aload_n hO d_L_law_465 (by rfl) 0 rfl ?_
        refine g_iload_n hO d_L_law_466 (by rfl) 3 rfl ?_
        refine g_iconst hO 2 d_L_law_467 (by decide) ?_
        refine g_iadd hO d_L_law_468 ?_
        refine h_sx hO hX d_L_law_469 (fun v68 => ?_)
        refine g_aload_n hO d_L_law_470 (by rfl) 0 rfl ?_
        refine g_iload_n hO d_L_law_471 (by rfl) 3 rfl ?_
        refine g_iconst hO 3 d_L_law_472 (by decide) ?_
        refine g_iadd hO d_L_law_473 ?_
        refine h_sx hO hX d_L_law_474 (fun v69 => ?_)
        refine k_virtIp hO cl_X11 mm_X11_deed lkV_L_46 ⟨⟨Nat.le_of_ble_eq_true rfl, Nat.le_of_ble_eq_true rfl⟩, Nat.le_of_ble_eq_true rfl, Nat.le_of_ble_eq_true rfl⟩ (kn' := (343, 19442)) rfl (As := [vI v67, vI v68, vI v69]) rfl (Nat.le_of_ble_eq_true rfl) (fun o' _ => t_X11_deed Γ.2.1 E o' v67 v68 v69 S) d_L_law_475 rfl (fun v70 => ?_)
        refine g_aload_n hO d_L_law_478 (by rfl) 2 rfl ?_
        refine g_aload_n hO d_L_law_479 (by rfl) 0 rfl ?_
        refine g_iload_n hO d_L_law_480 (by rfl) 3 rfl ?_
        refine g_iconst hO 1 d_L_law_481 (by decide) ?_
        refine g_iadd hO d_L_law_482 ?_
        refine h_sx hO hX d_L_law_483 (fun v72 => ?_)
        refine g_aload_n hO d_L_law_484 (by rfl) 0 rfl ?_
        refine g_iload_n hO d_L_law_485 (by rfl) 3 rfl ?_
        refine g_iconst hO 2 d_L_law_486 (by decide) ?_
        refine g_iadd hO d_L_law_487 ?_
        refine h_sx hO hX d_L_law_488 (fun v73 => ?_)
        refine g_aload_n hO d_L_law_489 (by rfl) 0 rfl ?_
        refine g_iload_n hO d_L_law_490 (by rfl) 3 rfl ?_
        refine g_iconst hO 3 d_L_law_491 (by decide) ?_
        refine g_iadd hO d_L_law_492 ?_
        refine h_sx hO hX d_L_law_493 (fun v74 => ?_)
        refine k_virtIs hO cl_X12 mm_X12_deed lkV_L_49 ⟨⟨Nat.le_of_ble_eq_true rfl, Nat.le_of_ble_eq_true rfl⟩, Nat.le_of_ble_eq_true rfl, Nat.le_of_ble_eq_true rfl⟩ (kn' := (343, 19442)) rfl (As := [vI v72, vI v73, vI v74]) rfl (Nat.le_of_ble_eq_true rfl) (fun o' _ => t_X12_deed Γ.2.1 E o' v72 v73 v74 S) d_L_law_494 rfl (fun v75 S76 => ?_)
        refine g_ic_eq (tgt := 1814) hO d_L_law_497.1 d_L_law_497.2 (fun _ => ?_) (fun _ => ?_)
        · skip
          exact g_sub [0, 1, 2, 3] rfl (w_L_law_1814 hO L xs hX ih _ _ _ _)
        · skip
          refine g_iconst hO 0 d_L_law_500 (by decide) ?_
          exact g_none
      · skip
        refine g_aload_n hO d_L_law_502 (by rfl) 1 rfl ?_
        refine g_aload_n hO d_L_law_503 (by rfl) 0 rfl ?_
        refine g_iload_n hO d_L_law_504 (by rfl) 3 rfl ?_
        refine g_iconst hO 1 d_L_law_505 (by decide) ?_
        refine g_iadd hO d_L_law_506 ?_
        refine h_sx hO hX d_L_law_507 (fun v77 => ?_)
        refine g_aload_n hO d_L_law_508 (by rfl) 0 rfl ?_
        refine g_iload_n hO d_L_law_509 (by rfl) 3 rfl ?_
        refine g_iconst hO 2 d_L_law_510 (by decide) ?_
        refine g_iadd hO d_L_law_511 ?_
        refine h_sx hO hX d_L_law_512 (fun v78 => ?_)
        refine k_virtIs hO cl_X11 mm_X11_stop lkV_L_50 ⟨⟨Nat.le_of_ble_eq_true rfl, Nat.le_of_ble_eq_true rfl⟩, Nat.le_of_ble_eq_true rfl, Nat.le_of_ble_eq_true rfl⟩ (kn' := (343, 19442)) rfl (As := [vI v77, vI v78]) rfl (Nat.le_of_ble_eq_true rfl) (fun o' _ => t_X11_stop Γ.2.1 E o' v77 v78 S) d_L_law_513 rfl (fun v79 S80 => ?_)
        refine g_aload_n hO d_L_law_516 (by rfl) 2 rfl ?_
        refine g_aload_n hO d_L_law_517 (by rfl) 0 rfl ?_
        refine g_iload_n hO d_L_law_518 (by rfl) 3 rfl ?_
        refine g_iconst hO 1 d_L_law_519 (by decide) ?_
        refine g_iadd hO d_L_law_520 ?_
        refine h_sx hO hX d_L_law_521 (fun v81 => ?_)
        refine g_aload_n hO d_L_law_522 (by rfl) 0 rfl ?_
        refine g_iload_n hO d_L_law_523 (by rfl) 3 rfl ?_
        refine g_iconst hO 2 d_L_law_524 (by decide) ?_
        refine g_iadd hO d_L_law_525 ?_
        refine h_sx hO hX d_L_law_526 (fun v82 => ?_)
        refine k_virtIs hO cl_X12 mm_X12_stop lkV_L_53 ⟨⟨Nat.le_of_ble_eq_true rfl, Nat.le_of_ble_eq_true rfl⟩, Nat.le_of_ble_eq_true rfl, Nat.le_of_ble_eq_true rfl⟩ (kn' := (343, 19442)) rfl (As := [vI v81, vI v82]) rfl (Nat.le_of_ble_eq_true rfl) (fun o' _ => t_X12_stop Γ.2.1 E o' v81 v82 S80) d_L_law_527 rfl (fun v83 S84 => ?_)
        refine g_ic_eq (tgt := 1814) hO d_L_law_530.1 d_L_law_530.2 (fun _ => ?_) (fun _ => ?_)
        · skip
          exact g_sub [0, 1, 2, 3] rfl (w_L_law_1814 hO L xs hX ih _ _ _ _)
        · skip
          refine g_iconst hO 0 d_L_law_533 (by decide) ?_
          exact g_none
      · skip
        refine g_aload_n hO d_L_law_535 (by rfl) 1 rfl ?_
        refine g_aload_n hO d_L_law_536 (by rfl) 0 rfl ?_
        refine g_iload_n hO d_L_law_537 (by rfl) 3 rfl ?_
        refine g_iconst hO 1 d_L_law_538 (by decide) ?_
        refine g_iadd hO d_L_law_539 ?_
        refine h_sx hO hX d_L_law_540 (fun v85 => ?_)
        refine g_aload_n hO d_L_law_541 (by rfl) 0 rfl ?_
        refine g_iload_n hO d_L_law_542 (by rfl) 3 rfl ?_
        refine g_iconst hO 2 d_L_law_543 (by decide) ?_
        refine g_iadd hO d_L_law_544 ?_
        refine h_sx hO hX d_L_law_545 (fun v86 => ?_)
        refine g_aload_n hO d_L_law_546 (by rfl) 0 rfl ?_
        refine g_iload_n hO d_L_law_547 (by rfl) 3 rfl ?_
        refine g_iconst hO 3 d_L_law_548 (by decide) ?_
        refine g_iadd hO d_L_law_549 ?_
        refine h_sx hO hX d_L_law_550 (fun v87 => ?_)
        refine g_aload_n hO d_L_law_551 (by rfl) 0 rfl ?_
        refine g_iload_n hO d_L_law_552 (by rfl) 3 rfl ?_
        refine g_iconst hO 4 d_L_law_553 (by decide) ?_
        refine g_iadd hO d_L_law_554 ?_
        refine h_sx hO hX d_L_law_555 (fun v88 => ?_)
        refine k_virtIs hO cl_X11 mm_X11_state lkV_L_54 ⟨⟨Nat.le_of_ble_eq_true rfl, Nat.le_of_ble_eq_true rfl⟩, Nat.le_of_ble_eq_true rfl, Nat.le_of_ble_eq_true rfl⟩ (kn' := (343, 19442)) rfl (As := [vI v85, vI v86, vI v87, vI v88]) rfl (Nat.le_of_ble_eq_true rfl) (fun o' _ => t_X11_state Γ.2.1 E o' v85 v86 v87 v88 S) d_L_law_556 rfl (fun v89 S90 => ?_)
        refine g_aload_n hO d_L_law_559 (by rfl) 2 rfl ?_
        refine g_aload_n hO d_L_law_560 (by rfl) 0 rfl ?_
        refine g_iload_n hO d_L_law_561 (by rfl) 3 rfl ?_
        refine g_iconst hO 1 d_L_law_562 (by decide) ?_
        refine g_iadd hO d_L_law_563 ?_
        refine h_sx hO hX d_L_law_564 (fun v91 => ?_)
        refine g_aload_n hO d_L_law_565 (by rfl) 0 rfl ?_
        refine g_iload_n hO d_L_law_566 (by rfl) 3 rfl ?_
        refine g_iconst hO 2 d_L_law_567 (by decide) ?_
        refine g_iadd hO d_L_law_568 ?_
        refine h_sx hO hX d_L_law_569 (fun v92 => ?_)
        refine g_aload_n hO d_L_law_570 (by rfl) 0 rfl ?_
        refine g_iload_n hO d_L_law_571 (by rfl) 3 rfl ?_
        refine g_iconst hO 3 d_L_law_572 (by decide) ?_
        refine g_iadd hO d_L_law_573 ?_
        refine h_sx hO hX d_L_law_574 (fun v93 => ?_)
        refine g_aload_n hO d_L_law_575 (by rfl) 0 rfl ?_
        refine g_iload_n hO d_L_law_576 (by rfl) 3 rfl ?_
        refine g_iconst hO 4 d_L_law_577 (by decide) ?_
        refine g_iadd hO d_L_law_578 ?_
        refine h_sx hO hX d_L_law_579 (fun v94 => ?_)
        refine k_virtIs hO cl_X12 mm_X12_state lkV_L_57 ⟨⟨Nat.le_of_ble_eq_true rfl, Nat.le_of_ble_eq_true rfl⟩, Nat.le_of_ble_eq_true rfl, Nat.le_of_ble_eq_true rfl⟩ (kn' := (343, 19442)) rfl (As := [vI v91, vI v92, vI v93, vI v94]) rfl (Nat.le_of_ble_eq_true rfl) (fun o' _ => t_X12_state Γ.2.1 E o' v91 v92 v93 v94 S90) d_L_law_580 rfl (fun v95 S96 => ?_)
        refine g_ic_eq (tgt := 1814) hO d_L_law_583.1 d_L_law_583.2 (fun _ => ?_) (fun _ => ?_)
        · skip
          exact g_sub [0, 1, 2, 3] rfl (w_L_law_1814 hO L xs hX ih _ _ _ _)
        · skip
          refine g_iconst hO 0 d_L_law_586 (by decide) ?_
          exact g_none
      · skip
        refine g_aload_n hO d_L_law_588 (by rfl) 1 rfl ?_
        refine g_aload_n hO d_L_law_589 (by rfl) 0 rfl ?_
        refine g_iload_n hO d_L_law_590 (by rfl) 3 rfl ?_
        refine g_iconst hO 1 d_L_law_591 (by decide) ?_
        refine g_iadd hO d_L_law_592 ?_
        refine h_sx hO hX d_L_law_593 (fun v97 => ?_)
        refine g_aload_n hO d_L_law_594 (by rfl) 0 rfl ?_
        refine g_iload_n hO d_L_law_595 (by rfl) 3 rfl ?_
        refine g_iconst hO 2 d_L_law_596 (by decide) ?_
        refine g_iadd hO d_L_law_597 ?_
        refine h_sx hO hX d_L_law_598 (fun v98 => ?_)
        refine g_aload_n hO d_L_law_599 (by rfl) 0 rfl ?_
        refine g_iload_n hO d_L_law_600 (by rfl) 3 rfl ?_
        refine g_iconst hO 3 d_L_law_601 (by decide) ?_
        refine g_iadd hO d_L_law_602 ?_
        refine h_sx hO hX d_L_law_603 (fun v99 => ?_)
        refine g_aload_n hO d_L_law_604 (by rfl) 0 rfl ?_
        refine g_iload_n hO d_L_law_605 (by rfl) 3 rfl ?_
        refine g_iconst hO 4 d_L_law_606 (by decide) ?_
        refine g_iadd hO d_L_law_607 ?_
        refine h_sx hO hX d_L_law_608 (fun v100 => ?_)
        refine g_aload_n hO d_L_law_609 (by rfl) 0 rfl ?_
        refine g_iload_n hO d_L_law_610 (by rfl) 3 rfl ?_
        refine g_iconst hO 5 d_L_law_611 (by decide) ?_
        refine g_iadd hO d_L_law_612 ?_
        refine h_sx hO hX d_L_law_613 (fun v101 => ?_)
        refine k_virtIs hO cl_X11 mm_X11_of lkV_L_58 ⟨⟨Nat.le_of_ble_eq_true rfl, Nat.le_of_ble_eq_true rfl⟩, Nat.le_of_ble_eq_true rfl, Nat.le_of_ble_eq_true rfl⟩ (kn' := (343, 19442)) rfl (As := [vI v97, vI v98, vI v99, vI v100, vI v101]) rfl (Nat.le_of_ble_eq_true rfl) (fun o' _ => t_X11_of Γ.2.1 E o' v97 v98 v99 v100 v101 S) d_L_law_614 rfl (fun v102 S103 => ?_)
        refine g_aload_n hO d_L_law_617 (by rfl) 2 rfl ?_
        refine g_aload_n hO d_L_law_618 (by rfl) 0 rfl ?_
        refine g_iload_n hO d_L_law_619 (by rfl) 3 rfl ?_
        refine g_iconst hO 1 d_L_law_620 (by decide) ?_
        refine g_iadd hO d_L_law_621 ?_
        refine h_sx hO hX d_L_law_622 (fun v104 => ?_)
        refine g_aload_n hO d_L_law_623 (by rfl) 0 rfl ?_
        refine g_iload_n hO d_L_law_624 (by rfl) 3 rfl ?_
        refine g_iconst hO 2 d_L_law_625 (by decide) ?_
        refine g_iadd hO d_L_law_626 ?_
        refine h_sx hO hX d_L_law_627 (fun v105 => ?_)
        refine g_aload_n hO d_L_law_628 (by rfl) 0 rfl ?_
        refine g_iload_n hO d_L_law_629 (by rfl) 3 rfl ?_
        refine g_iconst hO 3 d_L_law_630 (by decide) ?_
        refine g_iadd hO d_L_law_631 ?_
        refine h_sx hO hX d_L_law_632 (fun v106 => ?_)
        refine g_aload_n hO d_L_law_633 (by rfl) 0 rfl ?_
        refine g_iload_n hO d_L_law_634 (by rfl) 3 rfl ?_
        refine g_iconst hO 4 d_L_law_635 (by decide) ?_
        refine g_iadd hO d_L_law_636 ?_
        refine h_sx hO hX d_L_law_637 (fun v107 => ?_)
        refine g_aload_n hO d_L_law_638 (by rfl) 0 rfl ?_
        refine g_iload_n hO d_L_law_639 (by rfl) 3 rfl ?_
        refine g_iconst hO 5 d_L_law_640 (by decide) ?_
        refine g_iadd hO d_L_law_641 ?_
        refine h_sx hO hX d_L_law_642 (fun v108 => ?_)
        refine k_virtIs hO cl_X12 mm_X12_of lkV_L_61 ⟨⟨Nat.le_of_ble_eq_true rfl, Nat.le_of_ble_eq_true rfl⟩, Nat.le_of_ble_eq_true rfl, Nat.le_of_ble_eq_true rfl⟩ (kn' := (343, 19442)) rfl (As := [vI v104, vI v105, vI v106, vI v107, vI v108]) rfl (Nat.le_of_ble_eq_true rfl) (fun o' _ => t_X12_of Γ.2.1 E o' v104 v105 v106 v107 v108 S103) d_L_law_643 rfl (fun v109 S110 => ?_)
        refine g_ic_eq (tgt := 1814) hO d_L_law_646.1 d_L_law_646.2 (fun _ => ?_) (fun _ => ?_)
        · skip
          exact g_sub [0, 1, 2, 3] rfl (w_L_law_1814 hO L xs hX ih _ _ _ _)
        · skip
          refine g_iconst hO 0 d_L_law_649 (by decide) ?_
          exact g_none
      · skip
        refine g_aload_n hO d_L_law_651 (by rfl) 1 rfl ?_
        refine g_aload_n hO d_L_law_652 (by rfl) 0 rfl ?_
        refine g_iload_n hO d_L_law_653 (by rfl) 3 rfl ?_
        refine g_iconst hO 1 d_L_law_654 (by decide) ?_
        refine g_iadd hO d_L_law_655 ?_
        refine h_sx hO hX d_L_law_656 (fun v111 => ?_)
        refine g_aload_n hO d_L_law_657 (by rfl) 0 rfl ?_
        refine g_iload_n hO d_L_law_658 (by rfl) 3 rfl ?_
        refine g_iconst hO 2 d_L_law_659 (by decide) ?_
        refine g_iadd hO d_L_law_660 ?_
        refine h_sx hO hX d_L_law_661 (fun v112 => ?_)
        refine k_virtIp hO cl_X11 mm_X11_mark lkV_L_62 ⟨⟨Nat.le_of_ble_eq_true rfl, Nat.le_of_ble_eq_true rfl⟩, Nat.le_of_ble_eq_true rfl, Nat.le_of_ble_eq_true rfl⟩ (kn' := (343, 19442)) rfl (As := [vI v111, vI v112]) rfl (Nat.le_of_ble_eq_true rfl) (fun o' _ => t_X11_mark Γ.2.1 E o' v111 v112 S) d_L_law_662 rfl (fun v113 => ?_)
        refine g_aload_n hO d_L_law_665 (by rfl) 2 rfl ?_
        refine g_aload_n hO d_L_law_666 (by rfl) 0 rfl ?_
        refine g_iload_n hO d_L_law_667 (by rfl) 3 rfl ?_
        refine g_iconst hO 1 d_L_law_668 (by decide) ?_
        refine g_iadd hO d_L_law_669 ?_
        refine h_sx hO hX d_L_law_670 (fun v115 => ?_)
        refine g_aload_n hO d_L_law_671 (by rfl) 0 rfl ?_
        refine g_iload_n hO d_L_law_672 (by rfl) 3 rfl ?_
        refine g_iconst hO 2 d_L_law_673 (by decide) ?_
        refine g_iadd hO d_L_law_674 ?_
        refine h_sx hO hX d_L_law_675 (fun v116 => ?_)
        refine k_virtIs hO cl_X12 mm_X12_mark lkV_L_65 ⟨⟨Nat.le_of_ble_eq_true rfl, Nat.le_of_ble_eq_true rfl⟩, Nat.le_of_ble_eq_true rfl, Nat.le_of_ble_eq_true rfl⟩ (kn' := (343, 19442)) rfl (As := [vI v115, vI v116]) rfl (Nat.le_of_ble_eq_true rfl) (fun o' _ => t_X12_mark Γ.2.1 E o' v115 v116 S) d_L_law_676 rfl (fun v117 S118 => ?_)
        refine g_ic_eq (tgt := 1814) hO d_L_law_679.1 d_L_law_679.2 (fun _ => ?_) (fun _ => ?_)
        · skip
          exact g_sub [0, 1, 2, 3] rfl (w_L_law_1814 hO L xs hX ih _ _ _ _)
        · skip
          refine g_iconst hO 0 d_L_law_682 (by decide) ?_
          exact g_none
      · skip
        refine g_aload_n hO d_L_law_684 (by rfl) 1 rfl ?_
        refine g_aload_n hO d_L_law_685 (by rfl) 0 rfl ?_
        refine g_iload_n hO d_L_law_686 (by rfl) 3 rfl ?_
        refine g_iconst hO 1 d_L_law_687 (by decide) ?_
        refine g_iadd hO d_L_law_688 ?_
        refine h_sx hO hX d_L_law_689 (fun v119 => ?_)
        refine g_aload_n hO d_L_law_690 (by rfl) 0 rfl ?_
        refine g_iload_n hO d_L_law_691 (by rfl) 3 rfl ?_
        refine g_iconst hO 2 d_L_law_692 (by decide) ?_
        refine g_iadd hO d_L_law_693 ?_
        refine h_sx hO hX d_L_law_694 (fun v120 => ?_)
        refine g_aload_n hO d_L_law_695 (by rfl) 0 rfl ?_
        refine g_iload_n hO d_L_law_696 (by rfl) 3 rfl ?_
        refine g_iconst hO 3 d_L_law_697 (by decide) ?_
        refine g_iadd hO d_L_law_698 ?_
        refine h_sx hO hX d_L_law_699 (fun v121 => ?_)
        refine k_virtIp hO cl_X11 mm_X11_falls lkV_L_66 ⟨⟨Nat.le_of_ble_eq_true rfl, Nat.le_of_ble_eq_true rfl⟩, Nat.le_of_ble_eq_true rfl, Nat.le_of_ble_eq_true rfl⟩ (kn' := (343, 19442)) rfl (As := [vI v119, vI v120, vI v121]) rfl (Nat.le_of_ble_eq_true rfl) (fun o' _ => t_X11_falls Γ.2.1 E o' v119 v120 v121 S) d_L_law_700 rfl (fun v122 => ?_)
        refine g_aload_n hO d_L_law_703 (by rfl) 2 rfl ?_
        refine g_aload_n hO d_L_law_704 (by rfl) 0 rfl ?_
        refine g_iload_n hO d_L_law_705 (by rfl) 3 rfl ?_
        refine g_iconst hO 1 d_L_law_706 (by decide) ?_
        refine g_iadd hO d_L_law_707 ?_
        refine h_sx hO hX d_L_law_708 (fun v124 => ?_)
        refine g_aload_n hO d_L_law_709 (by rfl) 0 rfl ?_
        refine g_iload_n hO d_L_law_710 (by rfl) 3 rfl ?_
        refine g_iconst hO 2 d_L_law_711 (by decide) ?_
        refine g_iadd hO d_L_law_712 ?_
        refine h_sx hO hX d_L_law_713 (fun v125 => ?_)
        refine g_aload_n hO d_L_law_714 (by rfl) 0 rfl ?_
        refine g_iload_n hO d_L_law_715 (by rfl) 3 rfl ?_
        refine g_iconst hO 3 d_L_law_716 (by decide) ?_
        refine g_iadd hO d_L_law_717 ?_
        refine h_sx hO hX d_L_law_718 (fun v126 => ?_)
        refine k_virtIs hO cl_X12 mm_X12_falls lkV_L_69 ⟨⟨Nat.le_of_ble_eq_true rfl, Nat.le_of_ble_eq_true rfl⟩, Nat.le_of_ble_eq_true rfl, Nat.le_of_ble_eq_true rfl⟩ (kn' := (343, 19442)) rfl (As := [vI v124, vI v125, vI v126]) rfl (Nat.le_of_ble_eq_true rfl) (fun o' _ => t_X12_falls Γ.2.1 E o' v124 v125 v126 S) d_L_law_719 rfl (fun v127 S128 => ?_)
        refine g_ic_eq (tgt := 1814) hO d_L_law_722.1 d_L_law_722.2 (fun _ => ?_) (fun _ => ?_)
        · skip
          exact g_sub [0, 1, 2, 3] rfl (w_L_law_1814 hO L xs hX ih _ _ _ _)
        · skip
          refine g_iconst hO 0 d_L_law_725 (by decide) ?_
          exact g_none
      · skip
        refine g_aload_n hO d_L_law_727 (by rfl) 1 rfl ?_
        refine g_aload_n hO d_L_law_728 (by rfl) 0 rfl ?_
        refine g_iload_n hO d_L_law_729 (by rfl) 3 rfl ?_
        refine g_iconst hO 1 d_L_law_730 (by decide) ?_
        refine g_iadd hO d_L_law_731 ?_
        refine h_sx hO hX d_L_law_732 (fun v129 => ?_)
        refine g_aload_n hO d_L_law_733 (by rfl) 0 rfl ?_
        refine g_iload_n hO d_L_law_734 (by rfl) 3 rfl ?_
        refine g_iconst hO 2 d_L_law_735 (by decide) ?_
        refine g_iadd hO d_L_law_736 ?_
        refine h_sx hO hX d_L_law_737 (fun v130 => ?_)
        refine g_aload_n hO d_L_law_738 (by rfl) 0 rfl ?_
        refine g_iload_n hO d_L_law_739 (by rfl) 3 rfl ?_
        refine g_iconst hO 3 d_L_law_740 (by decide) ?_
        refine g_iadd hO d_L_law_741 ?_
        refine h_sx hO hX d_L_law_742 (fun v131 => ?_)
        refine g_aload_n hO d_L_law_743 (by rfl) 0 rfl ?_
        refine g_iload_n hO d_L_law_744 (by rfl) 3 rfl ?_
        refine g_iconst hO 4 d_L_law_745 (by decide) ?_
        refine g_iadd hO d_L_law_746 ?_
        refine h_sx hO hX d_L_law_747 (fun v132 => ?_)
        refine g_if_eq (tgt := 755) hO d_L_law_748.1 d_L_law_748.2 (fun _ => ?_) (fun _ => ?_)
        · skip
          refine g_iconst hO 0 d_L_law_755 (by decide) ?_
          exact g_sub [0, 1, 2, 3] rfl (w_L_law_756 hO L xs hX ih _ _ _ _ _ _ _ _ _)
        · skip
          refine g_iconst hO 1 d_L_law_751 (by decide) ?_
          refine g_goto (tgt := 756) hO d_L_law_752.1 d_L_law_752.2 ?_
          exact g_sub [0, 1, 2, 3] rfl (w_L_law_756 hO L xs hX ih _ _ _ _ _ _ _ _ _)
      · skip
        refine g_aload_n hO d_L_law_806 (by rfl) 1 rfl ?_
        refine g_aload_n hO d_L_law_807 (by rfl) 0 rfl ?_
        refine g_iload_n hO d_L_law_808 (by rfl) 3 rfl ?_
        refine g_iconst hO 1 d_L_law_809 (by decide) ?_
        refine g_iadd hO d_L_law_810 ?_
        refine h_sx hO hX d_L_law_811 (fun v133 => ?_)
        refine g_aload_n hO d_L_law_812 (by rfl) 0 rfl ?_
        refine g_iload_n hO d_L_law_813 (by rfl) 3 rfl ?_
        refine g_iconst hO 2 d_L_law_814 (by decide) ?_
        refine g_iadd hO d_L_law_815 ?_
        refine h_sx hO hX d_L_law_816 (fun v134 => ?_)
        refine g_aload_n hO d_L_law_817 (by rfl) 0 rfl ?_
        refine g_iload_n hO d_L_law_818 (by rfl) 3 rfl ?_
        refine g_iconst hO 3 d_L_law_819 (by decide) ?_
        refine g_iadd hO d_L_law_820 ?_
        refine h_sx hO hX d_L_law_821 (fun v135 => ?_)
        refine g_aload_n hO d_L_law_822 (by rfl) 0 rfl ?_
        refine g_iload_n hO d_L_law_823 (by rfl) 3 rfl ?_
        refine g_iconst hO 4 d_L_law_824 (by decide) ?_
        refine g_iadd hO d_L_law_825 ?_
        refine h_sx hO hX d_L_law_826 (fun v136 => ?_)
        refine g_if_eq (tgt := 834) hO d_L_law_827.1 d_L_law_827.2 (fun _ => ?_) (fun _ => ?_)
        · skip
          refine g_iconst hO 0 d_L_law_834 (by decide) ?_
          exact g_sub [0, 1, 2, 3] rfl (w_L_law_835 hO L xs hX ih _ _ _ _ _ _ _ _ _)
        · skip
          refine g_iconst hO 1 d_L_law_830 (by decide) ?_
          refine g_goto (tgt := 835) hO d_L_law_831.1 d_L_law_831.2 ?_
          exact g_sub [0, 1, 2, 3] rfl (w_L_law_835 hO L xs hX ih _ _ _ _ _ _ _ _ _)
      · skip
        refine g_aload_n hO d_L_law_901 (by rfl) 1 rfl ?_
        refine g_aload_n hO d_L_law_902 (by rfl) 0 rfl ?_
        refine g_iload_n hO d_L_law_903 (by rfl) 3 rfl ?_
        refine g_iconst hO 1 d_L_law_904 (by decide) ?_
        refine g_iadd hO d_L_law_905 ?_
        refine h_sx hO hX d_L_law_906 (fun v137 => ?_)
        refine g_aload_n hO d_L_law_907 (by rfl) 0 rfl ?_
        refine g_iload_n hO d_L_law_908 (by rfl) 3 rfl ?_
        refine g_iconst hO 2 d_L_law_909 (by decide) ?_
        refine g_iadd hO d_L_law_910 ?_
        refine h_sx hO hX d_L_law_911 (fun v138 => ?_)
        refine k_virtIp hO cl_X11 mm_X11_dance lkV_L_80 ⟨⟨Nat.le_of_ble_eq_true rfl, Nat.le_of_ble_eq_true rfl⟩, Nat.le_of_ble_eq_true rfl, Nat.le_of_ble_eq_true rfl⟩ (kn' := (343, 19442)) rfl (As := [vI v137, vI v138]) rfl (Nat.le_of_ble_eq_true rfl) (fun o' _ => t_X11_dance Γ.2.1 E o' v137 v138 S) d_L_law_912 rfl (fun v139 => ?_)
        refine g_aload_n hO d_L_law_915 (by rfl) 2 rfl ?_
        refine g_aload_n hO d_L_law_916 (by rfl) 0 rfl ?_
        refine g_iload_n hO d_L_law_917 (by rfl) 3 rfl ?_
        refine g_iconst hO 1 d_L_law_918 (by decide) ?_
        refine g_iadd hO d_L_law_919 ?_
        refine h_sx hO hX d_L_law_920 (fun v141 => ?_)
        refine g_aload_n hO d_L_law_921 (by rfl) 0 rfl ?_
        refine g_iload_n hO d_L_law_922 (by rfl) 3 rfl ?_
        refine g_iconst hO 2 d_L_law_923 (by decide) ?_
        refine g_iadd hO d_L_law_924 ?_
        refine h_sx hO hX d_L_law_925 (fun v142 => ?_)
        refine k_virtIs hO cl_X12 mm_X12_dance lkV_L_83 ⟨⟨Nat.le_of_ble_eq_true rfl, Nat.le_of_ble_eq_true rfl⟩, Nat.le_of_ble_eq_true rfl, Nat.le_of_ble_eq_true rfl⟩ (kn' := (343, 19442)) rfl (As := [vI v141, vI v142]) rfl (Nat.le_of_ble_eq_true rfl) (fun o' _ => t_X12_dance Γ.2.1 E o' v141 v142 S) d_L_law_926 rfl (fun v143 S144 => ?_)
        refine g_ic_eq (tgt := 1814) hO d_L_law_929.1 d_L_law_929.2 (fun _ => ?_) (fun _ => ?_)
        · skip
          exact g_sub [0, 1, 2, 3] rfl (w_L_law_1814 hO L xs hX ih _ _ _ _)
        · skip
          refine g_iconst hO 0 d_L_law_932 (by decide) ?_
          exact g_none
      · skip
        refine g_aload_n hO d_L_law_934 (by rfl) 1 rfl ?_
        refine g_aload_n hO d_L_law_935 (by rfl) 0 rfl ?_
        refine g_iload_n hO d_L_law_936 (by rfl) 3 rfl ?_
        refine g_iconst hO 1 d_L_law_937 (by decide) ?_
        refine g_iadd hO d_L_law_938 ?_
        refine h_sx hO hX d_L_law_939 (fun v145 => ?_)
        refine g_aload_n hO d_L_law_940 (by rfl) 0 rfl ?_
        refine g_iload_n hO d_L_law_941 (by rfl) 3 rfl ?_
        refine g_iconst hO 2 d_L_law_942 (by decide) ?_
        refine g_iadd hO d_L_law_943 ?_
        refine h_sx hO hX d_L_law_944 (fun v146 => ?_)
        refine g_aload_n hO d_L_law_945 (by rfl) 0 rfl ?_
        refine g_iload_n hO d_L_law_946 (by rfl) 3 rfl ?_
        refine g_iconst hO 3 d_L_law_947 (by decide) ?_
        refine g_iadd hO d_L_law_948 ?_
        refine h_sx hO hX d_L_law_949 (fun v147 => ?_)
        refine g_aload_n hO d_L_law_950 (by rfl) 0 rfl ?_
        refine g_iload_n hO d_L_law_951 (by rfl) 3 rfl ?_
        refine g_iconst hO 4 d_L_law_952 (by decide) ?_
        refine g_iadd hO d_L_law_953 ?_
        refine h_sx hO hX d_L_law_954 (fun v148 => ?_)
        refine g_if_eq (tgt := 962) hO d_L_law_955.1 d_L_law_955.2 (fun _ => ?_) (fun _ => ?_)
        · skip
          refine g_iconst hO 0 d_L_law_962 (by decide) ?_
          exact g_sub [0, 1, 2, 3] rfl (w_L_law_963 hO L xs hX ih _ _ _ _ _ _ _ _ _)
        · skip
          refine g_iconst hO 1 d_L_law_958 (by decide) ?_
          refine g_goto (tgt := 963) hO d_L_law_959.1 d_L_law_959.2 ?_
          exact g_sub [0, 1, 2, 3] rfl (w_L_law_963 hO L xs hX ih _ _ _ _ _ _ _ _ _)
      · skip
        refine g_aload_n hO d_L_law_1030 (by rfl) 1 rfl ?_
        refine g_aload_n hO d_L_law_1031 (by rfl) 0 rfl ?_
        refine g_iload_n hO d_L_law_1032 (by rfl) 3 rfl ?_
        refine g_iconst hO 1 d_L_law_1033 (by decide) ?_
        refine g_iadd hO d_L_law_1034 ?_
        refine h_sx hO hX d_L_law_1035 (fun v149 => ?_)
        refine g_aload_n hO d_L_law_1036 (by rfl) 0 rfl ?_
        refine g_iload_n hO d_L_law_1037 (by rfl) 3 rfl ?_
        refine g_iconst hO 2 d_L_law_1038 (by decide) ?_
        refine g_iadd hO d_L_law_1039 ?_
        refine h_sx hO hX d_L_law_1040 (fun v150 => ?_)
        refine g_aload_n hO d_L_law_1041 (by rfl) 0 rfl ?_
        refine g_iload_n hO d_L_law_1042 (by rfl) 3 rfl ?_
        refine g_iconst hO 3 d_L_law_1043 (by decide) ?_
        refine g_iadd hO d_L_law_1044 ?_
        refine h_sx hO hX d_L_law_1045 (fun v151 => ?_)
        refine g_aload_n hO d_L_law_1046 (by rfl) 0 rfl ?_
        refine g_iload_n hO d_L_law_1047 (by rfl) 3 rfl ?_
        refine g_iconst hO 4 d_L_law_1048 (by decide) ?_
        refine g_iadd hO d_L_law_1049 ?_
        refine h_sx hO hX d_L_law_1050 (fun v152 => ?_)
        refine g_if_eq (tgt := 1058) hO d_L_law_1051.1 d_L_law_1051.2 (fun _ => ?_) (fun _ => ?_)
        · skip
          refine g_iconst hO 0 d_L_law_1058 (by decide) ?_
          exact g_sub [0, 1, 2, 3] rfl (w_L_law_1059 hO L xs hX ih _ _ _ _ _ _ _ _ _)
        · skip
          refine g_iconst hO 1 d_L_law_1054 (by decide) ?_
          refine g_goto (tgt := 1059) hO d_L_law_1055.1 d_L_law_1055.2 ?_
          exact g_sub [0, 1, 2, 3] rfl (w_L_law_1059 hO L xs hX ih _ _ _ _ _ _ _ _ _)
      · skip
        refine g_aload_n hO d_L_law_1100 (by rfl) 1 rfl ?_
        refine g_aload_n hO d_L_law_1101 (by rfl) 0 rfl ?_
        refine g_iload_n hO d_L_law_1102 (by rfl) 3 rfl ?_
        refine g_iconst hO 1 d_L_law_1103 (by decide) ?_
        refine g_iadd hO d_L_law_1104 ?_
        refine h_sx hO hX d_L_law_1105 (fun v153 => ?_)
        refine g_aload_n hO d_L_law_1106 (by rfl) 0 rfl ?_
        refine g_iload_n hO d_L_law_1107 (by rfl) 3 rfl ?_
        refine g_iconst hO 2 d_L_law_1108 (by decide) ?_
        refine g_iadd hO d_L_law_1109 ?_
        refine h_sx hO hX d_L_law_1110 (fun v154 => ?_)
        refine g_aload_n hO d_L_law_1111 (by rfl) 0 rfl ?_
        refine g_iload_n hO d_L_law_1112 (by rfl) 3 rfl ?_
        refine g_iconst hO 3 d_L_law_1113 (by decide) ?_
        refine g_iadd hO d_L_law_1114 ?_
        refine h_sx hO hX d_L_law_1115 (fun v155 => ?_)
        refine g_aload_n hO d_L_law_1116 (by rfl) 0 rfl ?_
        refine g_iload_n hO d_L_law_1117 (by rfl) 3 rfl ?_
        refine g_iconst hO 4 d_L_law_1118 (by decide) ?_
        refine g_iadd hO d_L_law_1119 ?_
        refine h_sx hO hX d_L_law_1120 (fun v156 => ?_)
        refine k_virtIs hO cl_X11 mm_X11_worth lkV_L_94 ⟨⟨Nat.le_of_ble_eq_true rfl, Nat.le_of_ble_eq_true rfl⟩, Nat.le_of_ble_eq_true rfl, Nat.le_of_ble_eq_true rfl⟩ (kn' := (343, 19442)) rfl (As := [vI v153, vI v154, vI v155, vI v156]) rfl (Nat.le_of_ble_eq_true rfl) (fun o' _ => t_X11_worth Γ.2.1 E o' v153 v154 v155 v156 S) d_L_law_1121 rfl (fun v157 S158 => ?_)
        refine g_aload_n hO d_L_law_1124 (by rfl) 2 rfl ?_
        refine g_aload_n hO d_L_law_1125 (by rfl) 0 rfl ?_
        refine g_iload_n hO d_L_law_1126 (by rfl) 3 rfl ?_
        refine g_iconst hO 1 d_L_law_1127 (by decide) ?_
        refine g_iadd hO d_L_law_1128 ?_
        refine h_sx hO hX d_L_law_1129 (fun v159 => ?_)
        refine g_aload_n hO d_L_law_1130 (by rfl) 0 rfl ?_
        refine g_iload_n hO d_L_law_1131 (by rfl) 3 rfl ?_
        refine g_iconst hO 2 d_L_law_1132 (by decide) ?_
        refine g_iadd hO d_L_law_1133 ?_
        refine h_sx hO hX d_L_law_1134 (fun v160 => ?_)
        refine g_aload_n hO d_L_law_1135 (by rfl) 0 rfl ?_
        refine g_iload_n hO d_L_law_1136 (by rfl) 3 rfl ?_
        refine g_iconst hO 3 d_L_law_1137 (by decide) ?_
        refine g_iadd hO d_L_law_1138 ?_
        refine h_sx hO hX d_L_law_1139 (fun v161 => ?_)
        refine g_aload_n hO d_L_law_1140 (by rfl) 0 rfl ?_
        refine g_iload_n hO d_L_law_1141 (by rfl) 3 rfl ?_
        refine g_iconst hO 4 d_L_law_1142 (by decide) ?_
        refine g_iadd hO d_L_law_1143 ?_
        refine h_sx hO hX d_L_law_1144 (fun v162 => ?_)
        refine k_virtIs hO cl_X12 mm_X12_worth lkV_L_97 ⟨⟨Nat.le_of_ble_eq_true rfl, Nat.le_of_ble_eq_true rfl⟩, Nat.le_of_ble_eq_true rfl, Nat.le_of_ble_eq_true rfl⟩ (kn' := (343, 19442)) rfl (As := [vI v159, vI v160, vI v161, vI v162]) rfl (Nat.le_of_ble_eq_true rfl) (fun o' _ => t_X12_worth Γ.2.1 E o' v159 v160 v161 v162 S158) d_L_law_1145 rfl (fun v163 S164 => ?_)
        refine g_ic_eq (tgt := 1814) hO d_L_law_1148.1 d_L_law_1148.2 (fun _ => ?_) (fun _ => ?_)
        · skip
          exact g_sub [0, 1, 2, 3] rfl (w_L_law_1814 hO L xs hX ih _ _ _ _)
        · skip
          refine g_iconst hO 0 d_L_law_1151 (by decide) ?_
          exact g_none
      · skip
        refine g_aload_n hO d_L_law_1153 (by rfl) 1 rfl ?_
        refine g_aload_n hO d_L_law_1154 (by rfl) 0 rfl ?_
        refine g_iload_n hO d_L_law_1155 (by rfl) 3 rfl ?_
        refine g_iconst hO 1 d_L_law_1156 (by decide) ?_
        refine g_iadd hO d_L_law_1157 ?_
        refine h_sx hO hX d_L_law_1158 (fun v165 => ?_)
        refine g_aload_n hO d_L_law_1159 (by rfl) 0 rfl ?_
        refine g_iload_n hO d_L_law_1160 (by rfl) 3 rfl ?_
        refine g_iconst hO 2 d_L_law_1161 (by decide) ?_
        refine g_iadd hO d_L_law_1162 ?_
        refine h_sx hO hX d_L_law_1163 (fun v166 => ?_)
        refine k_virtIp hO cl_X11 mm_X11_sight lkV_L_98 ⟨⟨Nat.le_of_ble_eq_true rfl, Nat.le_of_ble_eq_true rfl⟩, Nat.le_of_ble_eq_true rfl, Nat.le_of_ble_eq_true rfl⟩ (kn' := (343, 19442)) rfl (As := [vI v165, vI v166]) rfl (Nat.le_of_ble_eq_true rfl) (fun o' _ => t_X11_sight Γ.2.1 E o' v165 v166 S) d_L_law_1164 rfl (fun v167 => ?_)
        refine g_aload_n hO d_L_law_1167 (by rfl) 2 rfl ?_
        refine g_aload_n hO d_L_law_1168 (by rfl) 0 rfl ?_
        refine g_iload_n hO d_L_law_1169 (by rfl) 3 rfl ?_
        refine g_iconst hO 1 d_L_law_1170 (by decide) ?_
        refine g_iadd hO d_L_law_1171 ?_
        refine h_sx hO hX d_L_law_1172 (fun v169 => ?_)
        refine g_aload_n hO d_L_law_1173 (by rfl) 0 rfl ?_
        refine g_iload_n hO d_L_law_1174 (by rfl) 3 rfl ?_
        refine g_iconst hO 2 d_L_law_1175 (by decide) ?_
        refine g_iadd hO d_L_law_1176 ?_
        refine h_sx hO hX d_L_law_1177 (fun v170 => ?_)
        refine k_virtIs hO cl_X12 mm_X12_sight lkV_L_101 ⟨⟨Nat.le_of_ble_eq_true rfl, Nat.le_of_ble_eq_true rfl⟩, Nat.le_of_ble_eq_true rfl, Nat.le_of_ble_eq_true rfl⟩ (kn' := (343, 19442)) rfl (As := [vI v169, vI v170]) rfl (Nat.le_of_ble_eq_true rfl) (fun o' _ => t_X12_sight Γ.2.1 E o' v169 v170 S) d_L_law_1178 rfl (fun v171 S172 => ?_)
        refine g_ic_eq (tgt := 1814) hO d_L_law_1181.1 d_L_law_1181.2 (fun _ => ?_) (fun _ => ?_)
        · skip
          exact g_sub [0, 1, 2, 3] rfl (w_L_law_1814 hO L xs hX ih _ _ _ _)
        · skip
          refine g_iconst hO 0 d_L_law_1184 (by decide) ?_
          exact g_none
      · skip
        refine g_aload_n hO d_L_law_1186 (by rfl) 1 rfl ?_
        refine g_aload_n hO d_L_law_1187 (by rfl) 0 rfl ?_
        refine g_iload_n hO d_L_law_1188 (by rfl) 3 rfl ?_
        refine g_iconst hO 1 d_L_law_1189 (by decide) ?_
        refine g_iadd hO d_L_law_1190 ?_
        refine h_sx hO hX d_L_law_1191 (fun v173 => ?_)
        refine g_aload_n hO d_L_law_1192 (by rfl) 0 rfl ?_
        refine g_iload_n hO d_L_law_1193 (by rfl) 3 rfl ?_
        refine g_iconst hO 2 d_L_law_1194 (by decide) ?_
        refine g_iadd hO d_L_law_1195 ?_
        refine h_sx hO hX d_L_law_1196 (fun v174 => ?_)
        refine k_virtJs hO cl_X11 mm_X11_ways lkV_L_102 ⟨⟨Nat.le_of_ble_eq_true rfl, Nat.le_of_ble_eq_true rfl⟩, Nat.le_of_ble_eq_true rfl, Nat.le_of_ble_eq_true rfl⟩ (kn' := (343, 19442)) rfl (As := [vI v173, vI v174]) rfl (Nat.le_of_ble_eq_true rfl) (fun o' _ => t_X11_ways Γ.2.1 E o' v173 v174 S) d_L_law_1197 rfl (fun v175 S176 => ?_)
        refine g_aload_n hO d_L_law_1200 (by rfl) 2 rfl ?_
        refine g_aload_n hO d_L_law_1201 (by rfl) 0 rfl ?_
        refine g_iload_n hO d_L_law_1202 (by rfl) 3 rfl ?_
        refine g_iconst hO 1 d_L_law_1203 (by decide) ?_
        refine g_iadd hO d_L_law_1204 ?_
        refine h_sx hO hX d_L_law_1205 (fun v177 => ?_)
        refine g_aload_n hO d_L_law_1206 (by rfl) 0 rfl ?_
        refine g_iload_n hO d_L_law_1207 (by rfl) 3 rfl ?_
        refine g_iconst hO 2 d_L_law_1208 (by decide) ?_
        refine g_iadd hO d_L_law_1209 ?_
        refine h_sx hO hX d_L_law_1210 (fun v178 => ?_)
        refine k_virtJs hO cl_X12 mm_X12_ways lkV_L_106 ⟨⟨Nat.le_of_ble_eq_true rfl, Nat.le_of_ble_eq_true rfl⟩, Nat.le_of_ble_eq_true rfl, Nat.le_of_ble_eq_true rfl⟩ (kn' := (343, 19442)) rfl (As := [vI v177, vI v178]) rfl (Nat.le_of_ble_eq_true rfl) (fun o' _ => t_X12_ways Γ.2.1 E o' v177 v178 S176) d_L_law_1211 rfl (fun v179 S180 => ?_)
        refine g_lcmp hO d_L_law_1214 ?_
        refine g_if_eq (tgt := 1814) hO d_L_law_1215.1 d_L_law_1215.2 (fun _ => ?_) (fun _ => ?_)
        · skip
          exact g_sub [0, 1, 2, 3] rfl (w_L_law_1814 hO L xs hX ih _ _ _ _)
        · skip
          refine g_iconst hO 0 d_L_law_1218 (by decide) ?_
          exact g_none
      · skip
        refine g_aload_n hO d_L_law_1220 (by rfl) 1 rfl ?_
        refine g_aload_n hO d_L_law_1221 (by rfl) 0 rfl ?_
        refine g_iload_n hO d_L_law_1222 (by rfl) 3 rfl ?_
        refine g_iconst hO 1 d_L_law_1223 (by decide) ?_
        refine g_iadd hO d_L_law_1224 ?_
        refine h_sx hO hX d_L_law_1225 (fun v181 => ?_)
        refine g_aload_n hO d_L_law_1226 (by rfl) 0 rfl ?_
        refine g_iload_n hO d_L_law_1227 (by rfl) 3 rfl ?_
        refine g_iconst hO 2 d_L_law_1228 (by decide) ?_
        refine g_iadd hO d_L_law_1229 ?_
        refine h_sx hO hX d_L_law_1230 (fun v182 => ?_)
        refine g_aload_n hO d_L_law_1231 (by rfl) 0 rfl ?_
        refine g_iload_n hO d_L_law_1232 (by rfl) 3 rfl ?_
        refine g_iconst hO 3 d_L_law_1233 (by decide) ?_
        refine g_iadd hO d_L_law_1234 ?_
        refine h_sx hO hX d_L_law_1235 (fun v183 => ?_)
        refine g_aload_n hO d_L_law_1236 (by rfl) 0 rfl ?_
        refine g_iload_n hO d_L_law_1237 (by rfl) 3 rfl ?_
        refine g_iconst hO 4 d_L_law_1238 (by decide) ?_
        refine g_iadd hO d_L_law_1239 ?_
        refine h_sx hO hX d_L_law_1240 (fun v184 => ?_)
        refine k_virtIs hO cl_X11 mm_X11_may lkV_L_107 ⟨⟨Nat.le_of_ble_eq_true rfl, Nat.le_of_ble_eq_true rfl⟩, Nat.le_of_ble_eq_true rfl, Nat.le_of_ble_eq_true rfl⟩ (kn' := (343, 19442)) rfl (As := [vI v181, vI v182, vI v183, vI v184]) rfl (Nat.le_of_ble_eq_true rfl) (fun o' _ => t_X11_may Γ.2.1 E o' v181 v182 v183 v184 S) d_L_law_1241 rfl (fun v185 S186 => ?_)
        refine g_aload_n hO d_L_law_1244 (by rfl) 2 rfl ?_
        refine g_aload_n hO d_L_law_1245 (by rfl) 0 rfl ?_
        refine g_iload_n hO d_L_law_1246 (by rfl) 3 rfl ?_
        refine g_iconst hO 1 d_L_law_1247 (by decide) ?_
        refine g_iadd hO d_L_law_1248 ?_
        refine h_sx hO hX d_L_law_1249 (fun v187 => ?_)
        refine g_aload_n hO d_L_law_1250 (by rfl) 0 rfl ?_
        refine g_iload_n hO d_L_law_1251 (by rfl) 3 rfl ?_
        refine g_iconst hO 2 d_L_law_1252 (by decide) ?_
        refine g_iadd hO d_L_law_1253 ?_
        refine h_sx hO hX d_L_law_1254 (fun v188 => ?_)
        refine g_aload_n hO d_L_law_1255 (by rfl) 0 rfl ?_
        refine g_iload_n hO d_L_law_1256 (by rfl) 3 rfl ?_
        refine g_iconst hO 3 d_L_law_1257 (by decide) ?_
        refine g_iadd hO d_L_law_1258 ?_
        refine h_sx hO hX d_L_law_1259 (fun v189 => ?_)
        refine g_aload_n hO d_L_law_1260 (by rfl) 0 rfl ?_
        refine g_iload_n hO d_L_law_1261 (by rfl) 3 rfl ?_
        refine g_iconst hO 4 d_L_law_1262 (by decide) ?_
        refine g_iadd hO d_L_law_1263 ?_
        refine h_sx hO hX d_L_law_1264 (fun v190 => ?_)
        refine k_virtIs hO cl_X12 mm_X12_may lkV_L_110 ⟨⟨Nat.le_of_ble_eq_true rfl, Nat.le_of_ble_eq_true rfl⟩, Nat.le_of_ble_eq_true rfl, Nat.le_of_ble_eq_true rfl⟩ (kn' := (343, 19442)) rfl (As := [vI v187, vI v188, vI v189, vI v190]) rfl (Nat.le_of_ble_eq_true rfl) (fun o' _ => t_X12_may Γ.2.1 E o' v187 v188 v189 v190 S186) d_L_law_1265 rfl (fun v191 S192 => ?_)
        refine g_ic_eq (tgt := 1814) hO d_L_law_1268.1 d_L_law_1268.2 (fun _ => ?_) (fun _ => ?_)
        · skip
          exact g_sub [0, 1, 2, 3] rfl (w_L_law_1814 hO L xs hX ih _ _ _ _)
        · skip
          refine g_iconst hO 0 d_L_law_1271 (by decide) ?_
          exact g_none
      · skip
        refine g_aload_n hO d_L_law_1273 (by rfl) 1 rfl ?_
        refine g_aload_n hO d_L_law_1274 (by rfl) 0 rfl ?_
        refine g_iload_n hO d_L_law_1275 (by rfl) 3 rfl ?_
        refine g_iconst hO 1 d_L_law_1276 (by decide) ?_
        refine g_iadd hO d_L_law_1277 ?_
        refine h_sx hO hX d_L_law_1278 (fun v193 => ?_)
        refine g_aload_n hO d_L_law_1279 (by rfl) 0 rfl ?_
        refine g_iload_n hO d_L_law_1280 (by rfl) 3 rfl ?_
        refine g_iconst hO 2 d_L_law_1281 (by decide) ?_
        refine g_iadd hO d_L_law_1282 ?_
        refine h_sx hO hX d_L_law_1283 (fun v194 => ?_)
        refine g_aload_n hO d_L_law_1284 (by rfl) 0 rfl ?_
        refine g_iload_n hO d_L_law_1285 (by rfl) 3 rfl ?_
        refine g_iconst hO 3 d_L_law_1286 (by decide) ?_
        refine g_iadd hO d_L_law_1287 ?_
        refine h_sx hO hX d_L_law_1288 (fun v195 => ?_)
        refine k_virtIp hO cl_X11 mm_X11_spy lkV_L_111 ⟨⟨Nat.le_of_ble_eq_true rfl, Nat.le_of_ble_eq_true rfl⟩, Nat.le_of_ble_eq_true rfl, Nat.le_of_ble_eq_true rfl⟩ (kn' := (343, 19442)) rfl (As := [vI v193, vI v194, vI v195]) rfl (Nat.le_of_ble_eq_true rfl) (fun o' _ => t_X11_spy Γ.2.1 E o' v193 v194 v195 S) d_L_law_1289 rfl (fun v196 => ?_)
        refine g_aload_n hO d_L_law_1292 (by rfl) 2 rfl ?_
        refine g_aload_n hO d_L_law_1293 (by rfl) 0 rfl ?_
        refine g_iload_n hO d_L_law_1294 (by rfl) 3 rfl ?_
        refine g_iconst hO 1 d_L_law_1295 (by decide) ?_
        refine g_iadd hO d_L_law_1296 ?_
        refine h_sx hO hX d_L_law_1297 (fun v198 => ?_)
        refine g_aload_n hO d_L_law_1298 (by rfl) 0 rfl ?_
        refine g_iload_n hO d_L_law_1299 (by rfl) 3 rfl ?_
        refine g_iconst hO 2 d_L_law_1300 (by decide) ?_
        refine g_iadd hO d_L_law_1301 ?_
        refine h_sx hO hX d_L_law_1302 (fun v199 => ?_)
        refine g_aload_n hO d_L_law_1303 (by rfl) 0 rfl ?_
        refine g_iload_n hO d_L_law_1304 (by rfl) 3 rfl ?_
        refine g_iconst hO 3 d_L_law_1305 (by decide) ?_
        refine g_iadd hO d_L_law_1306 ?_
        refine h_sx hO hX d_L_law_1307 (fun v200 => ?_)
        refine k_virtIs hO cl_X12 mm_X12_spy lkV_L_114 ⟨⟨Nat.le_of_ble_eq_true rfl, Nat.le_of_ble_eq_true rfl⟩, Nat.le_of_ble_eq_true rfl, Nat.le_of_ble_eq_true rfl⟩ (kn' := (343, 19442)) rfl (As := [vI v198, vI v199, vI v200]) rfl (Nat.le_of_ble_eq_true rfl) (fun o' _ => t_X12_spy Γ.2.1 E o' v198 v199 v200 S) d_L_law_1308 rfl (fun v201 S202 => ?_)
        refine g_ic_eq (tgt := 1814) hO d_L_law_1311.1 d_L_law_1311.2 (fun _ => ?_) (fun _ => ?_)
        · skip
          exact g_sub [0, 1, 2, 3] rfl (w_L_law_1814 hO L xs hX ih _ _ _ _)
        · skip
          refine g_iconst hO 0 d_L_law_1314 (by decide) ?_
          exact g_none
      · skip
        refine g_aload_n hO d_L_law_1316 (by rfl) 1 rfl ?_
        refine g_aload_n hO d_L_law_1317 (by rfl) 0 rfl ?_
        refine g_iload_n hO d_L_law_1318 (by rfl) 3 rfl ?_
        refine g_iconst hO 1 d_L_law_1319 (by decide) ?_
        refine g_iadd hO d_L_law_1320 ?_
        refine h_sx hO hX d_L_law_1321 (fun v203 => ?_)
        refine g_aload_n hO d_L_law_1322 (by rfl) 0 rfl ?_
        refine g_iload_n hO d_L_law_1323 (by rfl) 3 rfl ?_
        refine g_iconst hO 2 d_L_law_1324 (by decide) ?_
        refine g_iadd hO d_L_law_1325 ?_
        refine h_sx hO hX d_L_law_1326 (fun v204 => ?_)
        refine g_aload_n hO d_L_law_1327 (by rfl) 0 rfl ?_
        refine g_iload_n hO d_L_law_1328 (by rfl) 3 rfl ?_
        refine g_iconst hO 3 d_L_law_1329 (by decide) ?_
        refine g_iadd hO d_L_law_1330 ?_
        refine h_sx hO hX d_L_law_1331 (fun v205 => ?_)
        refine k_virtIp hO cl_X11 mm_X11_pawn lkV_L_115 ⟨⟨Nat.le_of_ble_eq_true rfl, Nat.le_of_ble_eq_true rfl⟩, Nat.le_of_ble_eq_true rfl, Nat.le_of_ble_eq_true rfl⟩ (kn' := (343, 19442)) rfl (As := [vI v203, vI v204, vI v205]) rfl (Nat.le_of_ble_eq_true rfl) (fun o' _ => t_X11_pawn Γ.2.1 E o' v203 v204 v205 S) d_L_law_1332 rfl (fun v206 => ?_)
        refine g_aload_n hO d_L_law_1335 (by rfl) 2 rfl ?_
        refine g_aload_n hO d_L_law_1336 (by rfl) 0 rfl ?_
        refine g_iload_n hO d_L_law_1337 (by rfl) 3 rfl ?_
        refine g_iconst hO 1 d_L_law_1338 (by decide) ?_
        refine g_iadd hO d_L_law_1339 ?_
        refine h_sx hO hX d_L_law_1340 (fun v208 => ?_)
        refine g_aload_n hO d_L_law_1341 (by rfl) 0 rfl ?_
        refine g_iload_n hO d_L_law_1342 (by rfl) 3 rfl ?_
        refine g_iconst hO 2 d_L_law_1343 (by decide) ?_
        refine g_iadd hO d_L_law_1344 ?_
        refine h_sx hO hX d_L_law_1345 (fun v209 => ?_)
        refine g_aload_n hO d_L_law_1346 (by rfl) 0 rfl ?_
        refine g_iload_n hO d_L_law_1347 (by rfl) 3 rfl ?_
        refine g_iconst hO 3 d_L_law_1348 (by decide) ?_
        refine g_iadd hO d_L_law_1349 ?_
        refine h_sx hO hX d_L_law_1350 (fun v210 => ?_)
        refine k_virtIs hO cl_X12 mm_X12_pawn lkV_L_118 ⟨⟨Nat.le_of_ble_eq_true rfl, Nat.le_of_ble_eq_true rfl⟩, Nat.le_of_ble_eq_true rfl, Nat.le_of_ble_eq_true rfl⟩ (kn' := (343, 19442)) rfl (As := [vI v208, vI v209, vI v210]) rfl (Nat.le_of_ble_eq_true rfl) (fun o' _ => t_X12_pawn Γ.2.1 E o' v208 v209 v210 S) d_L_law_1351 rfl (fun v211 S212 => ?_)
        refine g_ic_eq (tgt := 1814) hO d_L_law_1354.1 d_L_law_1354.2 (fun _ => ?_) (fun _ => ?_)
        · skip
          exact g_sub [0, 1, 2, 3] rfl (w_L_law_1814 hO L xs hX ih _ _ _ _)
        · skip
          refine g_iconst hO 0 d_L_law_1357 (by decide) ?_
          exact g_none
      · skip
        refine g_aload_n hO d_L_law_1359 (by rfl) 1 rfl ?_
        refine g_aload_n hO d_L_law_1360 (by rfl) 0 rfl ?_
        refine g_iload_n hO d_L_law_1361 (by rfl) 3 rfl ?_
        refine g_iconst hO 1 d_L_law_1362 (by decide) ?_
        refine g_iadd hO d_L_law_1363 ?_
        refine h_sx hO hX d_L_law_1364 (fun v213 => ?_)
        refine g_aload_n hO d_L_law_1365 (by rfl) 0 rfl ?_
        refine g_iload_n hO d_L_law_1366 (by rfl) 3 rfl ?_
        refine g_iconst hO 2 d_L_law_1367 (by decide) ?_
        refine g_iadd hO d_L_law_1368 ?_
        refine h_sx hO hX d_L_law_1369 (fun v214 => ?_)
        refine k_virtIp hO cl_X11 mm_X11_net lkV_L_119 ⟨⟨Nat.le_of_ble_eq_true rfl, Nat.le_of_ble_eq_true rfl⟩, Nat.le_of_ble_eq_true rfl, Nat.le_of_ble_eq_true rfl⟩ (kn' := (343, 19442)) rfl (As := [vI v213, vI v214]) rfl (Nat.le_of_ble_eq_true rfl) (fun o' _ => t_X11_net Γ.2.1 E o' v213 v214 S) d_L_law_1370 rfl (fun v215 => ?_)
        refine g_aload_n hO d_L_law_1373 (by rfl) 2 rfl ?_
        refine g_aload_n hO d_L_law_1374 (by rfl) 0 rfl ?_
        refine g_iload_n hO d_L_law_1375 (by rfl) 3 rfl ?_
        refine g_iconst hO 1 d_L_law_1376 (by decide) ?_
        refine g_iadd hO d_L_law_1377 ?_
        refine h_sx hO hX d_L_law_1378 (fun v217 => ?_)
        refine g_aload_n hO d_L_law_1379 (by rfl) 0 rfl ?_
        refine g_iload_n hO d_L_law_1380 (by rfl) 3 rfl ?_
        refine g_iconst hO 2 d_L_law_1381 (by decide) ?_
        refine g_iadd hO d_L_law_1382 ?_
        refine h_sx hO hX d_L_law_1383 (fun v218 => ?_)
        refine k_virtIs hO cl_X12 mm_X12_net lkV_L_122 ⟨⟨Nat.le_of_ble_eq_true rfl, Nat.le_of_ble_eq_true rfl⟩, Nat.le_of_ble_eq_true rfl, Nat.le_of_ble_eq_true rfl⟩ (kn' := (343, 19442)) rfl (As := [vI v217, vI v218]) rfl (Nat.le_of_ble_eq_true rfl) (fun o' _ => t_X12_net Γ.2.1 E o' v217 v218 S) d_L_law_1384 rfl (fun v219 S220 => ?_)
        refine g_ic_eq (tgt := 1814) hO d_L_law_1387.1 d_L_law_1387.2 (fun _ => ?_) (fun _ => ?_)
        · skip
          exact g_sub [0, 1, 2, 3] rfl (w_L_law_1814 hO L xs hX ih _ _ _ _)
        · skip
          refine g_iconst hO 0 d_L_law_1390 (by decide) ?_
          exact g_none
      · skip
        refine g_aload_n hO d_L_law_1392 (by rfl) 1 rfl ?_
        refine g_aload_n hO d_L_law_1393 (by rfl) 0 rfl ?_
        refine g_iload_n hO d_L_law_1394 (by rfl) 3 rfl ?_
        refine g_iconst hO 1 d_L_law_1395 (by decide) ?_
        refine g_iadd hO d_L_law_1396 ?_
        refine h_sx hO hX d_L_law_1397 (fun v221 => ?_)
        refine g_aload_n hO d_L_law_1398 (by rfl) 0 rfl ?_
        refine g_iload_n hO d_L_law_1399 (by rfl) 3 rfl ?_
        refine g_iconst hO 2 d_L_law_1400 (by decide) ?_
        refine g_iadd hO d_L_law_1401 ?_
        refine h_sx hO hX d_L_law_1402 (fun v222 => ?_)
        refine g_if_eq (tgt := 1410) hO d_L_law_1403.1 d_L_law_1403.2 (fun _ => ?_) (fun _ => ?_)
        · skip
          refine g_iconst hO 0 d_L_law_1410 (by decide) ?_
          exact g_sub [0, 1, 2, 3] rfl (w_L_law_1411 hO L xs hX ih _ _ _ _ _ _ _)
        · skip
          refine g_iconst hO 1 d_L_law_1406 (by decide) ?_
          refine g_goto (tgt := 1411) hO d_L_law_1407.1 d_L_law_1407.2 ?_
          exact g_sub [0, 1, 2, 3] rfl (w_L_law_1411 hO L xs hX ih _ _ _ _ _ _ _)
      · skip
        refine g_aload_n hO d_L_law_1441 (by rfl) 1 rfl ?_
        refine g_aload_n hO d_L_law_1442 (by rfl) 0 rfl ?_
        refine g_iload_n hO d_L_law_1443 (by rfl) 3 rfl ?_
        refine g_iconst hO 1 d_L_law_1444 (by decide) ?_
        refine g_iadd hO d_L_law_1445 ?_
        refine h_sx hO hX d_L_law_1446 (fun v223 => ?_)
        refine g_aload_n hO d_L_law_1447 (by rfl) 0 rfl ?_
        refine g_iload_n hO d_L_law_1448 (by rfl) 3 rfl ?_
        refine g_iconst hO 2 d_L_law_1449 (by decide) ?_
        refine g_iadd hO d_L_law_1450 ?_
        refine h_sx hO hX d_L_law_1451 (fun v224 => ?_)
        refine g_aload_n hO d_L_law_1452 (by rfl) 0 rfl ?_
        refine g_iload_n hO d_L_law_1453 (by rfl) 3 rfl ?_
        refine g_iconst hO 3 d_L_law_1454 (by decide) ?_
        refine g_iadd hO d_L_law_1455 ?_
        refine h_sx hO hX d_L_law_1456 (fun v225 => ?_)
        refine k_virtIp hO cl_X11 mm_X11_maid lkV_L_128 ⟨⟨Nat.le_of_ble_eq_true rfl, Nat.le_of_ble_eq_true rfl⟩, Nat.le_of_ble_eq_true rfl, Nat.le_of_ble_eq_true rfl⟩ (kn' := (343, 19442)) rfl (As := [vI v223, vI v224, vI v225]) rfl (Nat.le_of_ble_eq_true rfl) (fun o' _ => t_X11_maid Γ.2.1 E o' v223 v224 v225 S) d_L_law_1457 rfl (fun v226 => ?_)
        refine g_aload_n hO d_L_law_1460 (by rfl) 2 rfl ?_
        refine g_aload_n hO d_L_law_1461 (by rfl) 0 rfl ?_
        refine g_iload_n hO d_L_law_1462 (by rfl) 3 rfl ?_
        refine g_iconst hO 1 d_L_law_1463 (by decide) ?_
        refine g_iadd hO d_L_law_1464 ?_
        refine h_sx hO hX d_L_law_1465 (fun v228 => ?_)
        refine g_aload_n hO d_L_law_1466 (by rfl) 0 rfl ?_
        refine g_iload_n hO d_L_law_1467 (by rfl) 3 rfl ?_
        refine g_iconst hO 2 d_L_law_1468 (by decide) ?_
        refine g_iadd hO d_L_law_1469 ?_
        refine h_sx hO hX d_L_law_1470 (fun v229 => ?_)
        refine g_aload_n hO d_L_law_1471 (by rfl) 0 rfl ?_
        refine g_iload_n hO d_L_law_1472 (by rfl) 3 rfl ?_
        refine g_iconst hO 3 d_L_law_1473 (by decide) ?_
        refine g_iadd hO d_L_law_1474 ?_
        refine h_sx hO hX d_L_law_1475 (fun v230 => ?_)
        refine k_virtIs hO cl_X12 mm_X12_maid lkV_L_131 ⟨⟨Nat.le_of_ble_eq_true rfl, Nat.le_of_ble_eq_true rfl⟩, Nat.le_of_ble_eq_true rfl, Nat.le_of_ble_eq_true rfl⟩ (kn' := (343, 19442)) rfl (As := [vI v228, vI v229, vI v230]) rfl (Nat.le_of_ble_eq_true rfl) (fun o' _ => t_X12_maid Γ.2.1 E o' v228 v229 v230 S) d_L_law_1476 rfl (fun v231 S232 => ?_)
        refine g_ic_eq (tgt := 1814) hO d_L_law_1479.1 d_L_law_1479.2 (fun _ => ?_) (fun _ => ?_)
        · skip
          exact g_sub [0, 1, 2, 3] rfl (w_L_law_1814 hO L xs hX ih _ _ _ _)
        · skip
          refine g_iconst hO 0 d_L_law_1482 (by decide) ?_
          exact g_none
      · skip
        refine g_aload_n hO d_L_law_1484 (by rfl) 1 rfl ?_
        refine g_aload_n hO d_L_law_1485 (by rfl) 0 rfl ?_
        refine g_iload_n hO d_L_law_1486 (by rfl) 3 rfl ?_
        refine g_iconst hO 1 d_L_law_1487 (by decide) ?_
        refine g_iadd hO d_L_law_1488 ?_
        refine h_sx hO hX d_L_law_1489 (fun v233 => ?_)
        refine g_aload_n hO d_L_law_1490 (by rfl) 0 rfl ?_
        refine g_iload_n hO d_L_law_1491 (by rfl) 3 rfl ?_
        refine g_iconst hO 2 d_L_law_1492 (by decide) ?_
        refine g_iadd hO d_L_law_1493 ?_
        refine h_sx hO hX d_L_law_1494 (fun v234 => ?_)
        refine g_aload_n hO d_L_law_1495 (by rfl) 0 rfl ?_
        refine g_iload_n hO d_L_law_1496 (by rfl) 3 rfl ?_
        refine g_iconst hO 3 d_L_law_1497 (by decide) ?_
        refine g_iadd hO d_L_law_1498 ?_
        refine h_sx hO hX d_L_law_1499 (fun v235 => ?_)
        refine g_aload_n hO d_L_law_1500 (by rfl) 0 rfl ?_
        refine g_iload_n hO d_L_law_1501 (by rfl) 3 rfl ?_
        refine g_iconst hO 4 d_L_law_1502 (by decide) ?_
        refine g_iadd hO d_L_law_1503 ?_
        refine h_sx hO hX d_L_law_1504 (fun v236 => ?_)
        refine g_aload_n hO d_L_law_1505 (by rfl) 0 rfl ?_
        refine g_iload_n hO d_L_law_1506 (by rfl) 3 rfl ?_
        refine g_iconst hO 5 d_L_law_1507 (by decide) ?_
        refine g_iadd hO d_L_law_1508 ?_
        refine h_sx hO hX d_L_law_1509 (fun v237 => ?_)
        refine g_if_eq (tgt := 1517) hO d_L_law_1510.1 d_L_law_1510.2 (fun _ => ?_) (fun _ => ?_)
        · skip
          refine g_iconst hO 0 d_L_law_1517 (by decide) ?_
          exact g_sub [0, 1, 2, 3] rfl (w_L_law_1518 hO L xs hX ih _ _ _ _ _ _ _ _ _ _)
        · skip
          refine g_iconst hO 1 d_L_law_1513 (by decide) ?_
          refine g_goto (tgt := 1518) hO d_L_law_1514.1 d_L_law_1514.2 ?_
          exact g_sub [0, 1, 2, 3] rfl (w_L_law_1518 hO L xs hX ih _ _ _ _ _ _ _ _ _ _)
      · skip
        refine g_aload_n hO d_L_law_1563 (by rfl) 1 rfl ?_
        refine g_aload_n hO d_L_law_1564 (by rfl) 0 rfl ?_
        refine g_iload_n hO d_L_law_1565 (by rfl) 3 rfl ?_
        refine g_iconst hO 1 d_L_law_1566 (by decide) ?_
        refine g_iadd hO d_L_law_1567 ?_
        refine h_sx hO hX d_L_law_1568 (fun v238 => ?_)
        refine g_aload_n hO d_L_law_1569 (by rfl) 0 rfl ?_
        refine g_iload_n hO d_L_law_1570 (by rfl) 3 rfl ?_
        refine g_iconst hO 2 d_L_law_1571 (by decide) ?_
        refine g_iadd hO d_L_law_1572 ?_
        refine h_sx hO hX d_L_law_1573 (fun v239 => ?_)
        refine k_virtIs hO cl_X11 mm_X11_longest lkV_L_137 ⟨⟨Nat.le_of_ble_eq_true rfl, Nat.le_of_ble_eq_true rfl⟩, Nat.le_of_ble_eq_true rfl, Nat.le_of_ble_eq_true rfl⟩ (kn' := (343, 19442)) rfl (As := [vI v238, vI v239]) rfl (Nat.le_of_ble_eq_true rfl) (fun o' _ => t_X11_longest Γ.2.1 E o' v238 v239 S) d_L_law_1574 rfl (fun v240 S241 => ?_)
        refine g_aload_n hO d_L_law_1577 (by rfl) 2 rfl ?_
        refine g_aload_n hO d_L_law_1578 (by rfl) 0 rfl ?_
        refine g_iload_n hO d_L_law_1579 (by rfl) 3 rfl ?_
        refine g_iconst hO 1 d_L_law_1580 (by decide) ?_
        refine g_iadd hO d_L_law_1581 ?_
        refine h_sx hO hX d_L_law_1582 (fun v242 => ?_)
        refine g_aload_n hO d_L_law_1583 (by rfl) 0 rfl ?_
        refine g_iload_n hO d_L_law_1584 (by rfl) 3 rfl ?_
        refine g_iconst hO 2 d_L_law_1585 (by decide) ?_
        refine g_iadd hO d_L_law_1586 ?_
        refine h_sx hO hX d_L_law_1587 (fun v243 => ?_)
        refine k_virtIs hO cl_X12 mm_X12_longest lkV_L_140 ⟨⟨Nat.le_of_ble_eq_true rfl, Nat.le_of_ble_eq_true rfl⟩, Nat.le_of_ble_eq_true rfl, Nat.le_of_ble_eq_true rfl⟩ (kn' := (343, 19442)) rfl (As := [vI v242, vI v243]) rfl (Nat.le_of_ble_eq_true rfl) (fun o' _ => t_X12_longest Γ.2.1 E o' v242 v243 S241) d_L_law_1588 rfl (fun v244 S245 => ?_)
        refine g_ic_eq (tgt := 1814) hO d_L_law_1591.1 d_L_law_1591.2 (fun _ => ?_) (fun _ => ?_)
        · skip
          exact g_sub [0, 1, 2, 3] rfl (w_L_law_1814 hO L xs hX ih _ _ _ _)
        · skip
          refine g_iconst hO 0 d_L_law_1594 (by decide) ?_
          exact g_none
      · skip
        refine g_aload_n hO d_L_law_1596 (by rfl) 1 rfl ?_
        refine g_aload_n hO d_L_law_1597 (by rfl) 0 rfl ?_
        refine g_iload_n hO d_L_law_1598 (by rfl) 3 rfl ?_
        refine g_iconst hO 1 d_L_law_1599 (by decide) ?_
        refine g_iadd hO d_L_law_1600 ?_
        refine h_sx hO hX d_L_law_1601 (fun v246 => ?_)
        refine g_aload_n hO d_L_law_1602 (by rfl) 0 rfl ?_
        refine g_iload_n hO d_L_law_1603 (by rfl) 3 rfl ?_
        refine g_iconst hO 2 d_L_law_1604 (by decide) ?_
        refine g_iadd hO d_L_law_1605 ?_
        refine h_sx hO hX d_L_law_1606 (fun v247 => ?_)
        refine g_aload_n hO d_L_law_1607 (by rfl) 0 rfl ?_
        refine g_iload_n hO d_L_law_1608 (by rfl) 3 rfl ?_
        refine g_iconst hO 3 d_L_law_1609 (by decide) ?_
        refine g_iadd hO d_L_law_1610 ?_
        refine h_sx hO hX d_L_law_1611 (fun v248 => ?_)
        refine g_aload_n hO d_L_law_1612 (by rfl) 0 rfl ?_
        refine g_iload_n hO d_L_law_1613 (by rfl) 3 rfl ?_
        refine g_iconst hO 4 d_L_law_1614 (by decide) ?_
        refine g_iadd hO d_L_law_1615 ?_
        refine h_sx hO hX d_L_law_1616 (fun v249 => ?_)
        refine k_virtIs hO cl_X11 mm_X11_drawn lkV_L_141 ⟨⟨Nat.le_of_ble_eq_true rfl, Nat.le_of_ble_eq_true rfl⟩, Nat.le_of_ble_eq_true rfl, Nat.le_of_ble_eq_true rfl⟩ (kn' := (343, 19442)) rfl (As := [vI v246, vI v247, vI v248, vI v249]) rfl (Nat.le_of_ble_eq_true rfl) (fun o' _ => t_X11_drawn Γ.2.1 E o' v246 v247 v248 v249 S) d_L_law_1617 rfl (fun v250 S251 => ?_)
        refine g_aload_n hO d_L_law_1620 (by rfl) 2 rfl ?_
        refine g_aload_n hO d_L_law_1621 (by rfl) 0 rfl ?_
        refine g_iload_n hO d_L_law_1622 (by rfl) 3 rfl ?_
        refine g_iconst hO 1 d_L_law_1623 (by decide) ?_
        refine g_iadd hO d_L_law_1624 ?_
        refine h_sx hO hX d_L_law_1625 (fun v252 => ?_)
        refine g_aload_n hO d_L_law_1626 (by rfl) 0 rfl ?_
        refine g_iload_n hO d_L_law_1627 (by rfl) 3 rfl ?_
        refine g_iconst hO 2 d_L_law_1628 (by decide) ?_
        refine g_iadd hO d_L_law_1629 ?_
        refine h_sx hO hX d_L_law_1630 (fun v253 => ?_)
        refine g_aload_n hO d_L_law_1631 (by rfl) 0 rfl ?_
        refine g_iload_n hO d_L_law_1632 (by rfl) 3 rfl ?_
        refine g_iconst hO 3 d_L_law_1633 (by decide) ?_
        refine g_iadd hO d_L_law_1634 ?_
        refine h_sx hO hX d_L_law_1635 (fun v254 => ?_)
        refine g_aload_n hO d_L_law_1636 (by rfl) 0 rfl ?_
        refine g_iload_n hO d_L_law_1637 (by rfl) 3 rfl ?_
        refine g_iconst hO 4 d_L_law_1638 (by decide) ?_
        refine g_iadd hO d_L_law_1639 ?_
        refine h_sx hO hX d_L_law_1640 (fun v255 => ?_)
        refine k_virtIs hO cl_X12 mm_X12_drawn lkV_L_144 ⟨⟨Nat.le_of_ble_eq_true rfl, Nat.le_of_ble_eq_true rfl⟩, Nat.le_of_ble_eq_true rfl, Nat.le_of_ble_eq_true rfl⟩ (kn' := (343, 19442)) rfl (As := [vI v252, vI v253, vI v254, vI v255]) rfl (Nat.le_of_ble_eq_true rfl) (fun o' _ => t_X12_drawn Γ.2.1 E o' v252 v253 v254 v255 S251) d_L_law_1641 rfl (fun v256 S257 => ?_)
        refine g_ic_eq (tgt := 1814) hO d_L_law_1644.1 d_L_law_1644.2 (fun _ => ?_) (fun _ => ?_)
        · skip
          exact g_sub [0, 1, 2, 3] rfl (w_L_law_1814 hO L xs hX ih _ _ _ _)
        · skip
          refine g_iconst hO 0 d_L_law_1647 (by decide) ?_
          exact g_none
      · skip
        refine g_aload_n hO d_L_law_1649 (by rfl) 1 rfl ?_
        refine g_aload_n hO d_L_law_1650 (by rfl) 0 rfl ?_
        refine g_iload_n hO d_L_law_1651 (by rfl) 3 rfl ?_
        refine g_iconst hO 1 d_L_law_1652 (by decide) ?_
        refine g_iadd hO d_L_law_1653 ?_
        refine h_sx hO hX d_L_law_1654 (fun v258 => ?_)
        refine g_aload_n hO d_L_law_1655 (by rfl) 0 rfl ?_
        refine g_iload_n hO d_L_law_1656 (by rfl) 3 rfl ?_
        refine g_iconst hO 2 d_L_law_1657 (by decide) ?_
        refine g_iadd hO d_L_law_1658 ?_
        refine h_sx hO hX d_L_law_1659 (fun v259 => ?_)
        refine g_aload_n hO d_L_law_1660 (by rfl) 0 rfl ?_
        refine g_iload_n hO d_L_law_1661 (by rfl) 3 rfl ?_
        refine g_iconst hO 3 d_L_law_1662 (by decide) ?_
        refine g_iadd hO d_L_law_1663 ?_
        refine h_sx hO hX d_L_law_1664 (fun v260 => ?_)
        refine g_aload_n hO d_L_law_1665 (by rfl) 0 rfl ?_
        refine g_iload_n hO d_L_law_1666 (by rfl) 3 rfl ?_
        refine g_iconst hO 4 d_L_law_1667 (by decide) ?_
        refine g_iadd hO d_L_law_1668 ?_
        refine h_sx hO hX d_L_law_1669 (fun v261 => ?_)
        refine k_virtIp hO cl_X11 mm_X11_climb lkV_L_145 ⟨⟨Nat.le_of_ble_eq_true rfl, Nat.le_of_ble_eq_true rfl⟩, Nat.le_of_ble_eq_true rfl, Nat.le_of_ble_eq_true rfl⟩ (kn' := (343, 19442)) rfl (As := [vI v258, vI v259, vI v260, vI v261]) rfl (Nat.le_of_ble_eq_true rfl) (fun o' _ => t_X11_climb Γ.2.1 E o' v258 v259 v260 v261 S) d_L_law_1670 rfl (fun v262 => ?_)
        refine g_aload_n hO d_L_law_1673 (by rfl) 2 rfl ?_
        refine g_aload_n hO d_L_law_1674 (by rfl) 0 rfl ?_
        refine g_iload_n hO d_L_law_1675 (by rfl) 3 rfl ?_
        refine g_iconst hO 1 d_L_law_1676 (by decide) ?_
        refine g_iadd hO d_L_law_1677 ?_
        refine h_sx hO hX d_L_law_1678 (fun v264 => ?_)
        refine g_aload_n hO d_L_law_1679 (by rfl) 0 rfl ?_
        refine g_iload_n hO d_L_law_1680 (by rfl) 3 rfl ?_
        refine g_iconst hO 2 d_L_law_1681 (by decide) ?_
        refine g_iadd hO d_L_law_1682 ?_
        refine h_sx hO hX d_L_law_1683 (fun v265 => ?_)
        refine g_aload_n hO d_L_law_1684 (by rfl) 0 rfl ?_
        refine g_iload_n hO d_L_law_1685 (by rfl) 3 rfl ?_
        refine g_iconst hO 3 d_L_law_1686 (by decide) ?_
        refine g_iadd hO d_L_law_1687 ?_
        refine h_sx hO hX d_L_law_1688 (fun v266 => ?_)
        refine g_aload_n hO d_L_law_1689 (by rfl) 0 rfl ?_
        refine g_iload_n hO d_L_law_1690 (by rfl) 3 rfl ?_
        refine g_iconst hO 4 d_L_law_1691 (by decide) ?_
        refine g_iadd hO d_L_law_1692 ?_
        refine h_sx hO hX d_L_law_1693 (fun v267 => ?_)
        refine k_virtIs hO cl_X12 mm_X12_climb lkV_L_148 ⟨⟨Nat.le_of_ble_eq_true rfl, Nat.le_of_ble_eq_true rfl⟩, Nat.le_of_ble_eq_true rfl, Nat.le_of_ble_eq_true rfl⟩ (kn' := (343, 19442)) rfl (As := [vI v264, vI v265, vI v266, vI v267]) rfl (Nat.le_of_ble_eq_true rfl) (fun o' _ => t_X12_climb Γ.2.1 E o' v264 v265 v266 v267 S) d_L_law_1694 rfl (fun v268 S269 => ?_)
        refine g_ic_eq (tgt := 1814) hO d_L_law_1697.1 d_L_law_1697.2 (fun _ => ?_) (fun _ => ?_)
        · skip
          exact g_sub [0, 1, 2, 3] rfl (w_L_law_1814 hO L xs hX ih _ _ _ _)
        · skip
          refine g_iconst hO 0 d_L_law_1700 (by decide) ?_
          exact g_none
      · skip
        refine g_aload_n hO d_L_law_1702 (by rfl) 1 rfl ?_
        refine g_aload_n hO d_L_law_1703 (by rfl) 0 rfl ?_
        refine g_iload_n hO d_L_law_1704 (by rfl) 3 rfl ?_
        refine g_iconst hO 1 d_L_law_1705 (by decide) ?_
        refine g_iadd hO d_L_law_1706 ?_
        refine h_sx hO hX d_L_law_1707 (fun v270 => ?_)
        refine g_aload_n hO d_L_law_1708 (by rfl) 0 rfl ?_
        refine g_iload_n hO d_L_law_1709 (by rfl) 3 rfl ?_
        refine g_iconst hO 2 d_L_law_1710 (by decide) ?_
        refine g_iadd hO d_L_law_1711 ?_
        refine h_sx hO hX d_L_law_1712 (fun v271 => ?_)
        refine g_aload_n hO d_L_law_1713 (by rfl) 0 rfl ?_
        refine g_iload_n hO d_L_law_1714 (by rfl) 3 rfl ?_
        refine g_iconst hO 3 d_L_law_1715 (by decide) ?_
        refine g_iadd hO d_L_law_1716 ?_
        refine h_sx hO hX d_L_law_1717 (fun v272 => ?_)
        refine k_virtIp hO cl_X11 mm_X11_calm lkV_L_149 ⟨⟨Nat.le_of_ble_eq_true rfl, Nat.le_of_ble_eq_true rfl⟩, Nat.le_of_ble_eq_true rfl, Nat.le_of_ble_eq_true rfl⟩ (kn' := (343, 19442)) rfl (As := [vI v270, vI v271, vI v272]) rfl (Nat.le_of_ble_eq_true rfl) (fun o' _ => t_X11_calm Γ.2.1 E o' v270 v271 v272 S) d_L_law_1718 rfl (fun v273 => ?_)
        refine g_aload_n hO d_L_law_1721 (by rfl) 2 rfl ?_
        refine g_aload_n hO d_L_law_1722 (by rfl) 0 rfl ?_
        refine g_iload_n hO d_L_law_1723 (by rfl) 3 rfl ?_
        refine g_iconst hO 1 d_L_law_1724 (by decide) ?_
        refine g_iadd hO d_L_law_1725 ?_
        refine h_sx hO hX d_L_law_1726 (fun v275 => ?_)
        refine g_aload_n hO d_L_law_1727 (by rfl) 0 rfl ?_
        refine g_iload_n hO d_L_law_1728 (by rfl) 3 rfl ?_
        refine g_iconst hO 2 d_L_law_1729 (by decide) ?_
        refine g_iadd hO d_L_law_1730 ?_
        refine h_sx hO hX d_L_law_1731 (fun v276 => ?_)
        refine g_aload_n hO d_L_law_1732 (by rfl) 0 rfl ?_
        refine g_iload_n hO d_L_law_1733 (by rfl) 3 rfl ?_
        refine g_iconst hO 3 d_L_law_1734 (by decide) ?_
        refine g_iadd hO d_L_law_1735 ?_
        refine h_sx hO hX d_L_law_1736 (fun v277 => ?_)
        refine k_virtIs hO cl_X12 mm_X12_calm lkV_L_152 ⟨⟨Nat.le_of_ble_eq_true rfl, Nat.le_of_ble_eq_true rfl⟩, Nat.le_of_ble_eq_true rfl, Nat.le_of_ble_eq_true rfl⟩ (kn' := (343, 19442)) rfl (As := [vI v275, vI v276, vI v277]) rfl (Nat.le_of_ble_eq_true rfl) (fun o' _ => t_X12_calm Γ.2.1 E o' v275 v276 v277 S) d_L_law_1737 rfl (fun v278 S279 => ?_)
        refine g_ic_eq (tgt := 1814) hO d_L_law_1740.1 d_L_law_1740.2 (fun _ => ?_) (fun _ => ?_)
        · skip
          exact g_sub [0, 1, 2, 3] rfl (w_L_law_1814 hO L xs hX ih _ _ _ _)
        · skip
          refine g_iconst hO 0 d_L_law_1743 (by decide) ?_
          exact g_none
      · skip
        refine g_aload_n hO d_L_law_1745 (by rfl) 1 rfl ?_
        refine g_aload_n hO d_L_law_1746 (by rfl) 0 rfl ?_
        refine g_iload_n hO d_L_law_1747 (by rfl) 3 rfl ?_
        refine g_iconst hO 1 d_L_law_1748 (by decide) ?_
        refine g_iadd hO d_L_law_1749 ?_
        refine h_sx hO hX d_L_law_1750 (fun v280 => ?_)
        refine k_virtIp hO cl_X11 mm_X11_count lkV_L_153 ⟨⟨Nat.le_of_ble_eq_true rfl, Nat.le_of_ble_eq_true rfl⟩, Nat.le_of_ble_eq_true rfl, Nat.le_of_ble_eq_true rfl⟩ (kn' := (343, 19442)) rfl (As := [vI v280]) rfl (Nat.le_of_ble_eq_true rfl) (fun o' _ => t_X11_count Γ.2.1 E o' v280 S) d_L_law_1751 rfl (fun v281 => ?_)
        refine g_aload_n hO d_L_law_1754 (by rfl) 2 rfl ?_
        refine g_aload_n hO d_L_law_1755 (by rfl) 0 rfl ?_
        refine g_iload_n hO d_L_law_1756 (by rfl) 3 rfl ?_
        refine g_iconst hO 1 d_L_law_1757 (by decide) ?_
        refine g_iadd hO d_L_law_1758 ?_
        refine h_sx hO hX d_L_law_1759 (fun v283 => ?_)
        refine k_virtIs hO cl_X12 mm_X12_count lkV_L_156 ⟨⟨Nat.le_of_ble_eq_true rfl, Nat.le_of_ble_eq_true rfl⟩, Nat.le_of_ble_eq_true rfl, Nat.le_of_ble_eq_true rfl⟩ (kn' := (343, 19442)) rfl (As := [vI v283]) rfl (Nat.le_of_ble_eq_true rfl) (fun o' _ => t_X12_count Γ.2.1 E o' v283 S) d_L_law_1760 rfl (fun v284 S285 => ?_)
        refine g_ic_eq (tgt := 1814) hO d_L_law_1763.1 d_L_law_1763.2 (fun _ => ?_) (fun _ => ?_)
        · skip
          exact g_sub [0, 1, 2, 3] rfl (w_L_law_1814 hO L xs hX ih _ _ _ _)
        · skip
          refine g_iconst hO 0 d_L_law_1766 (by decide) ?_
          exact g_none
      · skip
        refine g_aload_n hO d_L_law_1768 (by rfl) 1 rfl ?_
        refine g_aload_n hO d_L_law_1769 (by rfl) 0 rfl ?_
        refine g_iload_n hO d_L_law_1770 (by rfl) 3 rfl ?_
        refine g_iconst hO 1 d_L_law_1771 (by decide) ?_
        refine g_iadd hO d_L_law_1772 ?_
        refine h_sx hO hX d_L_law_1773 (fun v286 => ?_)
        refine k_virtIs hO cl_X11 mm_X11_image lkV_L_157 ⟨⟨Nat.le_of_ble_eq_true rfl, Nat.le_of_ble_eq_true rfl⟩, Nat.le_of_ble_eq_true rfl, Nat.le_of_ble_eq_true rfl⟩ (kn' := (343, 19442)) rfl (As := [vI v286]) rfl (Nat.le_of_ble_eq_true rfl) (fun o' _ => t_X11_image Γ.2.1 E o' v286 S) d_L_law_1774 rfl (fun v287 S288 => ?_)
        refine g_aload_n hO d_L_law_1777 (by rfl) 2 rfl ?_
        refine g_aload_n hO d_L_law_1778 (by rfl) 0 rfl ?_
        refine g_iload_n hO d_L_law_1779 (by rfl) 3 rfl ?_
        refine g_iconst hO 1 d_L_law_1780 (by decide) ?_
        refine g_iadd hO d_L_law_1781 ?_
        refine h_sx hO hX d_L_law_1782 (fun v289 => ?_)
        refine k_virtIs hO cl_X12 mm_X12_image lkV_L_161 ⟨⟨Nat.le_of_ble_eq_true rfl, Nat.le_of_ble_eq_true rfl⟩, Nat.le_of_ble_eq_true rfl, Nat.le_of_ble_eq_true rfl⟩ (kn' := (343, 19442)) rfl (As := [vI v289]) rfl (Nat.le_of_ble_eq_true rfl) (fun o' _ => t_X12_image Γ.2.1 E o' v289 S288) d_L_law_1783 rfl (fun v290 S291 => ?_)
        refine g_ic_eq (tgt := 1814) hO d_L_law_1786.1 d_L_law_1786.2 (fun _ => ?_) (fun _ => ?_)
        · skip
          exact g_sub [0, 1, 2, 3] rfl (w_L_law_1814 hO L xs hX ih _ _ _ _)
        · skip
          refine g_iconst hO 0 d_L_law_1789 (by decide) ?_
          exact g_none
      · skip
        refine g_aload_n hO d_L_law_1791 (by rfl) 1 rfl ?_
        refine g_aload_n hO d_L_law_1792 (by rfl) 0 rfl ?_
        refine g_iload_n hO d_L_law_1793 (by rfl) 3 rfl ?_
        refine g_iconst hO 1 d_L_law_1794 (by decide) ?_
        refine g_iadd hO d_L_law_1795 ?_
        refine h_sx hO hX d_L_law_1796 (fun v292 => ?_)
        refine k_virtIs hO cl_X11 mm_X11_again lkV_L_162 ⟨⟨Nat.le_of_ble_eq_true rfl, Nat.le_of_ble_eq_true rfl⟩, Nat.le_of_ble_eq_true rfl, Nat.le_of_ble_eq_true rfl⟩ (kn' := (343, 19442)) rfl (As := [vI v292]) rfl (Nat.le_of_ble_eq_true rfl) (fun o' _ => t_X11_again Γ.2.1 E o' v292 S) d_L_law_1797 rfl (fun v293 S294 => ?_)
        refine g_aload_n hO d_L_law_1800 (by rfl) 2 rfl ?_
        refine g_aload_n hO d_L_law_1801 (by rfl) 0 rfl ?_
        refine g_iload_n hO d_L_law_1802 (by rfl) 3 rfl ?_
        refine g_iconst hO 1 d_L_law_1803 (by decide) ?_
        refine g_iadd hO d_L_law_1804 ?_
        refine h_sx hO hX d_L_law_1805 (fun v295 => ?_)
        refine k_virtIs hO cl_X12 mm_X12_again lkV_L_165 ⟨⟨Nat.le_of_ble_eq_true rfl, Nat.le_of_ble_eq_true rfl⟩, Nat.le_of_ble_eq_true rfl, Nat.le_of_ble_eq_true rfl⟩ (kn' := (343, 19442)) rfl (As := [vI v295]) rfl (Nat.le_of_ble_eq_true rfl) (fun o' _ => t_X12_again Γ.2.1 E o' v295 S294) d_L_law_1806 rfl (fun v296 S297 => ?_)
        refine g_ic_eq (tgt := 1814) hO d_L_law_1809.1 d_L_law_1809.2 (fun _ => ?_) (fun _ => ?_)
        · skip
          exact g_sub [0, 1, 2, 3] rfl (w_L_law_1814 hO L xs hX ih _ _ _ _)
        · skip
          refine g_iconst hO 0 d_L_law_1812 (by decide) ?_
          exact g_none
      · skip
        exact g_sub [0, 1, 2, 3] rfl (w_L_law_1814 hO L xs hX ih _ _ _ _)
set_option maxRecDepth 20000 in
theorem w_L_law {Γ : GC} {E : GE} {nm : String} (hO : gOk Γ E code RL 4 room_1 ret nm) (L : Nat) (xs : Nat → Int32) (hX : gX Γ E L xs) (S : GS) : Go Γ E (gBL Γ) 4 (0, 0) 0 S [(0, vA (some 400000))] [] (f_L_law L xs S) := by
  unfold f_L_law
  refine h_new hO cl_X11 tyX11 tyX11_ok dv_X11 wcl_L_7 wins_X11 wi_X11 (kn' := (1, 10)) rfl ⟨by decide, by decide⟩ d_L_law_0 (fun v1 S2 => ?_)
  refine g_dup hO d_L_law_3 rfl ?_
  refine k_init hO mm_X11_init lkI_L_9 ⟨⟨by decide, by decide⟩, by decide +kernel, by decide +kernel⟩ (kn' := (313, 10711)) (by decide +kernel) (As := []) rfl (Nat.le_of_ble_eq_true rfl) (fun o' _ => t_X11_init Γ.2.1 E o' S2) d_L_law_4 rfl (fun S3 => ?_)
  refine g_astore_n (lv' := [(1, vA v1), (0, vA (some 400000))]) hO d_L_law_7 (by rfl) (by decide) rfl ?_
  refine h_new hO cl_X12 tyX12 tyX12_ok dv_X12 wcl_L_10 wins_X12 wi_X12 (kn' := (314, 10773)) rfl ⟨by decide, by decide⟩ d_L_law_8 (fun v4 S5 => ?_)
  refine g_dup hO d_L_law_11 rfl ?_
  refine k_init hO mm_X12_init lkI_L_12 ⟨⟨by decide, by decide⟩, by decide +kernel, by decide +kernel⟩ (kn' := (343, 19442)) (by decide +kernel) (As := []) rfl (Nat.le_of_ble_eq_true rfl) (fun o' _ => t_X12_init Γ.2.1 E o' S5) d_L_law_12 rfl (fun S6 => ?_)
  refine g_astore_n (lv' := [(2, vA v4), (1, vA v1), (0, vA (some 400000))]) hO d_L_law_15 (by rfl) (by decide) rfl ?_
  refine g_iconst hO 0 d_L_law_16 (by decide) ?_
  refine g_istore_n (lv' := [(3, vI 0), (2, vA v4), (1, vA v1), (0, vA (some 400000))]) hO d_L_law_17 (by rfl) (by decide) rfl ?_
  exact g_sub [3, 2, 1, 0] rfl (w_L_law_18 hO L xs hX _ _ _ _ _)
