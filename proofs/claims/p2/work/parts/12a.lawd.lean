theorem dLg_0 : (decode cL_law 0 = .ok (.new 7, 3)) ∧ (decode cL_law 3 = .ok (.dup, 1)) ∧ (decode cL_law 4 = .ok (.invokespecial 9, 3)) ∧ (decode cL_law 7 = .ok (.astore_n 1, 1)) ∧ (decode cL_law 8 = .ok (.new 10, 3)) ∧ (decode cL_law 11 = .ok (.dup, 1)) ∧ (decode cL_law 12 = .ok (.invokespecial 12, 3)) ∧ (decode cL_law 15 = .ok (.astore_n 2, 1)) ∧ (decode cL_law 16 = .ok (.iconst 0, 1)) ∧ (decode cL_law 17 = .ok (.istore_n 3, 1)) ∧ (decode cL_law 18 = .ok (.iload_n 3, 1)) ∧ (decode cL_law 19 = .ok (.aload_n 0, 1)) ∧ (decode cL_law 20 = .ok (.arraylength, 1)) ∧ (decode cL_law 21 = .ok (.bipush 6, 2)) ∧ (decode cL_law 23 = .ok (.isub, 1)) ∧ (decode cL_law 24 = .ok (.if_icmp .gt 1896, 3)) ∧ (decode cL_law 27 = .ok (.aload_n 0, 1)) ∧ (decode cL_law 28 = .ok (.iload_n 3, 1)) ∧ (decode cL_law 29 = .ok (.iaload, 1)) ∧ (decode cL_law 30 = .ok (.bipush 63, 2)) ∧ (decode cL_law 32 = .ok (.iand, 1)) ∧ (decode cL_law 33 = .ok (.tableswitch 1881 0 41 #[183, 236, 259, 302, 355, 418, 441, 454, 477, 510, 563, 616, 669, 702, 715, 764, 827, 890, 953, 976, 1019, 1072, 1125, 1158, 1191, 1214, 1267, 1300, 1343, 1386, 1409, 1432, 1465, 1498, 1521, 1544, 1587, 1630, 1693, 1746, 1805, 1858], 183)) ∧ (decode cL_law 216 = .ok (.aload_n 1, 1)) ∧ (decode cL_law 217 = .ok (.aload_n 0, 1)) := by decide +kernel
theorem dL_law_0 : decode cL_law 0 = .ok (.new 7, 3) := dLg_0.1
theorem dL_law_3 : decode cL_law 3 = .ok (.dup, 1) := dLg_0.2.1
theorem dL_law_4 : decode cL_law 4 = .ok (.invokespecial 9, 3) := dLg_0.2.2.1
theorem dL_law_7 : decode cL_law 7 = .ok (.astore_n 1, 1) := dLg_0.2.2.2.1
theorem dL_law_8 : decode cL_law 8 = .ok (.new 10, 3) := dLg_0.2.2.2.2.1
theorem dL_law_11 : decode cL_law 11 = .ok (.dup, 1) := dLg_0.2.2.2.2.2.1
theorem dL_law_12 : decode cL_law 12 = .ok (.invokespecial 12, 3) := dLg_0.2.2.2.2.2.2.1
theorem dL_law_15 : decode cL_law 15 = .ok (.astore_n 2, 1) := dLg_0.2.2.2.2.2.2.2.1
theorem dL_law_16 : decode cL_law 16 = .ok (.iconst 0, 1) := dLg_0.2.2.2.2.2.2.2.2.1
theorem dL_law_17 : decode cL_law 17 = .ok (.istore_n 3, 1) := dLg_0.2.2.2.2.2.2.2.2.2.1
theorem dL_law_18 : decode cL_law 18 = .ok (.iload_n 3, 1) := dLg_0.2.2.2.2.2.2.2.2.2.2.1
theorem dL_law_19 : decode cL_law 19 = .ok (.aload_n 0, 1) := dLg_0.2.2.2.2.2.2.2.2.2.2.2.1
theorem dL_law_20 : decode cL_law 20 = .ok (.arraylength, 1) := dLg_0.2.2.2.2.2.2.2.2.2.2.2.2.1
theorem dL_law_21 : decode cL_law 21 = .ok (.bipush 6, 2) := dLg_0.2.2.2.2.2.2.2.2.2.2.2.2.2.1
theorem dL_law_23 : decode cL_law 23 = .ok (.isub, 1) := dLg_0.2.2.2.2.2.2.2.2.2.2.2.2.2.2.1
theorem dL_law_24 : decode cL_law 24 = .ok (.if_icmp .gt 1896, 3) := dLg_0.2.2.2.2.2.2.2.2.2.2.2.2.2.2.2.1
theorem dL_law_27 : decode cL_law 27 = .ok (.aload_n 0, 1) := dLg_0.2.2.2.2.2.2.2.2.2.2.2.2.2.2.2.2.1
theorem dL_law_28 : decode cL_law 28 = .ok (.iload_n 3, 1) := dLg_0.2.2.2.2.2.2.2.2.2.2.2.2.2.2.2.2.2.1
theorem dL_law_29 : decode cL_law 29 = .ok (.iaload, 1) := dLg_0.2.2.2.2.2.2.2.2.2.2.2.2.2.2.2.2.2.2.1
theorem dL_law_30 : decode cL_law 30 = .ok (.bipush 63, 2) := dLg_0.2.2.2.2.2.2.2.2.2.2.2.2.2.2.2.2.2.2.2.1
theorem dL_law_32 : decode cL_law 32 = .ok (.iand, 1) := dLg_0.2.2.2.2.2.2.2.2.2.2.2.2.2.2.2.2.2.2.2.2.1
theorem dL_law_33 : decode cL_law 33 = .ok (.tableswitch 1881 0 41 #[183, 236, 259, 302, 355, 418, 441, 454, 477, 510, 563, 616, 669, 702, 715, 764, 827, 890, 953, 976, 1019, 1072, 1125, 1158, 1191, 1214, 1267, 1300, 1343, 1386, 1409, 1432, 1465, 1498, 1521, 1544, 1587, 1630, 1693, 1746, 1805, 1858], 183) := dLg_0.2.2.2.2.2.2.2.2.2.2.2.2.2.2.2.2.2.2.2.2.2.1
theorem dL_law_216 : decode cL_law 216 = .ok (.aload_n 1, 1) := dLg_0.2.2.2.2.2.2.2.2.2.2.2.2.2.2.2.2.2.2.2.2.2.2.1
theorem dL_law_217 : decode cL_law 217 = .ok (.aload_n 0, 1) := dLg_0.2.2.2.2.2.2.2.2.2.2.2.2.2.2.2.2.2.2.2.2.2.2.2
theorem dLg_1 : (decode cL_law 218 = .ok (.iload_n 3, 1)) ∧ (decode cL_law 219 = .ok (.iconst 1, 1)) ∧ (decode cL_law 220 = .ok (.iadd, 1)) ∧ (decode cL_law 221 = .ok (.iaload, 1)) ∧ (decode cL_law 222 = .ok (.aload_n 0, 1)) ∧ (decode cL_law 223 = .ok (.iload_n 3, 1)) ∧ (decode cL_law 224 = .ok (.iconst 2, 1)) ∧ (decode cL_law 225 = .ok (.iadd, 1)) ∧ (decode cL_law 226 = .ok (.iaload, 1)) ∧ (decode cL_law 227 = .ok (.aload_n 0, 1)) ∧ (decode cL_law 228 = .ok (.iload_n 3, 1)) ∧ (decode cL_law 229 = .ok (.iconst 3, 1)) ∧ (decode cL_law 230 = .ok (.iadd, 1)) ∧ (decode cL_law 231 = .ok (.iaload, 1)) ∧ (decode cL_law 232 = .ok (.aload_n 0, 1)) ∧ (decode cL_law 233 = .ok (.iload_n 3, 1)) ∧ (decode cL_law 234 = .ok (.iconst 4, 1)) ∧ (decode cL_law 235 = .ok (.iadd, 1)) ∧ (decode cL_law 236 = .ok (.iaload, 1)) ∧ (decode cL_law 237 = .ok (.invokevirtual 13, 3)) ∧ (decode cL_law 240 = .ok (.aload_n 2, 1)) ∧ (decode cL_law 241 = .ok (.aload_n 0, 1)) ∧ (decode cL_law 242 = .ok (.iload_n 3, 1)) ∧ (decode cL_law 243 = .ok (.iconst 1, 1)) := by decide +kernel
theorem dL_law_218 : decode cL_law 218 = .ok (.iload_n 3, 1) := dLg_1.1
theorem dL_law_219 : decode cL_law 219 = .ok (.iconst 1, 1) := dLg_1.2.1
theorem dL_law_220 : decode cL_law 220 = .ok (.iadd, 1) := dLg_1.2.2.1
theorem dL_law_221 : decode cL_law 221 = .ok (.iaload, 1) := dLg_1.2.2.2.1
theorem dL_law_222 : decode cL_law 222 = .ok (.aload_n 0, 1) := dLg_1.2.2.2.2.1
theorem dL_law_223 : decode cL_law 223 = .ok (.iload_n 3, 1) := dLg_1.2.2.2.2.2.1
theorem dL_law_224 : decode cL_law 224 = .ok (.iconst 2, 1) := dLg_1.2.2.2.2.2.2.1
theorem dL_law_225 : decode cL_law 225 = .ok (.iadd, 1) := dLg_1.2.2.2.2.2.2.2.1
theorem dL_law_226 : decode cL_law 226 = .ok (.iaload, 1) := dLg_1.2.2.2.2.2.2.2.2.1
theorem dL_law_227 : decode cL_law 227 = .ok (.aload_n 0, 1) := dLg_1.2.2.2.2.2.2.2.2.2.1
theorem dL_law_228 : decode cL_law 228 = .ok (.iload_n 3, 1) := dLg_1.2.2.2.2.2.2.2.2.2.2.1
theorem dL_law_229 : decode cL_law 229 = .ok (.iconst 3, 1) := dLg_1.2.2.2.2.2.2.2.2.2.2.2.1
theorem dL_law_230 : decode cL_law 230 = .ok (.iadd, 1) := dLg_1.2.2.2.2.2.2.2.2.2.2.2.2.1
theorem dL_law_231 : decode cL_law 231 = .ok (.iaload, 1) := dLg_1.2.2.2.2.2.2.2.2.2.2.2.2.2.1
theorem dL_law_232 : decode cL_law 232 = .ok (.aload_n 0, 1) := dLg_1.2.2.2.2.2.2.2.2.2.2.2.2.2.2.1
theorem dL_law_233 : decode cL_law 233 = .ok (.iload_n 3, 1) := dLg_1.2.2.2.2.2.2.2.2.2.2.2.2.2.2.2.1
theorem dL_law_234 : decode cL_law 234 = .ok (.iconst 4, 1) := dLg_1.2.2.2.2.2.2.2.2.2.2.2.2.2.2.2.2.1
theorem dL_law_235 : decode cL_law 235 = .ok (.iadd, 1) := dLg_1.2.2.2.2.2.2.2.2.2.2.2.2.2.2.2.2.2.1
theorem dL_law_236 : decode cL_law 236 = .ok (.iaload, 1) := dLg_1.2.2.2.2.2.2.2.2.2.2.2.2.2.2.2.2.2.2.1
theorem dL_law_237 : decode cL_law 237 = .ok (.invokevirtual 13, 3) := dLg_1.2.2.2.2.2.2.2.2.2.2.2.2.2.2.2.2.2.2.2.1
theorem dL_law_240 : decode cL_law 240 = .ok (.aload_n 2, 1) := dLg_1.2.2.2.2.2.2.2.2.2.2.2.2.2.2.2.2.2.2.2.2.1
theorem dL_law_241 : decode cL_law 241 = .ok (.aload_n 0, 1) := dLg_1.2.2.2.2.2.2.2.2.2.2.2.2.2.2.2.2.2.2.2.2.2.1
theorem dL_law_242 : decode cL_law 242 = .ok (.iload_n 3, 1) := dLg_1.2.2.2.2.2.2.2.2.2.2.2.2.2.2.2.2.2.2.2.2.2.2.1
theorem dL_law_243 : decode cL_law 243 = .ok (.iconst 1, 1) := dLg_1.2.2.2.2.2.2.2.2.2.2.2.2.2.2.2.2.2.2.2.2.2.2.2
theorem dLg_2 : (decode cL_law 244 = .ok (.iadd, 1)) ∧ (decode cL_law 245 = .ok (.iaload, 1)) ∧ (decode cL_law 246 = .ok (.aload_n 0, 1)) ∧ (decode cL_law 247 = .ok (.iload_n 3, 1)) ∧ (decode cL_law 248 = .ok (.iconst 2, 1)) ∧ (decode cL_law 249 = .ok (.iadd, 1)) ∧ (decode cL_law 250 = .ok (.iaload, 1)) ∧ (decode cL_law 251 = .ok (.aload_n 0, 1)) ∧ (decode cL_law 252 = .ok (.iload_n 3, 1)) ∧ (decode cL_law 253 = .ok (.iconst 3, 1)) ∧ (decode cL_law 254 = .ok (.iadd, 1)) ∧ (decode cL_law 255 = .ok (.iaload, 1)) ∧ (decode cL_law 256 = .ok (.aload_n 0, 1)) ∧ (decode cL_law 257 = .ok (.iload_n 3, 1)) ∧ (decode cL_law 258 = .ok (.iconst 4, 1)) ∧ (decode cL_law 259 = .ok (.iadd, 1)) ∧ (decode cL_law 260 = .ok (.iaload, 1)) ∧ (decode cL_law 261 = .ok (.invokevirtual 17, 3)) ∧ (decode cL_law 264 = .ok (.if_icmp .eq 1650, 3)) ∧ (decode cL_law 267 = .ok (.iconst 0, 1)) ∧ (decode cL_law 268 = .ok (.ireturn, 1)) ∧ (decode cL_law 269 = .ok (.aload_n 1, 1)) ∧ (decode cL_law 270 = .ok (.aload_n 0, 1)) ∧ (decode cL_law 271 = .ok (.iload_n 3, 1)) := by decide +kernel
theorem dL_law_244 : decode cL_law 244 = .ok (.iadd, 1) := dLg_2.1
theorem dL_law_245 : decode cL_law 245 = .ok (.iaload, 1) := dLg_2.2.1
theorem dL_law_246 : decode cL_law 246 = .ok (.aload_n 0, 1) := dLg_2.2.2.1
theorem dL_law_247 : decode cL_law 247 = .ok (.iload_n 3, 1) := dLg_2.2.2.2.1
theorem dL_law_248 : decode cL_law 248 = .ok (.iconst 2, 1) := dLg_2.2.2.2.2.1
theorem dL_law_249 : decode cL_law 249 = .ok (.iadd, 1) := dLg_2.2.2.2.2.2.1
theorem dL_law_250 : decode cL_law 250 = .ok (.iaload, 1) := dLg_2.2.2.2.2.2.2.1
theorem dL_law_251 : decode cL_law 251 = .ok (.aload_n 0, 1) := dLg_2.2.2.2.2.2.2.2.1
theorem dL_law_252 : decode cL_law 252 = .ok (.iload_n 3, 1) := dLg_2.2.2.2.2.2.2.2.2.1
theorem dL_law_253 : decode cL_law 253 = .ok (.iconst 3, 1) := dLg_2.2.2.2.2.2.2.2.2.2.1
theorem dL_law_254 : decode cL_law 254 = .ok (.iadd, 1) := dLg_2.2.2.2.2.2.2.2.2.2.2.1
theorem dL_law_255 : decode cL_law 255 = .ok (.iaload, 1) := dLg_2.2.2.2.2.2.2.2.2.2.2.2.1
theorem dL_law_256 : decode cL_law 256 = .ok (.aload_n 0, 1) := dLg_2.2.2.2.2.2.2.2.2.2.2.2.2.1
theorem dL_law_257 : decode cL_law 257 = .ok (.iload_n 3, 1) := dLg_2.2.2.2.2.2.2.2.2.2.2.2.2.2.1
theorem dL_law_258 : decode cL_law 258 = .ok (.iconst 4, 1) := dLg_2.2.2.2.2.2.2.2.2.2.2.2.2.2.2.1
theorem dL_law_259 : decode cL_law 259 = .ok (.iadd, 1) := dLg_2.2.2.2.2.2.2.2.2.2.2.2.2.2.2.2.1
theorem dL_law_260 : decode cL_law 260 = .ok (.iaload, 1) := dLg_2.2.2.2.2.2.2.2.2.2.2.2.2.2.2.2.2.1
theorem dL_law_261 : decode cL_law 261 = .ok (.invokevirtual 17, 3) := dLg_2.2.2.2.2.2.2.2.2.2.2.2.2.2.2.2.2.2.1
theorem dL_law_264 : decode cL_law 264 = .ok (.if_icmp .eq 1650, 3) := dLg_2.2.2.2.2.2.2.2.2.2.2.2.2.2.2.2.2.2.2.1
theorem dL_law_267 : decode cL_law 267 = .ok (.iconst 0, 1) := dLg_2.2.2.2.2.2.2.2.2.2.2.2.2.2.2.2.2.2.2.2.1
theorem dL_law_268 : decode cL_law 268 = .ok (.ireturn, 1) := dLg_2.2.2.2.2.2.2.2.2.2.2.2.2.2.2.2.2.2.2.2.2.1
theorem dL_law_269 : decode cL_law 269 = .ok (.aload_n 1, 1) := dLg_2.2.2.2.2.2.2.2.2.2.2.2.2.2.2.2.2.2.2.2.2.2.1
theorem dL_law_270 : decode cL_law 270 = .ok (.aload_n 0, 1) := dLg_2.2.2.2.2.2.2.2.2.2.2.2.2.2.2.2.2.2.2.2.2.2.2.1
theorem dL_law_271 : decode cL_law 271 = .ok (.iload_n 3, 1) := dLg_2.2.2.2.2.2.2.2.2.2.2.2.2.2.2.2.2.2.2.2.2.2.2.2
theorem dLg_3 : (decode cL_law 272 = .ok (.iconst 1, 1)) ∧ (decode cL_law 273 = .ok (.iadd, 1)) ∧ (decode cL_law 274 = .ok (.iaload, 1)) ∧ (decode cL_law 275 = .ok (.invokevirtual 18, 3)) ∧ (decode cL_law 278 = .ok (.pop, 1)) ∧ (decode cL_law 279 = .ok (.aload_n 2, 1)) ∧ (decode cL_law 280 = .ok (.aload_n 0, 1)) ∧ (decode cL_law 281 = .ok (.iload_n 3, 1)) ∧ (decode cL_law 282 = .ok (.iconst 1, 1)) ∧ (decode cL_law 283 = .ok (.iadd, 1)) ∧ (decode cL_law 284 = .ok (.iaload, 1)) ∧ (decode cL_law 285 = .ok (.invokevirtual 22, 3)) ∧ (decode cL_law 288 = .ok (.pop, 1)) ∧ (decode cL_law 289 = .ok (.goto 1625, 3)) ∧ (decode cL_law 292 = .ok (.aload_n 1, 1)) ∧ (decode cL_law 293 = .ok (.aload_n 0, 1)) ∧ (decode cL_law 294 = .ok (.iload_n 3, 1)) ∧ (decode cL_law 295 = .ok (.iconst 1, 1)) ∧ (decode cL_law 296 = .ok (.iadd, 1)) ∧ (decode cL_law 297 = .ok (.iaload, 1)) ∧ (decode cL_law 298 = .ok (.aload_n 0, 1)) ∧ (decode cL_law 299 = .ok (.iload_n 3, 1)) ∧ (decode cL_law 300 = .ok (.iconst 2, 1)) ∧ (decode cL_law 301 = .ok (.iadd, 1)) := by decide +kernel
theorem dL_law_272 : decode cL_law 272 = .ok (.iconst 1, 1) := dLg_3.1
theorem dL_law_273 : decode cL_law 273 = .ok (.iadd, 1) := dLg_3.2.1
theorem dL_law_274 : decode cL_law 274 = .ok (.iaload, 1) := dLg_3.2.2.1
theorem dL_law_275 : decode cL_law 275 = .ok (.invokevirtual 18, 3) := dLg_3.2.2.2.1
theorem dL_law_278 : decode cL_law 278 = .ok (.pop, 1) := dLg_3.2.2.2.2.1
theorem dL_law_279 : decode cL_law 279 = .ok (.aload_n 2, 1) := dLg_3.2.2.2.2.2.1
theorem dL_law_280 : decode cL_law 280 = .ok (.aload_n 0, 1) := dLg_3.2.2.2.2.2.2.1
theorem dL_law_281 : decode cL_law 281 = .ok (.iload_n 3, 1) := dLg_3.2.2.2.2.2.2.2.1
theorem dL_law_282 : decode cL_law 282 = .ok (.iconst 1, 1) := dLg_3.2.2.2.2.2.2.2.2.1
theorem dL_law_283 : decode cL_law 283 = .ok (.iadd, 1) := dLg_3.2.2.2.2.2.2.2.2.2.1
theorem dL_law_284 : decode cL_law 284 = .ok (.iaload, 1) := dLg_3.2.2.2.2.2.2.2.2.2.2.1
theorem dL_law_285 : decode cL_law 285 = .ok (.invokevirtual 22, 3) := dLg_3.2.2.2.2.2.2.2.2.2.2.2.1
theorem dL_law_288 : decode cL_law 288 = .ok (.pop, 1) := dLg_3.2.2.2.2.2.2.2.2.2.2.2.2.1
theorem dL_law_289 : decode cL_law 289 = .ok (.goto 1625, 3) := dLg_3.2.2.2.2.2.2.2.2.2.2.2.2.2.1
theorem dL_law_292 : decode cL_law 292 = .ok (.aload_n 1, 1) := dLg_3.2.2.2.2.2.2.2.2.2.2.2.2.2.2.1
theorem dL_law_293 : decode cL_law 293 = .ok (.aload_n 0, 1) := dLg_3.2.2.2.2.2.2.2.2.2.2.2.2.2.2.2.1
theorem dL_law_294 : decode cL_law 294 = .ok (.iload_n 3, 1) := dLg_3.2.2.2.2.2.2.2.2.2.2.2.2.2.2.2.2.1
theorem dL_law_295 : decode cL_law 295 = .ok (.iconst 1, 1) := dLg_3.2.2.2.2.2.2.2.2.2.2.2.2.2.2.2.2.2.1
theorem dL_law_296 : decode cL_law 296 = .ok (.iadd, 1) := dLg_3.2.2.2.2.2.2.2.2.2.2.2.2.2.2.2.2.2.2.1
theorem dL_law_297 : decode cL_law 297 = .ok (.iaload, 1) := dLg_3.2.2.2.2.2.2.2.2.2.2.2.2.2.2.2.2.2.2.2.1
theorem dL_law_298 : decode cL_law 298 = .ok (.aload_n 0, 1) := dLg_3.2.2.2.2.2.2.2.2.2.2.2.2.2.2.2.2.2.2.2.2.1
theorem dL_law_299 : decode cL_law 299 = .ok (.iload_n 3, 1) := dLg_3.2.2.2.2.2.2.2.2.2.2.2.2.2.2.2.2.2.2.2.2.2.1
theorem dL_law_300 : decode cL_law 300 = .ok (.iconst 2, 1) := dLg_3.2.2.2.2.2.2.2.2.2.2.2.2.2.2.2.2.2.2.2.2.2.2.1
theorem dL_law_301 : decode cL_law 301 = .ok (.iadd, 1) := dLg_3.2.2.2.2.2.2.2.2.2.2.2.2.2.2.2.2.2.2.2.2.2.2.2
theorem dLg_4 : (decode cL_law 302 = .ok (.iaload, 1)) ∧ (decode cL_law 303 = .ok (.aload_n 0, 1)) ∧ (decode cL_law 304 = .ok (.iload_n 3, 1)) ∧ (decode cL_law 305 = .ok (.iconst 3, 1)) ∧ (decode cL_law 306 = .ok (.iadd, 1)) ∧ (decode cL_law 307 = .ok (.iaload, 1)) ∧ (decode cL_law 308 = .ok (.invokevirtual 23, 3)) ∧ (decode cL_law 311 = .ok (.pop, 1)) ∧ (decode cL_law 312 = .ok (.aload_n 2, 1)) ∧ (decode cL_law 313 = .ok (.aload_n 0, 1)) ∧ (decode cL_law 314 = .ok (.iload_n 3, 1)) ∧ (decode cL_law 315 = .ok (.iconst 1, 1)) ∧ (decode cL_law 316 = .ok (.iadd, 1)) ∧ (decode cL_law 317 = .ok (.iaload, 1)) ∧ (decode cL_law 318 = .ok (.aload_n 0, 1)) ∧ (decode cL_law 319 = .ok (.iload_n 3, 1)) ∧ (decode cL_law 320 = .ok (.iconst 2, 1)) ∧ (decode cL_law 321 = .ok (.iadd, 1)) ∧ (decode cL_law 322 = .ok (.iaload, 1)) ∧ (decode cL_law 323 = .ok (.aload_n 0, 1)) ∧ (decode cL_law 324 = .ok (.iload_n 3, 1)) ∧ (decode cL_law 325 = .ok (.iconst 3, 1)) ∧ (decode cL_law 326 = .ok (.iadd, 1)) ∧ (decode cL_law 327 = .ok (.iaload, 1)) := by decide +kernel
theorem dL_law_302 : decode cL_law 302 = .ok (.iaload, 1) := dLg_4.1
theorem dL_law_303 : decode cL_law 303 = .ok (.aload_n 0, 1) := dLg_4.2.1
theorem dL_law_304 : decode cL_law 304 = .ok (.iload_n 3, 1) := dLg_4.2.2.1
theorem dL_law_305 : decode cL_law 305 = .ok (.iconst 3, 1) := dLg_4.2.2.2.1
theorem dL_law_306 : decode cL_law 306 = .ok (.iadd, 1) := dLg_4.2.2.2.2.1
theorem dL_law_307 : decode cL_law 307 = .ok (.iaload, 1) := dLg_4.2.2.2.2.2.1
theorem dL_law_308 : decode cL_law 308 = .ok (.invokevirtual 23, 3) := dLg_4.2.2.2.2.2.2.1
theorem dL_law_311 : decode cL_law 311 = .ok (.pop, 1) := dLg_4.2.2.2.2.2.2.2.1
theorem dL_law_312 : decode cL_law 312 = .ok (.aload_n 2, 1) := dLg_4.2.2.2.2.2.2.2.2.1
theorem dL_law_313 : decode cL_law 313 = .ok (.aload_n 0, 1) := dLg_4.2.2.2.2.2.2.2.2.2.1
theorem dL_law_314 : decode cL_law 314 = .ok (.iload_n 3, 1) := dLg_4.2.2.2.2.2.2.2.2.2.2.1
theorem dL_law_315 : decode cL_law 315 = .ok (.iconst 1, 1) := dLg_4.2.2.2.2.2.2.2.2.2.2.2.1
theorem dL_law_316 : decode cL_law 316 = .ok (.iadd, 1) := dLg_4.2.2.2.2.2.2.2.2.2.2.2.2.1
theorem dL_law_317 : decode cL_law 317 = .ok (.iaload, 1) := dLg_4.2.2.2.2.2.2.2.2.2.2.2.2.2.1
theorem dL_law_318 : decode cL_law 318 = .ok (.aload_n 0, 1) := dLg_4.2.2.2.2.2.2.2.2.2.2.2.2.2.2.1
theorem dL_law_319 : decode cL_law 319 = .ok (.iload_n 3, 1) := dLg_4.2.2.2.2.2.2.2.2.2.2.2.2.2.2.2.1
theorem dL_law_320 : decode cL_law 320 = .ok (.iconst 2, 1) := dLg_4.2.2.2.2.2.2.2.2.2.2.2.2.2.2.2.2.1
theorem dL_law_321 : decode cL_law 321 = .ok (.iadd, 1) := dLg_4.2.2.2.2.2.2.2.2.2.2.2.2.2.2.2.2.2.1
theorem dL_law_322 : decode cL_law 322 = .ok (.iaload, 1) := dLg_4.2.2.2.2.2.2.2.2.2.2.2.2.2.2.2.2.2.2.1
theorem dL_law_323 : decode cL_law 323 = .ok (.aload_n 0, 1) := dLg_4.2.2.2.2.2.2.2.2.2.2.2.2.2.2.2.2.2.2.2.1
theorem dL_law_324 : decode cL_law 324 = .ok (.iload_n 3, 1) := dLg_4.2.2.2.2.2.2.2.2.2.2.2.2.2.2.2.2.2.2.2.2.1
theorem dL_law_325 : decode cL_law 325 = .ok (.iconst 3, 1) := dLg_4.2.2.2.2.2.2.2.2.2.2.2.2.2.2.2.2.2.2.2.2.2.1
theorem dL_law_326 : decode cL_law 326 = .ok (.iadd, 1) := dLg_4.2.2.2.2.2.2.2.2.2.2.2.2.2.2.2.2.2.2.2.2.2.2.1
theorem dL_law_327 : decode cL_law 327 = .ok (.iaload, 1) := dLg_4.2.2.2.2.2.2.2.2.2.2.2.2.2.2.2.2.2.2.2.2.2.2.2
theorem dLg_5 : (decode cL_law 328 = .ok (.invokevirtual 27, 3)) ∧ (decode cL_law 331 = .ok (.pop, 1)) ∧ (decode cL_law 332 = .ok (.goto 1582, 3)) ∧ (decode cL_law 335 = .ok (.aload_n 1, 1)) ∧ (decode cL_law 336 = .ok (.aload_n 0, 1)) ∧ (decode cL_law 337 = .ok (.iload_n 3, 1)) ∧ (decode cL_law 338 = .ok (.iconst 1, 1)) ∧ (decode cL_law 339 = .ok (.iadd, 1)) ∧ (decode cL_law 340 = .ok (.iaload, 1)) ∧ (decode cL_law 341 = .ok (.aload_n 0, 1)) ∧ (decode cL_law 342 = .ok (.iload_n 3, 1)) ∧ (decode cL_law 343 = .ok (.iconst 2, 1)) ∧ (decode cL_law 344 = .ok (.iadd, 1)) ∧ (decode cL_law 345 = .ok (.iaload, 1)) ∧ (decode cL_law 346 = .ok (.aload_n 0, 1)) ∧ (decode cL_law 347 = .ok (.iload_n 3, 1)) ∧ (decode cL_law 348 = .ok (.iconst 3, 1)) ∧ (decode cL_law 349 = .ok (.iadd, 1)) ∧ (decode cL_law 350 = .ok (.iaload, 1)) ∧ (decode cL_law 351 = .ok (.aload_n 0, 1)) ∧ (decode cL_law 352 = .ok (.iload_n 3, 1)) ∧ (decode cL_law 353 = .ok (.iconst 4, 1)) ∧ (decode cL_law 354 = .ok (.iadd, 1)) ∧ (decode cL_law 355 = .ok (.iaload, 1)) := by decide +kernel
theorem dL_law_328 : decode cL_law 328 = .ok (.invokevirtual 27, 3) := dLg_5.1
theorem dL_law_331 : decode cL_law 331 = .ok (.pop, 1) := dLg_5.2.1
theorem dL_law_332 : decode cL_law 332 = .ok (.goto 1582, 3) := dLg_5.2.2.1
theorem dL_law_335 : decode cL_law 335 = .ok (.aload_n 1, 1) := dLg_5.2.2.2.1
theorem dL_law_336 : decode cL_law 336 = .ok (.aload_n 0, 1) := dLg_5.2.2.2.2.1
theorem dL_law_337 : decode cL_law 337 = .ok (.iload_n 3, 1) := dLg_5.2.2.2.2.2.1
theorem dL_law_338 : decode cL_law 338 = .ok (.iconst 1, 1) := dLg_5.2.2.2.2.2.2.1
theorem dL_law_339 : decode cL_law 339 = .ok (.iadd, 1) := dLg_5.2.2.2.2.2.2.2.1
theorem dL_law_340 : decode cL_law 340 = .ok (.iaload, 1) := dLg_5.2.2.2.2.2.2.2.2.1
theorem dL_law_341 : decode cL_law 341 = .ok (.aload_n 0, 1) := dLg_5.2.2.2.2.2.2.2.2.2.1
theorem dL_law_342 : decode cL_law 342 = .ok (.iload_n 3, 1) := dLg_5.2.2.2.2.2.2.2.2.2.2.1
theorem dL_law_343 : decode cL_law 343 = .ok (.iconst 2, 1) := dLg_5.2.2.2.2.2.2.2.2.2.2.2.1
theorem dL_law_344 : decode cL_law 344 = .ok (.iadd, 1) := dLg_5.2.2.2.2.2.2.2.2.2.2.2.2.1
theorem dL_law_345 : decode cL_law 345 = .ok (.iaload, 1) := dLg_5.2.2.2.2.2.2.2.2.2.2.2.2.2.1
theorem dL_law_346 : decode cL_law 346 = .ok (.aload_n 0, 1) := dLg_5.2.2.2.2.2.2.2.2.2.2.2.2.2.2.1
theorem dL_law_347 : decode cL_law 347 = .ok (.iload_n 3, 1) := dLg_5.2.2.2.2.2.2.2.2.2.2.2.2.2.2.2.1
theorem dL_law_348 : decode cL_law 348 = .ok (.iconst 3, 1) := dLg_5.2.2.2.2.2.2.2.2.2.2.2.2.2.2.2.2.1
theorem dL_law_349 : decode cL_law 349 = .ok (.iadd, 1) := dLg_5.2.2.2.2.2.2.2.2.2.2.2.2.2.2.2.2.2.1
theorem dL_law_350 : decode cL_law 350 = .ok (.iaload, 1) := dLg_5.2.2.2.2.2.2.2.2.2.2.2.2.2.2.2.2.2.2.1
theorem dL_law_351 : decode cL_law 351 = .ok (.aload_n 0, 1) := dLg_5.2.2.2.2.2.2.2.2.2.2.2.2.2.2.2.2.2.2.2.1
theorem dL_law_352 : decode cL_law 352 = .ok (.iload_n 3, 1) := dLg_5.2.2.2.2.2.2.2.2.2.2.2.2.2.2.2.2.2.2.2.2.1
theorem dL_law_353 : decode cL_law 353 = .ok (.iconst 4, 1) := dLg_5.2.2.2.2.2.2.2.2.2.2.2.2.2.2.2.2.2.2.2.2.2.1
theorem dL_law_354 : decode cL_law 354 = .ok (.iadd, 1) := dLg_5.2.2.2.2.2.2.2.2.2.2.2.2.2.2.2.2.2.2.2.2.2.2.1
theorem dL_law_355 : decode cL_law 355 = .ok (.iaload, 1) := dLg_5.2.2.2.2.2.2.2.2.2.2.2.2.2.2.2.2.2.2.2.2.2.2.2
theorem dLg_6 : (decode cL_law 356 = .ok (.invokevirtual 28, 3)) ∧ (decode cL_law 359 = .ok (.pop, 1)) ∧ (decode cL_law 360 = .ok (.aload_n 2, 1)) ∧ (decode cL_law 361 = .ok (.aload_n 0, 1)) ∧ (decode cL_law 362 = .ok (.iload_n 3, 1)) ∧ (decode cL_law 363 = .ok (.iconst 1, 1)) ∧ (decode cL_law 364 = .ok (.iadd, 1)) ∧ (decode cL_law 365 = .ok (.iaload, 1)) ∧ (decode cL_law 366 = .ok (.aload_n 0, 1)) ∧ (decode cL_law 367 = .ok (.iload_n 3, 1)) ∧ (decode cL_law 368 = .ok (.iconst 2, 1)) ∧ (decode cL_law 369 = .ok (.iadd, 1)) ∧ (decode cL_law 370 = .ok (.iaload, 1)) ∧ (decode cL_law 371 = .ok (.aload_n 0, 1)) ∧ (decode cL_law 372 = .ok (.iload_n 3, 1)) ∧ (decode cL_law 373 = .ok (.iconst 3, 1)) ∧ (decode cL_law 374 = .ok (.iadd, 1)) ∧ (decode cL_law 375 = .ok (.iaload, 1)) ∧ (decode cL_law 376 = .ok (.aload_n 0, 1)) ∧ (decode cL_law 377 = .ok (.iload_n 3, 1)) ∧ (decode cL_law 378 = .ok (.iconst 4, 1)) ∧ (decode cL_law 379 = .ok (.iadd, 1)) ∧ (decode cL_law 380 = .ok (.iaload, 1)) ∧ (decode cL_law 381 = .ok (.invokevirtual 32, 3)) := by decide +kernel
theorem dL_law_356 : decode cL_law 356 = .ok (.invokevirtual 28, 3) := dLg_6.1
theorem dL_law_359 : decode cL_law 359 = .ok (.pop, 1) := dLg_6.2.1
theorem dL_law_360 : decode cL_law 360 = .ok (.aload_n 2, 1) := dLg_6.2.2.1
theorem dL_law_361 : decode cL_law 361 = .ok (.aload_n 0, 1) := dLg_6.2.2.2.1
theorem dL_law_362 : decode cL_law 362 = .ok (.iload_n 3, 1) := dLg_6.2.2.2.2.1
theorem dL_law_363 : decode cL_law 363 = .ok (.iconst 1, 1) := dLg_6.2.2.2.2.2.1
theorem dL_law_364 : decode cL_law 364 = .ok (.iadd, 1) := dLg_6.2.2.2.2.2.2.1
theorem dL_law_365 : decode cL_law 365 = .ok (.iaload, 1) := dLg_6.2.2.2.2.2.2.2.1
theorem dL_law_366 : decode cL_law 366 = .ok (.aload_n 0, 1) := dLg_6.2.2.2.2.2.2.2.2.1
theorem dL_law_367 : decode cL_law 367 = .ok (.iload_n 3, 1) := dLg_6.2.2.2.2.2.2.2.2.2.1
theorem dL_law_368 : decode cL_law 368 = .ok (.iconst 2, 1) := dLg_6.2.2.2.2.2.2.2.2.2.2.1
theorem dL_law_369 : decode cL_law 369 = .ok (.iadd, 1) := dLg_6.2.2.2.2.2.2.2.2.2.2.2.1
theorem dL_law_370 : decode cL_law 370 = .ok (.iaload, 1) := dLg_6.2.2.2.2.2.2.2.2.2.2.2.2.1
theorem dL_law_371 : decode cL_law 371 = .ok (.aload_n 0, 1) := dLg_6.2.2.2.2.2.2.2.2.2.2.2.2.2.1
theorem dL_law_372 : decode cL_law 372 = .ok (.iload_n 3, 1) := dLg_6.2.2.2.2.2.2.2.2.2.2.2.2.2.2.1
theorem dL_law_373 : decode cL_law 373 = .ok (.iconst 3, 1) := dLg_6.2.2.2.2.2.2.2.2.2.2.2.2.2.2.2.1
theorem dL_law_374 : decode cL_law 374 = .ok (.iadd, 1) := dLg_6.2.2.2.2.2.2.2.2.2.2.2.2.2.2.2.2.1
theorem dL_law_375 : decode cL_law 375 = .ok (.iaload, 1) := dLg_6.2.2.2.2.2.2.2.2.2.2.2.2.2.2.2.2.2.1
theorem dL_law_376 : decode cL_law 376 = .ok (.aload_n 0, 1) := dLg_6.2.2.2.2.2.2.2.2.2.2.2.2.2.2.2.2.2.2.1
theorem dL_law_377 : decode cL_law 377 = .ok (.iload_n 3, 1) := dLg_6.2.2.2.2.2.2.2.2.2.2.2.2.2.2.2.2.2.2.2.1
theorem dL_law_378 : decode cL_law 378 = .ok (.iconst 4, 1) := dLg_6.2.2.2.2.2.2.2.2.2.2.2.2.2.2.2.2.2.2.2.2.1
theorem dL_law_379 : decode cL_law 379 = .ok (.iadd, 1) := dLg_6.2.2.2.2.2.2.2.2.2.2.2.2.2.2.2.2.2.2.2.2.2.1
theorem dL_law_380 : decode cL_law 380 = .ok (.iaload, 1) := dLg_6.2.2.2.2.2.2.2.2.2.2.2.2.2.2.2.2.2.2.2.2.2.2.1
theorem dL_law_381 : decode cL_law 381 = .ok (.invokevirtual 32, 3) := dLg_6.2.2.2.2.2.2.2.2.2.2.2.2.2.2.2.2.2.2.2.2.2.2.2
theorem dLg_7 : (decode cL_law 384 = .ok (.pop, 1)) ∧ (decode cL_law 385 = .ok (.goto 1529, 3)) ∧ (decode cL_law 388 = .ok (.aload_n 1, 1)) ∧ (decode cL_law 389 = .ok (.aload_n 0, 1)) ∧ (decode cL_law 390 = .ok (.iload_n 3, 1)) ∧ (decode cL_law 391 = .ok (.iconst 1, 1)) ∧ (decode cL_law 392 = .ok (.iadd, 1)) ∧ (decode cL_law 393 = .ok (.iaload, 1)) ∧ (decode cL_law 394 = .ok (.aload_n 0, 1)) ∧ (decode cL_law 395 = .ok (.iload_n 3, 1)) ∧ (decode cL_law 396 = .ok (.iconst 2, 1)) ∧ (decode cL_law 397 = .ok (.iadd, 1)) ∧ (decode cL_law 398 = .ok (.iaload, 1)) ∧ (decode cL_law 399 = .ok (.aload_n 0, 1)) ∧ (decode cL_law 400 = .ok (.iload_n 3, 1)) ∧ (decode cL_law 401 = .ok (.iconst 3, 1)) ∧ (decode cL_law 402 = .ok (.iadd, 1)) ∧ (decode cL_law 403 = .ok (.iaload, 1)) ∧ (decode cL_law 404 = .ok (.aload_n 0, 1)) ∧ (decode cL_law 405 = .ok (.iload_n 3, 1)) ∧ (decode cL_law 406 = .ok (.iconst 4, 1)) ∧ (decode cL_law 407 = .ok (.iadd, 1)) ∧ (decode cL_law 408 = .ok (.iaload, 1)) ∧ (decode cL_law 409 = .ok (.aload_n 0, 1)) := by decide +kernel
theorem dL_law_384 : decode cL_law 384 = .ok (.pop, 1) := dLg_7.1
theorem dL_law_385 : decode cL_law 385 = .ok (.goto 1529, 3) := dLg_7.2.1
theorem dL_law_388 : decode cL_law 388 = .ok (.aload_n 1, 1) := dLg_7.2.2.1
theorem dL_law_389 : decode cL_law 389 = .ok (.aload_n 0, 1) := dLg_7.2.2.2.1
theorem dL_law_390 : decode cL_law 390 = .ok (.iload_n 3, 1) := dLg_7.2.2.2.2.1
theorem dL_law_391 : decode cL_law 391 = .ok (.iconst 1, 1) := dLg_7.2.2.2.2.2.1
theorem dL_law_392 : decode cL_law 392 = .ok (.iadd, 1) := dLg_7.2.2.2.2.2.2.1
theorem dL_law_393 : decode cL_law 393 = .ok (.iaload, 1) := dLg_7.2.2.2.2.2.2.2.1
theorem dL_law_394 : decode cL_law 394 = .ok (.aload_n 0, 1) := dLg_7.2.2.2.2.2.2.2.2.1
theorem dL_law_395 : decode cL_law 395 = .ok (.iload_n 3, 1) := dLg_7.2.2.2.2.2.2.2.2.2.1
theorem dL_law_396 : decode cL_law 396 = .ok (.iconst 2, 1) := dLg_7.2.2.2.2.2.2.2.2.2.2.1
theorem dL_law_397 : decode cL_law 397 = .ok (.iadd, 1) := dLg_7.2.2.2.2.2.2.2.2.2.2.2.1
theorem dL_law_398 : decode cL_law 398 = .ok (.iaload, 1) := dLg_7.2.2.2.2.2.2.2.2.2.2.2.2.1
theorem dL_law_399 : decode cL_law 399 = .ok (.aload_n 0, 1) := dLg_7.2.2.2.2.2.2.2.2.2.2.2.2.2.1
theorem dL_law_400 : decode cL_law 400 = .ok (.iload_n 3, 1) := dLg_7.2.2.2.2.2.2.2.2.2.2.2.2.2.2.1
theorem dL_law_401 : decode cL_law 401 = .ok (.iconst 3, 1) := dLg_7.2.2.2.2.2.2.2.2.2.2.2.2.2.2.2.1
theorem dL_law_402 : decode cL_law 402 = .ok (.iadd, 1) := dLg_7.2.2.2.2.2.2.2.2.2.2.2.2.2.2.2.2.1
theorem dL_law_403 : decode cL_law 403 = .ok (.iaload, 1) := dLg_7.2.2.2.2.2.2.2.2.2.2.2.2.2.2.2.2.2.1
theorem dL_law_404 : decode cL_law 404 = .ok (.aload_n 0, 1) := dLg_7.2.2.2.2.2.2.2.2.2.2.2.2.2.2.2.2.2.2.1
theorem dL_law_405 : decode cL_law 405 = .ok (.iload_n 3, 1) := dLg_7.2.2.2.2.2.2.2.2.2.2.2.2.2.2.2.2.2.2.2.1
theorem dL_law_406 : decode cL_law 406 = .ok (.iconst 4, 1) := dLg_7.2.2.2.2.2.2.2.2.2.2.2.2.2.2.2.2.2.2.2.2.1
theorem dL_law_407 : decode cL_law 407 = .ok (.iadd, 1) := dLg_7.2.2.2.2.2.2.2.2.2.2.2.2.2.2.2.2.2.2.2.2.2.1
theorem dL_law_408 : decode cL_law 408 = .ok (.iaload, 1) := dLg_7.2.2.2.2.2.2.2.2.2.2.2.2.2.2.2.2.2.2.2.2.2.2.1
theorem dL_law_409 : decode cL_law 409 = .ok (.aload_n 0, 1) := dLg_7.2.2.2.2.2.2.2.2.2.2.2.2.2.2.2.2.2.2.2.2.2.2.2
theorem dLg_8 : (decode cL_law 410 = .ok (.iload_n 3, 1)) ∧ (decode cL_law 411 = .ok (.iconst 5, 1)) ∧ (decode cL_law 412 = .ok (.iadd, 1)) ∧ (decode cL_law 413 = .ok (.iaload, 1)) ∧ (decode cL_law 414 = .ok (.invokevirtual 33, 3)) ∧ (decode cL_law 417 = .ok (.pop, 1)) ∧ (decode cL_law 418 = .ok (.aload_n 2, 1)) ∧ (decode cL_law 419 = .ok (.aload_n 0, 1)) ∧ (decode cL_law 420 = .ok (.iload_n 3, 1)) ∧ (decode cL_law 421 = .ok (.iconst 1, 1)) ∧ (decode cL_law 422 = .ok (.iadd, 1)) ∧ (decode cL_law 423 = .ok (.iaload, 1)) ∧ (decode cL_law 424 = .ok (.aload_n 0, 1)) ∧ (decode cL_law 425 = .ok (.iload_n 3, 1)) ∧ (decode cL_law 426 = .ok (.iconst 2, 1)) ∧ (decode cL_law 427 = .ok (.iadd, 1)) ∧ (decode cL_law 428 = .ok (.iaload, 1)) ∧ (decode cL_law 429 = .ok (.aload_n 0, 1)) ∧ (decode cL_law 430 = .ok (.iload_n 3, 1)) ∧ (decode cL_law 431 = .ok (.iconst 3, 1)) ∧ (decode cL_law 432 = .ok (.iadd, 1)) ∧ (decode cL_law 433 = .ok (.iaload, 1)) ∧ (decode cL_law 434 = .ok (.aload_n 0, 1)) ∧ (decode cL_law 435 = .ok (.iload_n 3, 1)) := by decide +kernel
theorem dL_law_410 : decode cL_law 410 = .ok (.iload_n 3, 1) := dLg_8.1
theorem dL_law_411 : decode cL_law 411 = .ok (.iconst 5, 1) := dLg_8.2.1
theorem dL_law_412 : decode cL_law 412 = .ok (.iadd, 1) := dLg_8.2.2.1
theorem dL_law_413 : decode cL_law 413 = .ok (.iaload, 1) := dLg_8.2.2.2.1
theorem dL_law_414 : decode cL_law 414 = .ok (.invokevirtual 33, 3) := dLg_8.2.2.2.2.1
theorem dL_law_417 : decode cL_law 417 = .ok (.pop, 1) := dLg_8.2.2.2.2.2.1
theorem dL_law_418 : decode cL_law 418 = .ok (.aload_n 2, 1) := dLg_8.2.2.2.2.2.2.1
theorem dL_law_419 : decode cL_law 419 = .ok (.aload_n 0, 1) := dLg_8.2.2.2.2.2.2.2.1
theorem dL_law_420 : decode cL_law 420 = .ok (.iload_n 3, 1) := dLg_8.2.2.2.2.2.2.2.2.1
theorem dL_law_421 : decode cL_law 421 = .ok (.iconst 1, 1) := dLg_8.2.2.2.2.2.2.2.2.2.1
theorem dL_law_422 : decode cL_law 422 = .ok (.iadd, 1) := dLg_8.2.2.2.2.2.2.2.2.2.2.1
theorem dL_law_423 : decode cL_law 423 = .ok (.iaload, 1) := dLg_8.2.2.2.2.2.2.2.2.2.2.2.1
theorem dL_law_424 : decode cL_law 424 = .ok (.aload_n 0, 1) := dLg_8.2.2.2.2.2.2.2.2.2.2.2.2.1
theorem dL_law_425 : decode cL_law 425 = .ok (.iload_n 3, 1) := dLg_8.2.2.2.2.2.2.2.2.2.2.2.2.2.1
theorem dL_law_426 : decode cL_law 426 = .ok (.iconst 2, 1) := dLg_8.2.2.2.2.2.2.2.2.2.2.2.2.2.2.1
theorem dL_law_427 : decode cL_law 427 = .ok (.iadd, 1) := dLg_8.2.2.2.2.2.2.2.2.2.2.2.2.2.2.2.1
theorem dL_law_428 : decode cL_law 428 = .ok (.iaload, 1) := dLg_8.2.2.2.2.2.2.2.2.2.2.2.2.2.2.2.2.1
theorem dL_law_429 : decode cL_law 429 = .ok (.aload_n 0, 1) := dLg_8.2.2.2.2.2.2.2.2.2.2.2.2.2.2.2.2.2.1
theorem dL_law_430 : decode cL_law 430 = .ok (.iload_n 3, 1) := dLg_8.2.2.2.2.2.2.2.2.2.2.2.2.2.2.2.2.2.2.1
theorem dL_law_431 : decode cL_law 431 = .ok (.iconst 3, 1) := dLg_8.2.2.2.2.2.2.2.2.2.2.2.2.2.2.2.2.2.2.2.1
theorem dL_law_432 : decode cL_law 432 = .ok (.iadd, 1) := dLg_8.2.2.2.2.2.2.2.2.2.2.2.2.2.2.2.2.2.2.2.2.1
theorem dL_law_433 : decode cL_law 433 = .ok (.iaload, 1) := dLg_8.2.2.2.2.2.2.2.2.2.2.2.2.2.2.2.2.2.2.2.2.2.1
theorem dL_law_434 : decode cL_law 434 = .ok (.aload_n 0, 1) := dLg_8.2.2.2.2.2.2.2.2.2.2.2.2.2.2.2.2.2.2.2.2.2.2.1
theorem dL_law_435 : decode cL_law 435 = .ok (.iload_n 3, 1) := dLg_8.2.2.2.2.2.2.2.2.2.2.2.2.2.2.2.2.2.2.2.2.2.2.2
theorem dLg_9 : (decode cL_law 436 = .ok (.iconst 4, 1)) ∧ (decode cL_law 437 = .ok (.iadd, 1)) ∧ (decode cL_law 438 = .ok (.iaload, 1)) ∧ (decode cL_law 439 = .ok (.aload_n 0, 1)) ∧ (decode cL_law 440 = .ok (.iload_n 3, 1)) ∧ (decode cL_law 441 = .ok (.iconst 5, 1)) ∧ (decode cL_law 442 = .ok (.iadd, 1)) ∧ (decode cL_law 443 = .ok (.iaload, 1)) ∧ (decode cL_law 444 = .ok (.invokevirtual 37, 3)) ∧ (decode cL_law 447 = .ok (.pop, 1)) ∧ (decode cL_law 448 = .ok (.goto 1466, 3)) ∧ (decode cL_law 451 = .ok (.aload_n 1, 1)) ∧ (decode cL_law 452 = .ok (.aload_n 0, 1)) ∧ (decode cL_law 453 = .ok (.iload_n 3, 1)) ∧ (decode cL_law 454 = .ok (.iconst 1, 1)) ∧ (decode cL_law 455 = .ok (.iadd, 1)) ∧ (decode cL_law 456 = .ok (.iaload, 1)) ∧ (decode cL_law 457 = .ok (.invokevirtual 38, 3)) ∧ (decode cL_law 460 = .ok (.pop, 1)) ∧ (decode cL_law 461 = .ok (.aload_n 2, 1)) ∧ (decode cL_law 462 = .ok (.aload_n 0, 1)) ∧ (decode cL_law 463 = .ok (.iload_n 3, 1)) ∧ (decode cL_law 464 = .ok (.iconst 1, 1)) ∧ (decode cL_law 465 = .ok (.iadd, 1)) := by decide +kernel
theorem dL_law_436 : decode cL_law 436 = .ok (.iconst 4, 1) := dLg_9.1
theorem dL_law_437 : decode cL_law 437 = .ok (.iadd, 1) := dLg_9.2.1
theorem dL_law_438 : decode cL_law 438 = .ok (.iaload, 1) := dLg_9.2.2.1
theorem dL_law_439 : decode cL_law 439 = .ok (.aload_n 0, 1) := dLg_9.2.2.2.1
theorem dL_law_440 : decode cL_law 440 = .ok (.iload_n 3, 1) := dLg_9.2.2.2.2.1
theorem dL_law_441 : decode cL_law 441 = .ok (.iconst 5, 1) := dLg_9.2.2.2.2.2.1
theorem dL_law_442 : decode cL_law 442 = .ok (.iadd, 1) := dLg_9.2.2.2.2.2.2.1
theorem dL_law_443 : decode cL_law 443 = .ok (.iaload, 1) := dLg_9.2.2.2.2.2.2.2.1
theorem dL_law_444 : decode cL_law 444 = .ok (.invokevirtual 37, 3) := dLg_9.2.2.2.2.2.2.2.2.1
theorem dL_law_447 : decode cL_law 447 = .ok (.pop, 1) := dLg_9.2.2.2.2.2.2.2.2.2.1
theorem dL_law_448 : decode cL_law 448 = .ok (.goto 1466, 3) := dLg_9.2.2.2.2.2.2.2.2.2.2.1
theorem dL_law_451 : decode cL_law 451 = .ok (.aload_n 1, 1) := dLg_9.2.2.2.2.2.2.2.2.2.2.2.1
theorem dL_law_452 : decode cL_law 452 = .ok (.aload_n 0, 1) := dLg_9.2.2.2.2.2.2.2.2.2.2.2.2.1
theorem dL_law_453 : decode cL_law 453 = .ok (.iload_n 3, 1) := dLg_9.2.2.2.2.2.2.2.2.2.2.2.2.2.1
theorem dL_law_454 : decode cL_law 454 = .ok (.iconst 1, 1) := dLg_9.2.2.2.2.2.2.2.2.2.2.2.2.2.2.1
theorem dL_law_455 : decode cL_law 455 = .ok (.iadd, 1) := dLg_9.2.2.2.2.2.2.2.2.2.2.2.2.2.2.2.1
theorem dL_law_456 : decode cL_law 456 = .ok (.iaload, 1) := dLg_9.2.2.2.2.2.2.2.2.2.2.2.2.2.2.2.2.1
theorem dL_law_457 : decode cL_law 457 = .ok (.invokevirtual 38, 3) := dLg_9.2.2.2.2.2.2.2.2.2.2.2.2.2.2.2.2.2.1
theorem dL_law_460 : decode cL_law 460 = .ok (.pop, 1) := dLg_9.2.2.2.2.2.2.2.2.2.2.2.2.2.2.2.2.2.2.1
theorem dL_law_461 : decode cL_law 461 = .ok (.aload_n 2, 1) := dLg_9.2.2.2.2.2.2.2.2.2.2.2.2.2.2.2.2.2.2.2.1
theorem dL_law_462 : decode cL_law 462 = .ok (.aload_n 0, 1) := dLg_9.2.2.2.2.2.2.2.2.2.2.2.2.2.2.2.2.2.2.2.2.1
theorem dL_law_463 : decode cL_law 463 = .ok (.iload_n 3, 1) := dLg_9.2.2.2.2.2.2.2.2.2.2.2.2.2.2.2.2.2.2.2.2.2.1
theorem dL_law_464 : decode cL_law 464 = .ok (.iconst 1, 1) := dLg_9.2.2.2.2.2.2.2.2.2.2.2.2.2.2.2.2.2.2.2.2.2.2.1
theorem dL_law_465 : decode cL_law 465 = .ok (.iadd, 1) := dLg_9.2.2.2.2.2.2.2.2.2.2.2.2.2.2.2.2.2.2.2.2.2.2.2
theorem dLg_10 : (decode cL_law 466 = .ok (.iaload, 1)) ∧ (decode cL_law 467 = .ok (.invokevirtual 41, 3)) ∧ (decode cL_law 470 = .ok (.pop, 1)) ∧ (decode cL_law 471 = .ok (.goto 1443, 3)) ∧ (decode cL_law 474 = .ok (.aload_n 1, 1)) ∧ (decode cL_law 475 = .ok (.invokevirtual 42, 3)) ∧ (decode cL_law 478 = .ok (.pop, 1)) ∧ (decode cL_law 479 = .ok (.aload_n 2, 1)) ∧ (decode cL_law 480 = .ok (.invokevirtual 46, 3)) ∧ (decode cL_law 483 = .ok (.pop, 1)) ∧ (decode cL_law 484 = .ok (.goto 1430, 3)) ∧ (decode cL_law 487 = .ok (.aload_n 1, 1)) ∧ (decode cL_law 488 = .ok (.aload_n 0, 1)) ∧ (decode cL_law 489 = .ok (.iload_n 3, 1)) ∧ (decode cL_law 490 = .ok (.iconst 1, 1)) ∧ (decode cL_law 491 = .ok (.iadd, 1)) ∧ (decode cL_law 492 = .ok (.iaload, 1)) ∧ (decode cL_law 493 = .ok (.invokevirtual 47, 3)) ∧ (decode cL_law 496 = .ok (.pop, 1)) ∧ (decode cL_law 497 = .ok (.aload_n 2, 1)) ∧ (decode cL_law 498 = .ok (.aload_n 0, 1)) ∧ (decode cL_law 499 = .ok (.iload_n 3, 1)) ∧ (decode cL_law 500 = .ok (.iconst 1, 1)) ∧ (decode cL_law 501 = .ok (.iadd, 1)) := by decide +kernel
theorem dL_law_466 : decode cL_law 466 = .ok (.iaload, 1) := dLg_10.1
theorem dL_law_467 : decode cL_law 467 = .ok (.invokevirtual 41, 3) := dLg_10.2.1
theorem dL_law_470 : decode cL_law 470 = .ok (.pop, 1) := dLg_10.2.2.1
theorem dL_law_471 : decode cL_law 471 = .ok (.goto 1443, 3) := dLg_10.2.2.2.1
theorem dL_law_474 : decode cL_law 474 = .ok (.aload_n 1, 1) := dLg_10.2.2.2.2.1
theorem dL_law_475 : decode cL_law 475 = .ok (.invokevirtual 42, 3) := dLg_10.2.2.2.2.2.1
theorem dL_law_478 : decode cL_law 478 = .ok (.pop, 1) := dLg_10.2.2.2.2.2.2.1
theorem dL_law_479 : decode cL_law 479 = .ok (.aload_n 2, 1) := dLg_10.2.2.2.2.2.2.2.1
theorem dL_law_480 : decode cL_law 480 = .ok (.invokevirtual 46, 3) := dLg_10.2.2.2.2.2.2.2.2.1
theorem dL_law_483 : decode cL_law 483 = .ok (.pop, 1) := dLg_10.2.2.2.2.2.2.2.2.2.1
theorem dL_law_484 : decode cL_law 484 = .ok (.goto 1430, 3) := dLg_10.2.2.2.2.2.2.2.2.2.2.1
theorem dL_law_487 : decode cL_law 487 = .ok (.aload_n 1, 1) := dLg_10.2.2.2.2.2.2.2.2.2.2.2.1
theorem dL_law_488 : decode cL_law 488 = .ok (.aload_n 0, 1) := dLg_10.2.2.2.2.2.2.2.2.2.2.2.2.1
theorem dL_law_489 : decode cL_law 489 = .ok (.iload_n 3, 1) := dLg_10.2.2.2.2.2.2.2.2.2.2.2.2.2.1
theorem dL_law_490 : decode cL_law 490 = .ok (.iconst 1, 1) := dLg_10.2.2.2.2.2.2.2.2.2.2.2.2.2.2.1
theorem dL_law_491 : decode cL_law 491 = .ok (.iadd, 1) := dLg_10.2.2.2.2.2.2.2.2.2.2.2.2.2.2.2.1
theorem dL_law_492 : decode cL_law 492 = .ok (.iaload, 1) := dLg_10.2.2.2.2.2.2.2.2.2.2.2.2.2.2.2.2.1
theorem dL_law_493 : decode cL_law 493 = .ok (.invokevirtual 47, 3) := dLg_10.2.2.2.2.2.2.2.2.2.2.2.2.2.2.2.2.2.1
theorem dL_law_496 : decode cL_law 496 = .ok (.pop, 1) := dLg_10.2.2.2.2.2.2.2.2.2.2.2.2.2.2.2.2.2.2.1
theorem dL_law_497 : decode cL_law 497 = .ok (.aload_n 2, 1) := dLg_10.2.2.2.2.2.2.2.2.2.2.2.2.2.2.2.2.2.2.2.1
theorem dL_law_498 : decode cL_law 498 = .ok (.aload_n 0, 1) := dLg_10.2.2.2.2.2.2.2.2.2.2.2.2.2.2.2.2.2.2.2.2.1
theorem dL_law_499 : decode cL_law 499 = .ok (.iload_n 3, 1) := dLg_10.2.2.2.2.2.2.2.2.2.2.2.2.2.2.2.2.2.2.2.2.2.1
theorem dL_law_500 : decode cL_law 500 = .ok (.iconst 1, 1) := dLg_10.2.2.2.2.2.2.2.2.2.2.2.2.2.2.2.2.2.2.2.2.2.2.1
theorem dL_law_501 : decode cL_law 501 = .ok (.iadd, 1) := dLg_10.2.2.2.2.2.2.2.2.2.2.2.2.2.2.2.2.2.2.2.2.2.2.2
theorem dLg_11 : (decode cL_law 502 = .ok (.iaload, 1)) ∧ (decode cL_law 503 = .ok (.invokevirtual 51, 3)) ∧ (decode cL_law 506 = .ok (.pop, 1)) ∧ (decode cL_law 507 = .ok (.goto 1407, 3)) ∧ (decode cL_law 510 = .ok (.aload_n 1, 1)) ∧ (decode cL_law 511 = .ok (.aload_n 0, 1)) ∧ (decode cL_law 512 = .ok (.iload_n 3, 1)) ∧ (decode cL_law 513 = .ok (.iconst 1, 1)) ∧ (decode cL_law 514 = .ok (.iadd, 1)) ∧ (decode cL_law 515 = .ok (.iaload, 1)) ∧ (decode cL_law 516 = .ok (.aload_n 0, 1)) ∧ (decode cL_law 517 = .ok (.iload_n 3, 1)) ∧ (decode cL_law 518 = .ok (.iconst 2, 1)) ∧ (decode cL_law 519 = .ok (.iadd, 1)) ∧ (decode cL_law 520 = .ok (.iaload, 1)) ∧ (decode cL_law 521 = .ok (.invokevirtual 52, 3)) ∧ (decode cL_law 524 = .ok (.pop, 1)) ∧ (decode cL_law 525 = .ok (.aload_n 2, 1)) ∧ (decode cL_law 526 = .ok (.aload_n 0, 1)) ∧ (decode cL_law 527 = .ok (.iload_n 3, 1)) ∧ (decode cL_law 528 = .ok (.iconst 1, 1)) ∧ (decode cL_law 529 = .ok (.iadd, 1)) ∧ (decode cL_law 530 = .ok (.iaload, 1)) ∧ (decode cL_law 531 = .ok (.aload_n 0, 1)) := by decide +kernel
theorem dL_law_502 : decode cL_law 502 = .ok (.iaload, 1) := dLg_11.1
theorem dL_law_503 : decode cL_law 503 = .ok (.invokevirtual 51, 3) := dLg_11.2.1
theorem dL_law_506 : decode cL_law 506 = .ok (.pop, 1) := dLg_11.2.2.1
theorem dL_law_507 : decode cL_law 507 = .ok (.goto 1407, 3) := dLg_11.2.2.2.1
theorem dL_law_510 : decode cL_law 510 = .ok (.aload_n 1, 1) := dLg_11.2.2.2.2.1
theorem dL_law_511 : decode cL_law 511 = .ok (.aload_n 0, 1) := dLg_11.2.2.2.2.2.1
theorem dL_law_512 : decode cL_law 512 = .ok (.iload_n 3, 1) := dLg_11.2.2.2.2.2.2.1
theorem dL_law_513 : decode cL_law 513 = .ok (.iconst 1, 1) := dLg_11.2.2.2.2.2.2.2.1
theorem dL_law_514 : decode cL_law 514 = .ok (.iadd, 1) := dLg_11.2.2.2.2.2.2.2.2.1
theorem dL_law_515 : decode cL_law 515 = .ok (.iaload, 1) := dLg_11.2.2.2.2.2.2.2.2.2.1
theorem dL_law_516 : decode cL_law 516 = .ok (.aload_n 0, 1) := dLg_11.2.2.2.2.2.2.2.2.2.2.1
theorem dL_law_517 : decode cL_law 517 = .ok (.iload_n 3, 1) := dLg_11.2.2.2.2.2.2.2.2.2.2.2.1
theorem dL_law_518 : decode cL_law 518 = .ok (.iconst 2, 1) := dLg_11.2.2.2.2.2.2.2.2.2.2.2.2.1
theorem dL_law_519 : decode cL_law 519 = .ok (.iadd, 1) := dLg_11.2.2.2.2.2.2.2.2.2.2.2.2.2.1
theorem dL_law_520 : decode cL_law 520 = .ok (.iaload, 1) := dLg_11.2.2.2.2.2.2.2.2.2.2.2.2.2.2.1
theorem dL_law_521 : decode cL_law 521 = .ok (.invokevirtual 52, 3) := dLg_11.2.2.2.2.2.2.2.2.2.2.2.2.2.2.2.1
theorem dL_law_524 : decode cL_law 524 = .ok (.pop, 1) := dLg_11.2.2.2.2.2.2.2.2.2.2.2.2.2.2.2.2.1
theorem dL_law_525 : decode cL_law 525 = .ok (.aload_n 2, 1) := dLg_11.2.2.2.2.2.2.2.2.2.2.2.2.2.2.2.2.2.1
theorem dL_law_526 : decode cL_law 526 = .ok (.aload_n 0, 1) := dLg_11.2.2.2.2.2.2.2.2.2.2.2.2.2.2.2.2.2.2.1
theorem dL_law_527 : decode cL_law 527 = .ok (.iload_n 3, 1) := dLg_11.2.2.2.2.2.2.2.2.2.2.2.2.2.2.2.2.2.2.2.1
theorem dL_law_528 : decode cL_law 528 = .ok (.iconst 1, 1) := dLg_11.2.2.2.2.2.2.2.2.2.2.2.2.2.2.2.2.2.2.2.2.1
theorem dL_law_529 : decode cL_law 529 = .ok (.iadd, 1) := dLg_11.2.2.2.2.2.2.2.2.2.2.2.2.2.2.2.2.2.2.2.2.2.1
theorem dL_law_530 : decode cL_law 530 = .ok (.iaload, 1) := dLg_11.2.2.2.2.2.2.2.2.2.2.2.2.2.2.2.2.2.2.2.2.2.2.1
theorem dL_law_531 : decode cL_law 531 = .ok (.aload_n 0, 1) := dLg_11.2.2.2.2.2.2.2.2.2.2.2.2.2.2.2.2.2.2.2.2.2.2.2
theorem dLg_12 : (decode cL_law 532 = .ok (.iload_n 3, 1)) ∧ (decode cL_law 533 = .ok (.iconst 2, 1)) ∧ (decode cL_law 534 = .ok (.iadd, 1)) ∧ (decode cL_law 535 = .ok (.iaload, 1)) ∧ (decode cL_law 536 = .ok (.invokevirtual 56, 3)) ∧ (decode cL_law 539 = .ok (.pop, 1)) ∧ (decode cL_law 540 = .ok (.goto 1374, 3)) ∧ (decode cL_law 543 = .ok (.aload_n 1, 1)) ∧ (decode cL_law 544 = .ok (.aload_n 0, 1)) ∧ (decode cL_law 545 = .ok (.iload_n 3, 1)) ∧ (decode cL_law 546 = .ok (.iconst 1, 1)) ∧ (decode cL_law 547 = .ok (.iadd, 1)) ∧ (decode cL_law 548 = .ok (.iaload, 1)) ∧ (decode cL_law 549 = .ok (.aload_n 0, 1)) ∧ (decode cL_law 550 = .ok (.iload_n 3, 1)) ∧ (decode cL_law 551 = .ok (.iconst 2, 1)) ∧ (decode cL_law 552 = .ok (.iadd, 1)) ∧ (decode cL_law 553 = .ok (.iaload, 1)) ∧ (decode cL_law 554 = .ok (.aload_n 0, 1)) ∧ (decode cL_law 555 = .ok (.iload_n 3, 1)) ∧ (decode cL_law 556 = .ok (.iconst 3, 1)) ∧ (decode cL_law 557 = .ok (.iadd, 1)) ∧ (decode cL_law 558 = .ok (.iaload, 1)) ∧ (decode cL_law 559 = .ok (.aload_n 0, 1)) := by decide +kernel
theorem dL_law_532 : decode cL_law 532 = .ok (.iload_n 3, 1) := dLg_12.1
theorem dL_law_533 : decode cL_law 533 = .ok (.iconst 2, 1) := dLg_12.2.1
theorem dL_law_534 : decode cL_law 534 = .ok (.iadd, 1) := dLg_12.2.2.1
theorem dL_law_535 : decode cL_law 535 = .ok (.iaload, 1) := dLg_12.2.2.2.1
theorem dL_law_536 : decode cL_law 536 = .ok (.invokevirtual 56, 3) := dLg_12.2.2.2.2.1
theorem dL_law_539 : decode cL_law 539 = .ok (.pop, 1) := dLg_12.2.2.2.2.2.1
theorem dL_law_540 : decode cL_law 540 = .ok (.goto 1374, 3) := dLg_12.2.2.2.2.2.2.1
theorem dL_law_543 : decode cL_law 543 = .ok (.aload_n 1, 1) := dLg_12.2.2.2.2.2.2.2.1
theorem dL_law_544 : decode cL_law 544 = .ok (.aload_n 0, 1) := dLg_12.2.2.2.2.2.2.2.2.1
theorem dL_law_545 : decode cL_law 545 = .ok (.iload_n 3, 1) := dLg_12.2.2.2.2.2.2.2.2.2.1
theorem dL_law_546 : decode cL_law 546 = .ok (.iconst 1, 1) := dLg_12.2.2.2.2.2.2.2.2.2.2.1
theorem dL_law_547 : decode cL_law 547 = .ok (.iadd, 1) := dLg_12.2.2.2.2.2.2.2.2.2.2.2.1
theorem dL_law_548 : decode cL_law 548 = .ok (.iaload, 1) := dLg_12.2.2.2.2.2.2.2.2.2.2.2.2.1
theorem dL_law_549 : decode cL_law 549 = .ok (.aload_n 0, 1) := dLg_12.2.2.2.2.2.2.2.2.2.2.2.2.2.1
theorem dL_law_550 : decode cL_law 550 = .ok (.iload_n 3, 1) := dLg_12.2.2.2.2.2.2.2.2.2.2.2.2.2.2.1
theorem dL_law_551 : decode cL_law 551 = .ok (.iconst 2, 1) := dLg_12.2.2.2.2.2.2.2.2.2.2.2.2.2.2.2.1
theorem dL_law_552 : decode cL_law 552 = .ok (.iadd, 1) := dLg_12.2.2.2.2.2.2.2.2.2.2.2.2.2.2.2.2.1
theorem dL_law_553 : decode cL_law 553 = .ok (.iaload, 1) := dLg_12.2.2.2.2.2.2.2.2.2.2.2.2.2.2.2.2.2.1
theorem dL_law_554 : decode cL_law 554 = .ok (.aload_n 0, 1) := dLg_12.2.2.2.2.2.2.2.2.2.2.2.2.2.2.2.2.2.2.1
theorem dL_law_555 : decode cL_law 555 = .ok (.iload_n 3, 1) := dLg_12.2.2.2.2.2.2.2.2.2.2.2.2.2.2.2.2.2.2.2.1
theorem dL_law_556 : decode cL_law 556 = .ok (.iconst 3, 1) := dLg_12.2.2.2.2.2.2.2.2.2.2.2.2.2.2.2.2.2.2.2.2.1
theorem dL_law_557 : decode cL_law 557 = .ok (.iadd, 1) := dLg_12.2.2.2.2.2.2.2.2.2.2.2.2.2.2.2.2.2.2.2.2.2.1
theorem dL_law_558 : decode cL_law 558 = .ok (.iaload, 1) := dLg_12.2.2.2.2.2.2.2.2.2.2.2.2.2.2.2.2.2.2.2.2.2.2.1
theorem dL_law_559 : decode cL_law 559 = .ok (.aload_n 0, 1) := dLg_12.2.2.2.2.2.2.2.2.2.2.2.2.2.2.2.2.2.2.2.2.2.2.2
theorem dLg_13 : (decode cL_law 560 = .ok (.iload_n 3, 1)) ∧ (decode cL_law 561 = .ok (.iconst 4, 1)) ∧ (decode cL_law 562 = .ok (.iadd, 1)) ∧ (decode cL_law 563 = .ok (.iaload, 1)) ∧ (decode cL_law 564 = .ok (.invokevirtual 57, 3)) ∧ (decode cL_law 567 = .ok (.pop, 1)) ∧ (decode cL_law 568 = .ok (.aload_n 2, 1)) ∧ (decode cL_law 569 = .ok (.aload_n 0, 1)) ∧ (decode cL_law 570 = .ok (.iload_n 3, 1)) ∧ (decode cL_law 571 = .ok (.iconst 1, 1)) ∧ (decode cL_law 572 = .ok (.iadd, 1)) ∧ (decode cL_law 573 = .ok (.iaload, 1)) ∧ (decode cL_law 574 = .ok (.aload_n 0, 1)) ∧ (decode cL_law 575 = .ok (.iload_n 3, 1)) ∧ (decode cL_law 576 = .ok (.iconst 2, 1)) ∧ (decode cL_law 577 = .ok (.iadd, 1)) ∧ (decode cL_law 578 = .ok (.iaload, 1)) ∧ (decode cL_law 579 = .ok (.aload_n 0, 1)) ∧ (decode cL_law 580 = .ok (.iload_n 3, 1)) ∧ (decode cL_law 581 = .ok (.iconst 3, 1)) ∧ (decode cL_law 582 = .ok (.iadd, 1)) ∧ (decode cL_law 583 = .ok (.iaload, 1)) ∧ (decode cL_law 584 = .ok (.aload_n 0, 1)) ∧ (decode cL_law 585 = .ok (.iload_n 3, 1)) := by decide +kernel
theorem dL_law_560 : decode cL_law 560 = .ok (.iload_n 3, 1) := dLg_13.1
theorem dL_law_561 : decode cL_law 561 = .ok (.iconst 4, 1) := dLg_13.2.1
theorem dL_law_562 : decode cL_law 562 = .ok (.iadd, 1) := dLg_13.2.2.1
theorem dL_law_563 : decode cL_law 563 = .ok (.iaload, 1) := dLg_13.2.2.2.1
theorem dL_law_564 : decode cL_law 564 = .ok (.invokevirtual 57, 3) := dLg_13.2.2.2.2.1
theorem dL_law_567 : decode cL_law 567 = .ok (.pop, 1) := dLg_13.2.2.2.2.2.1
theorem dL_law_568 : decode cL_law 568 = .ok (.aload_n 2, 1) := dLg_13.2.2.2.2.2.2.1
theorem dL_law_569 : decode cL_law 569 = .ok (.aload_n 0, 1) := dLg_13.2.2.2.2.2.2.2.1
theorem dL_law_570 : decode cL_law 570 = .ok (.iload_n 3, 1) := dLg_13.2.2.2.2.2.2.2.2.1
theorem dL_law_571 : decode cL_law 571 = .ok (.iconst 1, 1) := dLg_13.2.2.2.2.2.2.2.2.2.1
theorem dL_law_572 : decode cL_law 572 = .ok (.iadd, 1) := dLg_13.2.2.2.2.2.2.2.2.2.2.1
theorem dL_law_573 : decode cL_law 573 = .ok (.iaload, 1) := dLg_13.2.2.2.2.2.2.2.2.2.2.2.1
theorem dL_law_574 : decode cL_law 574 = .ok (.aload_n 0, 1) := dLg_13.2.2.2.2.2.2.2.2.2.2.2.2.1
theorem dL_law_575 : decode cL_law 575 = .ok (.iload_n 3, 1) := dLg_13.2.2.2.2.2.2.2.2.2.2.2.2.2.1
theorem dL_law_576 : decode cL_law 576 = .ok (.iconst 2, 1) := dLg_13.2.2.2.2.2.2.2.2.2.2.2.2.2.2.1
theorem dL_law_577 : decode cL_law 577 = .ok (.iadd, 1) := dLg_13.2.2.2.2.2.2.2.2.2.2.2.2.2.2.2.1
theorem dL_law_578 : decode cL_law 578 = .ok (.iaload, 1) := dLg_13.2.2.2.2.2.2.2.2.2.2.2.2.2.2.2.2.1
theorem dL_law_579 : decode cL_law 579 = .ok (.aload_n 0, 1) := dLg_13.2.2.2.2.2.2.2.2.2.2.2.2.2.2.2.2.2.1
theorem dL_law_580 : decode cL_law 580 = .ok (.iload_n 3, 1) := dLg_13.2.2.2.2.2.2.2.2.2.2.2.2.2.2.2.2.2.2.1
theorem dL_law_581 : decode cL_law 581 = .ok (.iconst 3, 1) := dLg_13.2.2.2.2.2.2.2.2.2.2.2.2.2.2.2.2.2.2.2.1
theorem dL_law_582 : decode cL_law 582 = .ok (.iadd, 1) := dLg_13.2.2.2.2.2.2.2.2.2.2.2.2.2.2.2.2.2.2.2.2.1
theorem dL_law_583 : decode cL_law 583 = .ok (.iaload, 1) := dLg_13.2.2.2.2.2.2.2.2.2.2.2.2.2.2.2.2.2.2.2.2.2.1
theorem dL_law_584 : decode cL_law 584 = .ok (.aload_n 0, 1) := dLg_13.2.2.2.2.2.2.2.2.2.2.2.2.2.2.2.2.2.2.2.2.2.2.1
theorem dL_law_585 : decode cL_law 585 = .ok (.iload_n 3, 1) := dLg_13.2.2.2.2.2.2.2.2.2.2.2.2.2.2.2.2.2.2.2.2.2.2.2
theorem dLg_14 : (decode cL_law 586 = .ok (.iconst 4, 1)) ∧ (decode cL_law 587 = .ok (.iadd, 1)) ∧ (decode cL_law 588 = .ok (.iaload, 1)) ∧ (decode cL_law 589 = .ok (.invokevirtual 60, 3)) ∧ (decode cL_law 592 = .ok (.pop, 1)) ∧ (decode cL_law 593 = .ok (.goto 1321, 3)) ∧ (decode cL_law 596 = .ok (.aload_n 1, 1)) ∧ (decode cL_law 597 = .ok (.aload_n 0, 1)) ∧ (decode cL_law 598 = .ok (.iload_n 3, 1)) ∧ (decode cL_law 599 = .ok (.iconst 1, 1)) ∧ (decode cL_law 600 = .ok (.iadd, 1)) ∧ (decode cL_law 601 = .ok (.iaload, 1)) ∧ (decode cL_law 602 = .ok (.aload_n 0, 1)) ∧ (decode cL_law 603 = .ok (.iload_n 3, 1)) ∧ (decode cL_law 604 = .ok (.iconst 2, 1)) ∧ (decode cL_law 605 = .ok (.iadd, 1)) ∧ (decode cL_law 606 = .ok (.iaload, 1)) ∧ (decode cL_law 607 = .ok (.aload_n 0, 1)) ∧ (decode cL_law 608 = .ok (.iload_n 3, 1)) ∧ (decode cL_law 609 = .ok (.iconst 3, 1)) ∧ (decode cL_law 610 = .ok (.iadd, 1)) ∧ (decode cL_law 611 = .ok (.iaload, 1)) ∧ (decode cL_law 612 = .ok (.aload_n 0, 1)) ∧ (decode cL_law 613 = .ok (.iload_n 3, 1)) := by decide +kernel
theorem dL_law_586 : decode cL_law 586 = .ok (.iconst 4, 1) := dLg_14.1
theorem dL_law_587 : decode cL_law 587 = .ok (.iadd, 1) := dLg_14.2.1
theorem dL_law_588 : decode cL_law 588 = .ok (.iaload, 1) := dLg_14.2.2.1
theorem dL_law_589 : decode cL_law 589 = .ok (.invokevirtual 60, 3) := dLg_14.2.2.2.1
theorem dL_law_592 : decode cL_law 592 = .ok (.pop, 1) := dLg_14.2.2.2.2.1
theorem dL_law_593 : decode cL_law 593 = .ok (.goto 1321, 3) := dLg_14.2.2.2.2.2.1
theorem dL_law_596 : decode cL_law 596 = .ok (.aload_n 1, 1) := dLg_14.2.2.2.2.2.2.1
theorem dL_law_597 : decode cL_law 597 = .ok (.aload_n 0, 1) := dLg_14.2.2.2.2.2.2.2.1
theorem dL_law_598 : decode cL_law 598 = .ok (.iload_n 3, 1) := dLg_14.2.2.2.2.2.2.2.2.1
theorem dL_law_599 : decode cL_law 599 = .ok (.iconst 1, 1) := dLg_14.2.2.2.2.2.2.2.2.2.1
theorem dL_law_600 : decode cL_law 600 = .ok (.iadd, 1) := dLg_14.2.2.2.2.2.2.2.2.2.2.1
theorem dL_law_601 : decode cL_law 601 = .ok (.iaload, 1) := dLg_14.2.2.2.2.2.2.2.2.2.2.2.1
theorem dL_law_602 : decode cL_law 602 = .ok (.aload_n 0, 1) := dLg_14.2.2.2.2.2.2.2.2.2.2.2.2.1
theorem dL_law_603 : decode cL_law 603 = .ok (.iload_n 3, 1) := dLg_14.2.2.2.2.2.2.2.2.2.2.2.2.2.1
theorem dL_law_604 : decode cL_law 604 = .ok (.iconst 2, 1) := dLg_14.2.2.2.2.2.2.2.2.2.2.2.2.2.2.1
theorem dL_law_605 : decode cL_law 605 = .ok (.iadd, 1) := dLg_14.2.2.2.2.2.2.2.2.2.2.2.2.2.2.2.1
theorem dL_law_606 : decode cL_law 606 = .ok (.iaload, 1) := dLg_14.2.2.2.2.2.2.2.2.2.2.2.2.2.2.2.2.1
theorem dL_law_607 : decode cL_law 607 = .ok (.aload_n 0, 1) := dLg_14.2.2.2.2.2.2.2.2.2.2.2.2.2.2.2.2.2.1
theorem dL_law_608 : decode cL_law 608 = .ok (.iload_n 3, 1) := dLg_14.2.2.2.2.2.2.2.2.2.2.2.2.2.2.2.2.2.2.1
theorem dL_law_609 : decode cL_law 609 = .ok (.iconst 3, 1) := dLg_14.2.2.2.2.2.2.2.2.2.2.2.2.2.2.2.2.2.2.2.1
theorem dL_law_610 : decode cL_law 610 = .ok (.iadd, 1) := dLg_14.2.2.2.2.2.2.2.2.2.2.2.2.2.2.2.2.2.2.2.2.1
theorem dL_law_611 : decode cL_law 611 = .ok (.iaload, 1) := dLg_14.2.2.2.2.2.2.2.2.2.2.2.2.2.2.2.2.2.2.2.2.2.1
theorem dL_law_612 : decode cL_law 612 = .ok (.aload_n 0, 1) := dLg_14.2.2.2.2.2.2.2.2.2.2.2.2.2.2.2.2.2.2.2.2.2.2.1
theorem dL_law_613 : decode cL_law 613 = .ok (.iload_n 3, 1) := dLg_14.2.2.2.2.2.2.2.2.2.2.2.2.2.2.2.2.2.2.2.2.2.2.2
theorem dLg_15 : (decode cL_law 614 = .ok (.iconst 4, 1)) ∧ (decode cL_law 615 = .ok (.iadd, 1)) ∧ (decode cL_law 616 = .ok (.iaload, 1)) ∧ (decode cL_law 617 = .ok (.invokevirtual 61, 3)) ∧ (decode cL_law 620 = .ok (.pop, 1)) ∧ (decode cL_law 621 = .ok (.aload_n 2, 1)) ∧ (decode cL_law 622 = .ok (.aload_n 0, 1)) ∧ (decode cL_law 623 = .ok (.iload_n 3, 1)) ∧ (decode cL_law 624 = .ok (.iconst 1, 1)) ∧ (decode cL_law 625 = .ok (.iadd, 1)) ∧ (decode cL_law 626 = .ok (.iaload, 1)) ∧ (decode cL_law 627 = .ok (.aload_n 0, 1)) ∧ (decode cL_law 628 = .ok (.iload_n 3, 1)) ∧ (decode cL_law 629 = .ok (.iconst 2, 1)) ∧ (decode cL_law 630 = .ok (.iadd, 1)) ∧ (decode cL_law 631 = .ok (.iaload, 1)) ∧ (decode cL_law 632 = .ok (.aload_n 0, 1)) ∧ (decode cL_law 633 = .ok (.iload_n 3, 1)) ∧ (decode cL_law 634 = .ok (.iconst 3, 1)) ∧ (decode cL_law 635 = .ok (.iadd, 1)) ∧ (decode cL_law 636 = .ok (.iaload, 1)) ∧ (decode cL_law 637 = .ok (.aload_n 0, 1)) ∧ (decode cL_law 638 = .ok (.iload_n 3, 1)) ∧ (decode cL_law 639 = .ok (.iconst 4, 1)) := by decide +kernel
theorem dL_law_614 : decode cL_law 614 = .ok (.iconst 4, 1) := dLg_15.1
theorem dL_law_615 : decode cL_law 615 = .ok (.iadd, 1) := dLg_15.2.1
theorem dL_law_616 : decode cL_law 616 = .ok (.iaload, 1) := dLg_15.2.2.1
theorem dL_law_617 : decode cL_law 617 = .ok (.invokevirtual 61, 3) := dLg_15.2.2.2.1
