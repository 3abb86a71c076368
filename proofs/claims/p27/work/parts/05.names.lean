theorem dL_act_245 : decode cL_act 245 = .ok (.iconst 1, 1) := by decide +kernel
theorem dL_act_246 : decode cL_act 246 = .ok (.iload 4, 2) := by decide +kernel
theorem dL_act_248 : decode cL_act 248 = .ok (.bipush 7, 2) := by decide +kernel
theorem dL_act_250 : decode cL_act 250 = .ok (.invokestatic 60, 3) := by decide +kernel
theorem dL_act_253 : decode cL_act 253 = .ok (.iconst 1, 1) := by decide +kernel
theorem dL_act_254 : decode cL_act 254 = .ok (.isub, 1) := by decide +kernel
theorem dL_act_255 : decode cL_act 255 = .ok (.invokevirtual 82, 3) := by decide +kernel
theorem dL_act_258 : decode cL_act 258 = .ok (.ireturn, 1) := by decide +kernel
theorem dL_act_259 : decode cL_act 259 = .ok (.iload 8, 2) := by decide +kernel
theorem dL_act_261 : decode cL_act 261 = .ok (.bipush 12, 2) := by decide +kernel
theorem dL_act_263 : decode cL_act 263 = .ok (.if_icmp .ne 20, 3) := by decide +kernel
theorem dL_act_266 : decode cL_act 266 = .ok (.aload_n 0, 1) := by decide +kernel
theorem dL_act_267 : decode cL_act 267 = .ok (.iload 7, 2) := by decide +kernel
theorem dL_act_269 : decode cL_act 269 = .ok (.iconst 0, 1) := by decide +kernel
theorem dL_act_270 : decode cL_act 270 = .ok (.iconst 1, 1) := by decide +kernel
theorem dL_act_271 : decode cL_act 271 = .ok (.iload 4, 2) := by decide +kernel
theorem dL_act_273 : decode cL_act 273 = .ok (.bipush 9, 2) := by decide +kernel
theorem dL_act_275 : decode cL_act 275 = .ok (.invokestatic 60, 3) := by decide +kernel
theorem dL_act_278 : decode cL_act 278 = .ok (.iadd, 1) := by decide +kernel
theorem dL_act_279 : decode cL_act 279 = .ok (.invokevirtual 82, 3) := by decide +kernel
theorem dL_act_282 : decode cL_act 282 = .ok (.ireturn, 1) := by decide +kernel
theorem dL_act_283 : decode cL_act 283 = .ok (.iload 8, 2) := by decide +kernel
theorem dL_act_285 : decode cL_act 285 = .ok (.bipush 13, 2) := by decide +kernel
theorem dL_act_287 : decode cL_act 287 = .ok (.if_icmp .ne 20, 3) := by decide +kernel
theorem dL_act_290 : decode cL_act 290 = .ok (.aload_n 0, 1) := by decide +kernel
theorem dL_act_291 : decode cL_act 291 = .ok (.iload 7, 2) := by decide +kernel
theorem dL_act_293 : decode cL_act 293 = .ok (.iconst 3, 1) := by decide +kernel
theorem dL_act_294 : decode cL_act 294 = .ok (.iload 4, 2) := by decide +kernel
theorem dL_act_296 : decode cL_act 296 = .ok (.bipush 61, 2) := by decide +kernel
theorem dL_act_298 : decode cL_act 298 = .ok (.invokestatic 60, 3) := by decide +kernel
theorem dL_act_301 : decode cL_act 301 = .ok (.invokevirtual 82, 3) := by decide +kernel
theorem dL_act_304 : decode cL_act 304 = .ok (.goto 18, 3) := by decide +kernel
theorem dL_act_307 : decode cL_act 307 = .ok (.aload_n 0, 1) := by decide +kernel
theorem dL_act_308 : decode cL_act 308 = .ok (.iload 7, 2) := by decide +kernel
theorem dL_act_310 : decode cL_act 310 = .ok (.iconst 1, 1) := by decide +kernel
theorem dL_act_311 : decode cL_act 311 = .ok (.iload 4, 2) := by decide +kernel
theorem dL_act_313 : decode cL_act 313 = .ok (.bipush 20, 2) := by decide +kernel
theorem dL_act_315 : decode cL_act 315 = .ok (.invokestatic 60, 3) := by decide +kernel
theorem dL_act_318 : decode cL_act 318 = .ok (.iadd, 1) := by decide +kernel
theorem dL_act_319 : decode cL_act 319 = .ok (.invokestatic 85, 3) := by decide +kernel
theorem dL_act_322 : decode cL_act 322 = .ok (.ireturn, 1) := by decide +kernel
set_option maxRecDepth 20000 in
theorem ggL_law_X3_init : GoodIn wsL_law wsX3_init := goodIn_r _ [5, 6, 7, 8, 9, 10, 11, 12, 13, 14, 15, 16, 17, 18, 19, 20, 21, 22, 23, 24, 25, 26, 27, 28, 29, 30, 31, 32, 33, 34, 35, 36, 37, 38, 39, 40, 41, 42, 43, 44, 45, 46, 47, 48, 49, 50, 51, 52, 333, 334, 335, 336, 337, 338, 339, 340, 341, 325, 326, 327, 328, 329, 330, 331, 332, 342, 343, 344, 345, 346, 347, 348] (by decide +kernel) (by decide +kernel)
set_option maxRecDepth 20000 in
theorem gL_law_X3_init : GoodIn wsL_law (wsX3_init) := ggL_law_X3_init
set_option maxRecDepth 20000 in
theorem ggL_law_X3_count : GoodIn wsL_law wsX3_count := goodIn_ca (goodIn_r _ [56, 57, 58, 12, 59, 16, 60, 61, 26, 62, 63, 64, 11, 65, 38, 31, 66, 67, 68, 2, 69, 70, 71, 72, 73, 74, 17, 75, 18, 76, 77, 78, 79, 39, 32, 33, 34, 35, 36, 37, 80, 81, 82, 15, 83, 45, 46, 47, 84, 43, 44, 85, 86, 87, 88, 89, 90, 91, 92, 93, 94, 95, 96, 97, 98, 99, 100, 101, 102, 103, 104, 105, 106, 107, 108, 109, 110, 111, 112, 113, 114, 115, 116, 117, 118, 119, 120, 121, 122, 123, 124, 125, 126, 127, 128, 129, 130, 131, 132, 133, 134, 135, 136, 137, 138, 139, 25, 140, 141, 142, 325, 326, 327, 328, 329, 330, 331, 332, 333, 334, 335, 336, 337, 338, 339, 340, 341, 342, 343, 344, 345, 346] (by decide +kernel) (by decide +kernel)) (goodIn_sub (fun _ h => List.mem_append_left _ (List.mem_append_left _ (List.mem_append_right _ h))) (by decide +kernel))
set_option maxRecDepth 20000 in
theorem gL_law_X3_count : GoodIn wsL_law (wsV RL 25 RX3 yX3_count wsX3_count) := goodIn_app (goodIn_r _ [53, 54, 55, 2] (by decide +kernel) (by decide +kernel)) ggL_law_X3_count
set_option maxRecDepth 20000 in
theorem ggL_law_L_act : GoodIn wsL_law wsL_act := goodIn_ca (goodIn_ca (goodIn_ca (goodIn_r _ [146, 147, 148, 145, 149, 150, 53, 54, 55, 2, 56, 57, 58, 12, 59, 16, 60, 61, 26, 62, 63, 64, 11, 65, 38, 31, 66, 67, 68, 69, 70, 71, 72, 73, 74, 17, 75, 18, 76, 77, 78, 79, 39, 32, 33, 34, 35, 36, 37, 80, 81, 82, 15, 83, 45, 46, 47, 84, 43, 44, 85, 86, 87, 88, 89, 90, 91, 92, 93, 94, 95, 96, 97, 98, 99, 100, 101, 102, 103, 104, 105, 106, 107, 108, 109, 110, 111, 112, 113, 114, 115, 116, 117, 118, 119, 120, 121, 122, 123, 124, 125, 126, 127, 128, 129, 130, 131, 132, 133, 134, 135, 136, 137, 138, 139, 25, 140, 141, 142, 151, 152, 153, 154, 155, 156, 157, 158, 159, 160, 161, 162, 163, 164, 165, 166, 167, 168, 169, 170, 171, 172, 173, 174, 175, 176, 177, 178, 179, 180, 181, 182, 183, 19, 184, 185, 186, 187, 188, 189, 190, 191, 192, 193, 194, 195, 196, 197, 198, 199, 200, 201, 202, 203, 204, 205, 206, 207, 208, 209, 210, 211, 212, 213, 214, 215, 216, 217, 218, 219, 220, 221, 222, 223, 224, 225, 226, 227, 228, 229, 230, 231, 232, 233, 234, 235, 236, 237, 238, 239, 240, 241, 242, 243, 244, 245, 246, 247, 248, 249, 250, 251, 252, 253, 254, 255, 256, 257, 258, 259, 260, 261, 262, 263, 325, 326, 327, 328, 329, 330, 331, 332, 333, 334, 335, 336, 337, 338, 339, 340, 341, 342, 343, 344, 345, 346] (by decide +kernel) (by decide +kernel)) (goodIn_sub (fun _ h => List.mem_append_left _ (List.mem_append_left _ (List.mem_append_right _ h))) (by decide +kernel))) (goodIn_sub (fun _ h => List.mem_append_left _ (List.mem_append_right _ h)) (by decide +kernel))) (goodIn_sub (fun _ h => List.mem_append_right _ h) (by decide +kernel))
set_option maxRecDepth 20000 in
theorem gL_law_L_act : GoodIn wsL_law (va_wsS RL 89 yL_act wsL_act) := goodIn_app (goodIn_r _ [143, 144, 145] (by decide +kernel) (by decide +kernel)) ggL_law_L_act
