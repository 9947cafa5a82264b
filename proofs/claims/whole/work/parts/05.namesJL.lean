theorem dJ9_floorMod_7cf53_0 : decode cJ9_floorMod_7cf53 0 = .ok (.iload_n 0, 1) := by decide +kernel
theorem dJ9_floorMod_7cf53_1 : decode cJ9_floorMod_7cf53 1 = .ok (.iload_n 1, 1) := by decide +kernel
theorem dJ9_floorMod_7cf53_2 : decode cJ9_floorMod_7cf53 2 = .ok (.irem, 1) := by decide +kernel
theorem dJ9_floorMod_7cf53_3 : decode cJ9_floorMod_7cf53 3 = .ok (.istore_n 2, 1) := by decide +kernel
theorem dJ9_floorMod_7cf53_4 : decode cJ9_floorMod_7cf53 4 = .ok (.iload_n 0, 1) := by decide +kernel
theorem dJ9_floorMod_7cf53_5 : decode cJ9_floorMod_7cf53 5 = .ok (.iload_n 1, 1) := by decide +kernel
theorem dJ9_floorMod_7cf53_6 : decode cJ9_floorMod_7cf53 6 = .ok (.ixor, 1) := by decide +kernel
theorem dJ9_floorMod_7cf53_7 : decode cJ9_floorMod_7cf53 7 = .ok (.ifCond .ge 11, 3) := by decide +kernel
theorem dJ9_floorMod_7cf53_10 : decode cJ9_floorMod_7cf53 10 = .ok (.iload_n 2, 1) := by decide +kernel
theorem dJ9_floorMod_7cf53_11 : decode cJ9_floorMod_7cf53 11 = .ok (.ifCond .eq 7, 3) := by decide +kernel
theorem dJ9_floorMod_7cf53_14 : decode cJ9_floorMod_7cf53 14 = .ok (.iload_n 2, 1) := by decide +kernel
theorem dJ9_floorMod_7cf53_15 : decode cJ9_floorMod_7cf53 15 = .ok (.iload_n 1, 1) := by decide +kernel
theorem dJ9_floorMod_7cf53_16 : decode cJ9_floorMod_7cf53 16 = .ok (.iadd, 1) := by decide +kernel
theorem dJ9_floorMod_7cf53_17 : decode cJ9_floorMod_7cf53 17 = .ok (.ireturn, 1) := by decide +kernel
theorem dJ9_floorMod_7cf53_18 : decode cJ9_floorMod_7cf53 18 = .ok (.iload_n 2, 1) := by decide +kernel
theorem dJ9_floorMod_7cf53_19 : decode cJ9_floorMod_7cf53 19 = .ok (.ireturn, 1) := by decide +kernel
theorem dJ9_max_7cf53_0 : decode cJ9_max_7cf53 0 = .ok (.iload_n 0, 1) := by decide +kernel
theorem dJ9_max_7cf53_1 : decode cJ9_max_7cf53 1 = .ok (.iload_n 1, 1) := by decide +kernel
theorem dJ9_max_7cf53_2 : decode cJ9_max_7cf53 2 = .ok (.if_icmp .lt 7, 3) := by decide +kernel
theorem dJ9_max_7cf53_5 : decode cJ9_max_7cf53 5 = .ok (.iload_n 0, 1) := by decide +kernel
theorem dJ9_max_7cf53_6 : decode cJ9_max_7cf53 6 = .ok (.goto 4, 3) := by decide +kernel
theorem dJ9_max_7cf53_9 : decode cJ9_max_7cf53 9 = .ok (.iload_n 1, 1) := by decide +kernel
theorem dJ9_max_7cf53_10 : decode cJ9_max_7cf53 10 = .ok (.ireturn, 1) := by decide +kernel
theorem dJ9_min_7cf53_0 : decode cJ9_min_7cf53 0 = .ok (.iload_n 0, 1) := by decide +kernel
theorem dJ9_min_7cf53_1 : decode cJ9_min_7cf53 1 = .ok (.iload_n 1, 1) := by decide +kernel
theorem dJ9_min_7cf53_2 : decode cJ9_min_7cf53 2 = .ok (.if_icmp .gt 7, 3) := by decide +kernel
theorem dJ9_min_7cf53_5 : decode cJ9_min_7cf53 5 = .ok (.iload_n 0, 1) := by decide +kernel
theorem dJ9_min_7cf53_6 : decode cJ9_min_7cf53 6 = .ok (.goto 4, 3) := by decide +kernel
theorem dJ9_min_7cf53_9 : decode cJ9_min_7cf53 9 = .ok (.iload_n 1, 1) := by decide +kernel
theorem dJ9_min_7cf53_10 : decode cJ9_min_7cf53 10 = .ok (.ireturn, 1) := by decide +kernel
theorem dJ7_fill_d0a16_0 : decode cJ7_fill_d0a16 0 = .ok (.iconst 0, 1) := by decide +kernel
theorem dJ7_fill_d0a16_1 : decode cJ7_fill_d0a16 1 = .ok (.istore_n 3, 1) := by decide +kernel
theorem dJ7_fill_d0a16_2 : decode cJ7_fill_d0a16 2 = .ok (.aload_n 0, 1) := by decide +kernel
theorem dJ7_fill_d0a16_3 : decode cJ7_fill_d0a16 3 = .ok (.arraylength, 1) := by decide +kernel
theorem dJ7_fill_d0a16_4 : decode cJ7_fill_d0a16 4 = .ok (.istore 4, 2) := by decide +kernel
theorem dJ7_fill_d0a16_6 : decode cJ7_fill_d0a16 6 = .ok (.iload_n 3, 1) := by decide +kernel
theorem dJ7_fill_d0a16_7 : decode cJ7_fill_d0a16 7 = .ok (.iload 4, 2) := by decide +kernel
theorem dJ7_fill_d0a16_9 : decode cJ7_fill_d0a16 9 = .ok (.if_icmp .ge 13, 3) := by decide +kernel
theorem dJ7_fill_d0a16_12 : decode cJ7_fill_d0a16 12 = .ok (.aload_n 0, 1) := by decide +kernel
theorem dJ7_fill_d0a16_13 : decode cJ7_fill_d0a16 13 = .ok (.iload_n 3, 1) := by decide +kernel
theorem dJ7_fill_d0a16_14 : decode cJ7_fill_d0a16 14 = .ok (.lload_n 1, 1) := by decide +kernel
theorem dJ7_fill_d0a16_15 : decode cJ7_fill_d0a16 15 = .ok (.lastore, 1) := by decide +kernel
theorem dJ7_fill_d0a16_16 : decode cJ7_fill_d0a16 16 = .ok (.iinc 3 1, 3) := by decide +kernel
theorem dJ7_fill_d0a16_19 : decode cJ7_fill_d0a16 19 = .ok (.goto (-13), 3) := by decide +kernel
theorem dJ7_fill_d0a16_22 : decode cJ7_fill_d0a16 22 = .ok (.return_, 1) := by decide +kernel
theorem dJ7_fill_53178_0 : decode cJ7_fill_53178 0 = .ok (.iconst 0, 1) := by decide +kernel
theorem dJ7_fill_53178_1 : decode cJ7_fill_53178 1 = .ok (.istore_n 2, 1) := by decide +kernel
theorem dJ7_fill_53178_2 : decode cJ7_fill_53178 2 = .ok (.aload_n 0, 1) := by decide +kernel
theorem dJ7_fill_53178_3 : decode cJ7_fill_53178 3 = .ok (.arraylength, 1) := by decide +kernel
theorem dJ7_fill_53178_4 : decode cJ7_fill_53178 4 = .ok (.istore_n 3, 1) := by decide +kernel
theorem dJ7_fill_53178_5 : decode cJ7_fill_53178 5 = .ok (.iload_n 2, 1) := by decide +kernel
theorem dJ7_fill_53178_6 : decode cJ7_fill_53178 6 = .ok (.iload_n 3, 1) := by decide +kernel
theorem dJ7_fill_53178_7 : decode cJ7_fill_53178 7 = .ok (.if_icmp .ge 13, 3) := by decide +kernel
theorem dJ7_fill_53178_10 : decode cJ7_fill_53178 10 = .ok (.aload_n 0, 1) := by decide +kernel
theorem dJ7_fill_53178_11 : decode cJ7_fill_53178 11 = .ok (.iload_n 2, 1) := by decide +kernel
theorem dJ7_fill_53178_12 : decode cJ7_fill_53178 12 = .ok (.iload_n 1, 1) := by decide +kernel
theorem dJ7_fill_53178_13 : decode cJ7_fill_53178 13 = .ok (.iastore, 1) := by decide +kernel
theorem dJ7_fill_53178_14 : decode cJ7_fill_53178 14 = .ok (.iinc 2 1, 3) := by decide +kernel
theorem dJ7_fill_53178_17 : decode cJ7_fill_53178 17 = .ok (.goto (-12), 3) := by decide +kernel
theorem dJ7_fill_53178_20 : decode cJ7_fill_53178 20 = .ok (.return_, 1) := by decide +kernel
set_option maxRecDepth 20000 in
theorem ggL_law_X4_init : GoodIn wsL_law wsX4_init := goodIn_r _ [9, 10, 11, 12, 13, 14, 15, 16, 17, 18, 19, 20, 21, 22, 23, 24, 25, 26, 27, 28, 29, 30, 31, 32, 33, 34, 35, 36, 37, 38, 39, 40, 41, 42, 43, 44, 45, 46, 47, 48, 49, 50, 51, 52, 53, 54, 55, 56, 57, 58, 59, 2, 60, 61, 62, 63, 64, 65, 66, 67, 68, 69, 70, 71, 72, 73, 74, 75, 76, 77, 78, 79, 80, 81, 82, 83, 84, 85, 86, 87, 88, 89, 90, 91, 92, 93, 94, 95, 96, 97, 98, 99, 471, 472, 473, 474, 500, 501, 502, 503, 504, 505, 506, 507, 508, 509, 510, 511, 512, 513, 514, 515, 516, 517, 518, 519, 520, 521, 522, 523, 524, 525, 526, 527, 528] (by decide +kernel) (by decide +kernel)
set_option maxRecDepth 20000 in
theorem gL_law_X4_init : GoodIn wsL_law (wsX4_init) := ggL_law_X4_init
set_option maxRecDepth 20000 in
theorem ggL_law_X5_init : GoodIn wsL_law wsX5_init := goodIn_r _ [102, 103, 11, 12, 19, 104, 45, 105, 106, 107, 34, 108, 109, 110, 111, 112, 113, 114, 115, 116, 117, 118, 119, 120, 121, 122, 123, 124, 125, 126, 127, 128, 129, 5, 130, 131, 132, 475, 476, 477, 478, 479, 480, 481, 482, 483, 484, 485, 486, 487, 488, 489, 490, 491, 492, 493, 494, 495, 496, 497, 498, 499] (by decide +kernel) (by decide +kernel)
set_option maxRecDepth 20000 in
theorem gL_law_X5_init : GoodIn wsL_law (wsX5_init) := ggL_law_X5_init
set_option maxRecDepth 20000 in
theorem ggL_law_X4_begin : GoodIn wsL_law wsX4_begin := goodIn_r _ [136, 57, 58, 59, 2, 60, 61, 14, 18, 62, 20, 63, 64, 65, 22, 66, 43, 49, 67, 68, 69, 70, 46, 53, 44, 47, 48, 50, 71, 72, 73, 42, 74, 75, 76, 77, 78, 79, 80, 81, 82, 83, 84, 85, 86, 87, 88, 89, 90, 91, 92, 93, 94, 95, 96, 97, 98, 99, 471, 472, 473, 474, 500, 501, 502, 503, 504, 505, 506, 507, 508, 509, 510, 511, 519, 520, 521, 522, 523, 524, 525, 526, 527, 528] (by decide +kernel) (by decide +kernel)
set_option maxRecDepth 20000 in
theorem gL_law_X4_begin : GoodIn wsL_law (wsV RL 13 RX4 yX4_begin wsX4_begin) := goodIn_app (goodIn_of _ (by decide +kernel)) ggL_law_X4_begin
set_option maxRecDepth 20000 in
theorem ggL_law_X5_begin : GoodIn wsL_law wsX5_begin := goodIn_r _ [130, 131, 105, 104, 106, 107, 110, 108, 111, 116, 117, 118, 119, 120, 123, 132, 475, 476, 477, 478, 479, 480, 481, 482, 483, 484, 485, 486, 487, 488, 489, 490, 491, 492, 493, 494, 495, 496, 497, 498, 499] (by decide +kernel) (by decide +kernel)
set_option maxRecDepth 20000 in
theorem gL_law_X5_begin : GoodIn wsL_law (wsV RL 17 RX5 yX5_begin wsX5_begin) := goodIn_app (goodIn_of _ (by decide +kernel)) ggL_law_X5_begin
set_option maxRecDepth 20000 in
theorem ggL_law_X4_read : GoodIn wsL_law wsX4_read := goodIn_r _ [141, 14, 142, 143, 144, 145, 146, 2, 147, 148, 149, 150, 151, 152, 61, 153, 154, 155, 156, 157, 158, 159, 80, 81, 42, 82, 75, 83, 84, 85, 86, 87, 88, 160, 161, 162, 163, 164, 165, 166, 167, 168, 169, 170, 171, 20, 18, 172, 173, 174, 17, 175, 176, 177, 178, 69, 179, 28, 180, 181, 182, 183, 184, 185, 186, 187, 188, 189, 190, 191, 192, 22, 193, 43, 194, 195, 196, 49, 197, 198, 199, 200, 201, 202, 203, 204, 471, 472, 473, 474, 502, 503, 504, 505, 506, 507, 508, 509, 510, 511, 519, 520, 521, 522, 523, 524, 525, 526, 527, 528, 512, 513, 514, 515, 516, 517, 518, 500, 501] (by decide +kernel) (by decide +kernel)
set_option maxRecDepth 20000 in
theorem gL_law_X4_read : GoodIn wsL_law (wsV RL 18 RX4 yX4_read wsX4_read) := goodIn_app (goodIn_of _ (by decide +kernel)) ggL_law_X4_read
set_option maxRecDepth 20000 in
theorem ggL_law_X5_read : GoodIn wsL_law wsX5_read := goodIn_r _ [208, 209, 210, 211, 5, 212, 111, 115, 104, 123, 105, 106, 213, 214, 215, 216, 131, 217, 218, 219, 220, 221, 222, 223, 112, 113, 114, 116, 117, 118, 224, 225, 226, 227, 228, 229, 230, 108, 120, 119, 231, 232, 233, 234, 107, 235, 236, 237, 238, 132, 121, 122, 475, 476, 477, 478, 479, 480, 481, 482, 483, 484, 485, 486, 487, 488, 489, 490, 491, 492, 493, 494, 495, 496, 497, 498, 499] (by decide +kernel) (by decide +kernel)
set_option maxRecDepth 20000 in
theorem gL_law_X5_read : GoodIn wsL_law (wsV RL 22 RX5 yX5_read wsX5_read) := goodIn_app (goodIn_of _ (by decide +kernel)) ggL_law_X5_read
set_option maxRecDepth 20000 in
theorem ggL_law_X4_write : GoodIn wsL_law wsX4_write := goodIn_r _ [242, 14, 142, 143, 243, 144, 145, 146, 2, 147, 148, 149, 150, 151, 152, 61, 153, 154, 155, 156, 157, 158, 159, 80, 81, 42, 82, 75, 83, 84, 85, 86, 87, 88, 186, 187, 188, 189, 20, 190, 191, 192, 22, 193, 43, 194, 195, 196, 49, 197, 198, 199, 200, 244, 245, 246, 247, 164, 248, 165, 249, 168, 169, 170, 171, 18, 172, 173, 174, 17, 175, 176, 177, 178, 69, 179, 28, 180, 181, 182, 183, 184, 185, 250, 251, 252, 253, 254, 255, 256, 257, 258, 259, 260, 261, 262, 263, 264, 265, 266, 267, 268, 76, 269, 270, 271, 272, 50, 51, 52, 273, 274, 275, 276, 166, 167, 277, 278, 279, 280, 281, 282, 283, 284, 285, 286, 287, 288, 289, 290, 291, 160, 161, 162, 163, 201, 202, 203, 204, 471, 472, 473, 474, 502, 503, 504, 505, 506, 507, 508, 509, 510, 511, 519, 520, 521, 522, 523, 524, 525, 526, 527, 528, 500, 501, 512, 513, 514, 515, 516, 517, 518] (by decide +kernel) (by decide +kernel)
set_option maxRecDepth 20000 in
theorem gL_law_X4_write : GoodIn wsL_law (wsV RL 25 RX4 yX4_write wsX4_write) := goodIn_app (goodIn_of _ (by decide +kernel)) ggL_law_X4_write
set_option maxRecDepth 20000 in
theorem ggL_law_X5_write : GoodIn wsL_law wsX5_write := goodIn_r _ [295, 209, 210, 211, 5, 212, 111, 115, 104, 123, 105, 106, 213, 214, 215, 216, 131, 217, 218, 219, 220, 221, 222, 223, 112, 113, 114, 116, 117, 118, 224, 225, 226, 227, 228, 229, 230, 108, 120, 119, 231, 232, 233, 234, 107, 235, 236, 237, 238, 132, 121, 122, 475, 476, 477, 478, 479, 480, 481, 482, 483, 484, 485, 486, 487, 488, 489, 490, 491, 492, 493, 494, 495, 496, 497, 498, 499] (by decide +kernel) (by decide +kernel)
set_option maxRecDepth 20000 in
theorem gL_law_X5_write : GoodIn wsL_law (wsV RL 29 RX5 yX5_write wsX5_write) := goodIn_app (goodIn_of _ (by decide +kernel)) ggL_law_X5_write
set_option maxRecDepth 20000 in
theorem ggL_law_X4_deliver : GoodIn wsL_law wsX4_deliver := goodIn_r _ [299, 18, 14, 300, 301, 302, 167, 303, 142, 249, 304, 305, 306, 17, 307, 176, 308, 309, 310, 311, 28, 261, 262, 263, 2, 264, 243, 265, 266, 267, 42, 268, 76, 83, 269, 270, 271, 22, 272, 50, 51, 52, 273, 274, 275, 276, 165, 166, 20, 168, 169, 170, 171, 172, 173, 174, 175, 177, 178, 69, 179, 180, 181, 182, 183, 184, 185, 277, 278, 279, 280, 248, 143, 281, 282, 283, 284, 285, 286, 287, 288, 289, 290, 291, 312, 313, 314, 315, 316, 186, 187, 188, 189, 190, 191, 192, 193, 43, 194, 195, 196, 49, 197, 198, 199, 200, 317, 318, 319, 320, 244, 245, 246, 247, 164, 148, 61, 250, 251, 252, 253, 254, 255, 256, 257, 258, 259, 260, 321, 322, 323, 324, 471, 472, 473, 474, 512, 513, 514, 515, 516, 517, 518, 502, 503, 504, 505, 506, 507, 508, 509, 510, 511, 519, 520, 521, 522, 523, 524, 525, 526, 527, 528, 500, 501] (by decide +kernel) (by decide +kernel)
set_option maxRecDepth 20000 in
theorem gL_law_X4_deliver : GoodIn wsL_law (wsV RL 30 RX4 yX4_deliver wsX4_deliver) := goodIn_app (goodIn_of _ (by decide +kernel)) ggL_law_X4_deliver
set_option maxRecDepth 20000 in
theorem ggL_law_X5_deliver : GoodIn wsL_law wsX5_deliver := goodIn_r _ [328, 132, 124, 121, 125, 122, 106, 104, 117, 107, 105, 111, 112, 116, 329, 330, 331, 5, 332, 224, 225, 226, 333, 334, 335, 336, 109, 110, 123, 235, 236, 237, 238, 108, 337, 338, 339, 340, 227, 228, 229, 230, 113, 114, 115, 120, 119, 231, 232, 233, 234, 131, 341, 342, 343, 344, 126, 475, 476, 477, 478, 479, 480, 481, 482, 483, 484, 485, 486, 487, 488, 489, 490, 491, 492, 493, 494, 495, 496, 497, 498, 499] (by decide +kernel) (by decide +kernel)
set_option maxRecDepth 20000 in
theorem gL_law_X5_deliver : GoodIn wsL_law (wsV RL 34 RX5 yX5_deliver wsX5_deliver) := goodIn_app (goodIn_of _ (by decide +kernel)) ggL_law_X5_deliver
set_option maxRecDepth 20000 in
theorem ggL_law_X4_waits : GoodIn wsL_law wsX4_waits := goodIn_r _ [348, 14, 142, 148, 149, 150, 151, 2, 152, 61, 471, 472, 473, 474, 502, 503, 504, 505, 506, 507, 508, 509, 510, 511, 519, 520, 521, 522, 523, 524, 525, 526, 527, 528] (by decide +kernel) (by decide +kernel)
set_option maxRecDepth 20000 in
theorem gL_law_X4_waits : GoodIn wsL_law (wsV RL 35 RX4 yX4_waits wsX4_waits) := goodIn_app (goodIn_of _ (by decide +kernel)) ggL_law_X4_waits
set_option maxRecDepth 20000 in
theorem ggL_law_X5_waits : GoodIn wsL_law wsX5_waits := goodIn_r _ [352, 111, 213, 214, 215, 5, 216, 131, 475, 476, 477, 478, 479, 480, 481, 482, 483, 484, 485, 486, 487, 488, 489, 490, 491, 492, 493, 494, 495, 496, 497, 498, 499] (by decide +kernel) (by decide +kernel)
set_option maxRecDepth 20000 in
theorem gL_law_X5_waits : GoodIn wsL_law (wsV RL 38 RX5 yX5_waits wsX5_waits) := goodIn_app (goodIn_of _ (by decide +kernel)) ggL_law_X5_waits
set_option maxRecDepth 20000 in
theorem ggL_law_X4_at : GoodIn wsL_law wsX4_at := goodIn_r _ [356, 14, 142, 357, 358, 164, 359, 360, 249, 149, 150, 151, 2, 152, 61, 471, 472, 473, 474, 502, 503, 504, 505, 506, 507, 508, 509, 510, 511, 519, 520, 521, 522, 523, 524, 525, 526, 527, 528] (by decide +kernel) (by decide +kernel)
set_option maxRecDepth 20000 in
theorem gL_law_X4_at : GoodIn wsL_law (wsV RL 39 RX4 yX4_at wsX4_at) := goodIn_app (goodIn_of _ (by decide +kernel)) ggL_law_X4_at
set_option maxRecDepth 20000 in
theorem ggL_law_X5_at : GoodIn wsL_law wsX5_at := goodIn_r _ [364, 118, 112, 113, 114, 111, 116, 119, 213, 214, 215, 5, 216, 131, 475, 476, 477, 478, 479, 480, 481, 482, 483, 484, 485, 486, 487, 488, 489, 490, 491, 492, 493, 494, 495, 496, 497, 498, 499] (by decide +kernel) (by decide +kernel)
set_option maxRecDepth 20000 in
theorem gL_law_X5_at : GoodIn wsL_law (wsV RL 43 RX5 yX5_at wsX5_at) := goodIn_app (goodIn_of _ (by decide +kernel)) ggL_law_X5_at
set_option maxRecDepth 20000 in
theorem ggL_law_X4_result : GoodIn wsL_law wsX4_result := goodIn_r _ [368, 14, 142, 369, 149, 150, 151, 2, 152, 61, 471, 472, 473, 474, 502, 503, 504, 505, 506, 507, 508, 509, 510, 511, 519, 520, 521, 522, 523, 524, 525, 526, 527, 528] (by decide +kernel) (by decide +kernel)
set_option maxRecDepth 20000 in
theorem gL_law_X4_result : GoodIn wsL_law (wsV RL 44 RX4 yX4_result wsX4_result) := goodIn_app (goodIn_of _ (by decide +kernel)) ggL_law_X4_result
set_option maxRecDepth 20000 in
theorem ggL_law_X5_result : GoodIn wsL_law wsX5_result := goodIn_r _ [373, 120, 213, 214, 215, 5, 216, 131, 475, 476, 477, 478, 479, 480, 481, 482, 483, 484, 485, 486, 487, 488, 489, 490, 491, 492, 493, 494, 495, 496, 497, 498, 499] (by decide +kernel) (by decide +kernel)
set_option maxRecDepth 20000 in
theorem gL_law_X5_result : GoodIn wsL_law (wsV RL 48 RX5 yX5_result wsX5_result) := goodIn_app (goodIn_of _ (by decide +kernel)) ggL_law_X5_result
set_option maxRecDepth 20000 in
theorem ggL_law_X4_access : GoodIn wsL_law wsX4_access := goodIn_r _ [377, 14, 143, 149, 150, 151, 2, 152, 61, 153, 154, 155, 471, 472, 473, 474, 502, 503, 504, 505, 506, 507, 508, 509, 510, 511] (by decide +kernel) (by decide +kernel)
set_option maxRecDepth 20000 in
theorem gL_law_X4_access : GoodIn wsL_law (wsV RL 49 RX4 yX4_access wsX4_access) := goodIn_app (goodIn_of _ (by decide +kernel)) ggL_law_X4_access
set_option maxRecDepth 20000 in
theorem ggL_law_X5_access : GoodIn wsL_law wsX5_access := goodIn_r _ [381, 104, 382, 383, 384, 5, 385, 213, 214, 215, 216, 131, 217, 218, 219, 224, 225, 226, 475, 476, 477, 478, 479, 480, 481, 482, 483, 484, 485, 486, 487, 488, 489, 490, 491, 492, 493, 494, 495, 496, 497, 498, 499] (by decide +kernel) (by decide +kernel)
set_option maxRecDepth 20000 in
theorem gL_law_X5_access : GoodIn wsL_law (wsV RL 52 RX5 yX5_access wsX5_access) := goodIn_app (goodIn_of _ (by decide +kernel)) ggL_law_X5_access
set_option maxRecDepth 20000 in
theorem ggL_law_X4_owner : GoodIn wsL_law wsX4_owner := goodIn_r _ [389, 61, 14, 243, 153, 154, 2, 155, 471, 472, 473, 474, 502, 503, 504, 505, 506, 507, 508, 509, 510, 511] (by decide +kernel) (by decide +kernel)
set_option maxRecDepth 20000 in
theorem gL_law_X4_owner : GoodIn wsL_law (wsV RL 53 RX4 yX4_owner wsX4_owner) := goodIn_app (goodIn_of _ (by decide +kernel)) ggL_law_X4_owner
set_option maxRecDepth 20000 in
theorem ggL_law_X5_owner : GoodIn wsL_law wsX5_owner := goodIn_r _ [393, 131, 105, 217, 218, 5, 219, 224, 225, 226, 475, 476, 477, 478, 479, 480, 481, 482, 483, 484, 485, 486, 487, 488, 489, 490, 491, 492, 493, 494, 495, 496, 497, 498, 499] (by decide +kernel) (by decide +kernel)
set_option maxRecDepth 20000 in
theorem gL_law_X5_owner : GoodIn wsL_law (wsV RL 56 RX5 yX5_owner wsX5_owner) := goodIn_app (goodIn_of _ (by decide +kernel)) ggL_law_X5_owner
set_option maxRecDepth 20000 in
theorem ggL_law_X4_guess : GoodIn wsL_law wsX4_guess := goodIn_r _ [397, 14, 166, 149, 150, 151, 2, 152, 61, 153, 154, 155, 471, 472, 473, 474, 502, 503, 504, 505, 506, 507, 508, 509, 510, 511] (by decide +kernel) (by decide +kernel)
set_option maxRecDepth 20000 in
theorem gL_law_X4_guess : GoodIn wsL_law (wsV RL 57 RX4 yX4_guess wsX4_guess) := goodIn_app (goodIn_of _ (by decide +kernel)) ggL_law_X4_guess
set_option maxRecDepth 20000 in
theorem ggL_law_X5_guess : GoodIn wsL_law wsX5_guess := goodIn_r _ [401, 106, 382, 383, 384, 5, 385, 213, 214, 215, 216, 131, 217, 218, 219, 224, 225, 226, 475, 476, 477, 478, 479, 480, 481, 482, 483, 484, 485, 486, 487, 488, 489, 490, 491, 492, 493, 494, 495, 496, 497, 498, 499] (by decide +kernel) (by decide +kernel)
set_option maxRecDepth 20000 in
theorem gL_law_X5_guess : GoodIn wsL_law (wsV RL 60 RX5 yX5_guess wsX5_guess) := goodIn_app (goodIn_of _ (by decide +kernel)) ggL_law_X5_guess
set_option maxRecDepth 20000 in
theorem ggL_law_X4_copies : GoodIn wsL_law wsX4_copies := goodIn_r _ [405, 14, 248, 149, 150, 151, 2, 152, 61, 153, 154, 155, 471, 472, 473, 474, 502, 503, 504, 505, 506, 507, 508, 509, 510, 511] (by decide +kernel) (by decide +kernel)
set_option maxRecDepth 20000 in
theorem gL_law_X4_copies : GoodIn wsL_law (wsV RL 61 RX4 yX4_copies wsX4_copies) := goodIn_app (goodIn_of _ (by decide +kernel)) ggL_law_X4_copies
set_option maxRecDepth 20000 in
theorem ggL_law_X5_copies : GoodIn wsL_law wsX5_copies := goodIn_r _ [409, 107, 382, 383, 384, 5, 385, 213, 214, 215, 216, 131, 217, 218, 219, 224, 225, 226, 475, 476, 477, 478, 479, 480, 481, 482, 483, 484, 485, 486, 487, 488, 489, 490, 491, 492, 493, 494, 495, 496, 497, 498, 499] (by decide +kernel) (by decide +kernel)
set_option maxRecDepth 20000 in
theorem gL_law_X5_copies : GoodIn wsL_law (wsV RL 64 RX5 yX5_copies wsX5_copies) := goodIn_app (goodIn_of _ (by decide +kernel)) ggL_law_X5_copies
set_option maxRecDepth 20000 in
theorem ggL_law_X4_word : GoodIn wsL_law wsX4_word := goodIn_r _ [413, 14, 281, 149, 150, 151, 2, 152, 61, 153, 154, 155, 156, 157, 158, 471, 472, 473, 474, 502, 503, 504, 505, 506, 507, 508, 509, 510, 511] (by decide +kernel) (by decide +kernel)
set_option maxRecDepth 20000 in
theorem gL_law_X4_word : GoodIn wsL_law (wsV RL 65 RX4 yX4_word wsX4_word) := goodIn_app (goodIn_of _ (by decide +kernel)) ggL_law_X4_word
set_option maxRecDepth 20000 in
theorem ggL_law_X5_word : GoodIn wsL_law wsX5_word := goodIn_r _ [417, 108, 382, 383, 384, 5, 385, 213, 214, 215, 216, 131, 217, 218, 219, 224, 225, 226, 475, 476, 477, 478, 479, 480, 481, 482, 483, 484, 485, 486, 487, 488, 489, 490, 491, 492, 493, 494, 495, 496, 497, 498, 499] (by decide +kernel) (by decide +kernel)
set_option maxRecDepth 20000 in
theorem gL_law_X5_word : GoodIn wsL_law (wsV RL 69 RX5 yX5_word wsX5_word) := goodIn_app (goodIn_of _ (by decide +kernel)) ggL_law_X5_word
set_option maxRecDepth 20000 in
theorem ggL_law_X4_queue : GoodIn wsL_law wsX4_queue := goodIn_r _ [421, 14, 258, 149, 150, 151, 2, 152, 61, 153, 154, 155, 471, 472, 473, 474, 502, 503, 504, 505, 506, 507, 508, 509, 510, 511] (by decide +kernel) (by decide +kernel)
set_option maxRecDepth 20000 in
theorem gL_law_X4_queue : GoodIn wsL_law (wsV RL 70 RX4 yX4_queue wsX4_queue) := goodIn_app (goodIn_of _ (by decide +kernel)) ggL_law_X4_queue
set_option maxRecDepth 20000 in
theorem ggL_law_X5_queue : GoodIn wsL_law wsX5_queue := goodIn_r _ [425, 110, 382, 383, 384, 5, 385, 213, 214, 215, 216, 131, 217, 218, 219, 224, 225, 226, 475, 476, 477, 478, 479, 480, 481, 482, 483, 484, 485, 486, 487, 488, 489, 490, 491, 492, 493, 494, 495, 496, 497, 498, 499] (by decide +kernel) (by decide +kernel)
set_option maxRecDepth 20000 in
theorem gL_law_X5_queue : GoodIn wsL_law (wsV RL 73 RX5 yX5_queue wsX5_queue) := goodIn_app (goodIn_of _ (by decide +kernel)) ggL_law_X5_queue
set_option maxRecDepth 20000 in
theorem ggL_law_X4_chain : GoodIn wsL_law wsX4_chain := goodIn_r _ [429, 14, 61, 166, 149, 150, 151, 2, 152, 153, 154, 155, 430, 431, 432, 243, 142, 265, 266, 267, 42, 268, 76, 83, 471, 472, 473, 474, 502, 503, 504, 505, 506, 507, 508, 509, 510, 511, 519, 520, 521, 522, 523, 524, 525, 526, 527, 528] (by decide +kernel) (by decide +kernel)
set_option maxRecDepth 20000 in
theorem gL_law_X4_chain : GoodIn wsL_law (wsV RL 74 RX4 yX4_chain wsX4_chain) := goodIn_app (goodIn_of _ (by decide +kernel)) ggL_law_X4_chain
set_option maxRecDepth 20000 in
theorem ggL_law_X5_chain : GoodIn wsL_law wsX5_chain := goodIn_r _ [436, 132, 121, 111, 112, 131, 106, 382, 383, 384, 5, 385, 213, 214, 215, 216, 217, 218, 219, 437, 391, 392, 393, 105, 224, 225, 226, 475, 476, 477, 478, 479, 480, 481, 482, 483, 484, 485, 486, 487, 488, 489, 490, 491, 492, 493, 494, 495, 496, 497, 498, 499] (by decide +kernel) (by decide +kernel)
set_option maxRecDepth 20000 in
theorem gL_law_X5_chain : GoodIn wsL_law (wsV RL 77 RX5 yX5_chain wsX5_chain) := goodIn_app (goodIn_of _ (by decide +kernel)) ggL_law_X5_chain
set_option maxRecDepth 20000 in
theorem ggL_law_X4_flying : GoodIn wsL_law wsX4_flying := goodIn_r _ [441, 18, 62, 471, 472, 473, 474, 500, 501] (by decide +kernel) (by decide +kernel)
set_option maxRecDepth 20000 in
theorem gL_law_X4_flying : GoodIn wsL_law (wsV RL 78 RX4 yX4_flying wsX4_flying) := goodIn_app (goodIn_of _ (by decide +kernel)) ggL_law_X4_flying
set_option maxRecDepth 20000 in
theorem ggL_law_X5_flying : GoodIn wsL_law wsX5_flying := goodIn_r _ [445, 132, 475, 476, 477, 478, 479, 480, 481, 482, 483, 484, 485, 486, 487, 488, 489, 490, 491, 492, 493, 494, 495, 496, 497, 498, 499] (by decide +kernel) (by decide +kernel)
set_option maxRecDepth 20000 in
theorem gL_law_X5_flying : GoodIn wsL_law (wsV RL 82 RX5 yX5_flying wsX5_flying) := goodIn_app (goodIn_of _ (by decide +kernel)) ggL_law_X5_flying
set_option maxRecDepth 20000 in
theorem ggL_law_X4_letter : GoodIn wsL_law wsX4_letter := goodIn_r _ [449, 18, 450, 301, 303, 300, 302, 167, 291, 304, 305, 306, 17, 307, 176, 471, 472, 473, 474, 500, 501, 512, 513, 514, 515, 516, 517, 518] (by decide +kernel) (by decide +kernel)
set_option maxRecDepth 20000 in
theorem gL_law_X4_letter : GoodIn wsL_law (wsV RL 83 RX4 yX4_letter wsX4_letter) := goodIn_app (goodIn_of _ (by decide +kernel)) ggL_law_X4_letter
set_option maxRecDepth 20000 in
theorem ggL_law_X5_letter : GoodIn wsL_law wsX5_letter := goodIn_r _ [454, 132, 121, 475, 476, 477, 478, 479, 480, 481, 482, 483, 484, 485, 486, 487, 488, 489, 490, 491, 492, 493, 494, 495, 496, 497, 498, 499] (by decide +kernel) (by decide +kernel)
set_option maxRecDepth 20000 in
theorem gL_law_X5_letter : GoodIn wsL_law (wsV RL 86 RX5 yX5_letter wsX5_letter) := goodIn_app (goodIn_of _ (by decide +kernel)) ggL_law_X5_letter
set_option maxRecDepth 20000 in
theorem ggL_law_X4_letterWord : GoodIn wsL_law wsX4_letterWord := goodIn_r _ [458, 18, 450, 301, 282, 304, 305, 306, 17, 307, 176, 156, 157, 2, 158, 471, 472, 473, 474, 500, 501, 512, 513, 514, 515, 516, 517, 518] (by decide +kernel) (by decide +kernel)
set_option maxRecDepth 20000 in
theorem gL_law_X4_letterWord : GoodIn wsL_law (wsV RL 87 RX4 yX4_letterWord wsX4_letterWord) := goodIn_app (goodIn_of _ (by decide +kernel)) ggL_law_X4_letterWord
set_option maxRecDepth 20000 in
theorem ggL_law_X5_letterWord : GoodIn wsL_law wsX5_letterWord := goodIn_r _ [462, 132, 122, 475, 476, 477, 478, 479, 480, 481, 482, 483, 484, 485, 486, 487, 488, 489, 490, 491, 492, 493, 494, 495, 496, 497, 498, 499] (by decide +kernel) (by decide +kernel)
set_option maxRecDepth 20000 in
theorem gL_law_X5_letterWord : GoodIn wsL_law (wsV RL 91 RX5 yX5_letterWord wsX5_letterWord) := goodIn_app (goodIn_of _ (by decide +kernel)) ggL_law_X5_letterWord
set_option maxRecDepth 20000 in
theorem ggL_law_X4_count : GoodIn wsL_law wsX4_count := goodIn_r _ [466, 20, 471, 472, 473, 474] (by decide +kernel) (by decide +kernel)
set_option maxRecDepth 20000 in
theorem gL_law_X4_count : GoodIn wsL_law (wsV RL 92 RX4 yX4_count wsX4_count) := goodIn_app (goodIn_of _ (by decide +kernel)) ggL_law_X4_count
set_option maxRecDepth 20000 in
theorem ggL_law_X5_count : GoodIn wsL_law wsX5_count := goodIn_r _ [470, 131, 123, 475, 476, 477, 478, 479, 480, 481, 482, 483, 484, 485, 486, 487, 488, 489, 490, 491, 492, 493, 494, 495, 496, 497, 498, 499] (by decide +kernel) (by decide +kernel)
set_option maxRecDepth 20000 in
theorem gL_law_X5_count : GoodIn wsL_law (wsV RL 95 RX5 yX5_count wsX5_count) := goodIn_app (goodIn_of _ (by decide +kernel)) ggL_law_X5_count
