/-! the law's words among the tables' (printed by wip/gen/lawnames.py) -/
set_option maxRecDepth 20000 in
theorem ga_X6_digest_c : GoodIn wsL_law [.code yX6_digest cX6_digest 4 (some .long)] := goodIn_r _ [430] (by decide +kernel) (by decide +kernel)
set_option maxRecDepth 20000 in
theorem ga_X6_digest_wsX6_digest_r1 : GoodIn wsL_law wsX6_digest_r1 := goodIn_r _ [431, 432, 34, 433, 143, 144, 2, 145, 80, 81, 14, 32, 28, 35, 82, 83, 84, 146, 13, 147, 148, 40, 97, 98] (by decide +kernel) (by decide +kernel)
set_option maxRecDepth 20000 in
theorem ga_X6_digest_wsX6_digest_r2 : GoodIn wsL_law wsX6_digest_r2 := goodIn_r _ [99, 100, 101, 102, 103, 104, 39, 105, 106, 107, 108, 109, 110, 111, 149, 113, 150, 121, 122, 151, 152, 153, 154, 155] (by decide +kernel) (by decide +kernel)
set_option maxRecDepth 20000 in
theorem ga_X6_digest_wsX6_digest_r3 : GoodIn wsL_law wsX6_digest_r3 := goodIn_r _ [156, 126, 127, 128, 129, 130, 131, 112, 114, 115, 116, 117, 118, 119, 120, 123, 124, 125, 132, 133, 134, 135, 136, 137] (by decide +kernel) (by decide +kernel)
set_option maxRecDepth 20000 in
theorem ga_X6_digest_wsX6_digest_r4 : GoodIn wsL_law wsX6_digest_r4 := goodIn_r _ [94, 95, 96, 157, 158, 159, 160, 161, 162, 163, 164, 165, 166, 31, 167, 168, 169, 170, 171, 172, 173, 66, 174, 175] (by decide +kernel) (by decide +kernel)
set_option maxRecDepth 20000 in
theorem ga_X6_digest_wsX6_digest_r5 : GoodIn wsL_law wsX6_digest_r5 := goodIn_r _ [176, 177, 178, 179, 180, 27, 181, 182, 59, 60, 183, 184, 185, 186, 187, 188, 189, 190, 191, 192, 193, 194, 62, 195] (by decide +kernel) (by decide +kernel)
set_option maxRecDepth 20000 in
theorem ga_X6_digest_wsX6_digest_r6 : GoodIn wsL_law wsX6_digest_r6 := goodIn_r _ [196, 197, 198, 199, 200, 201, 202, 203, 204, 205, 206, 61, 207, 208, 209, 210, 211, 212, 213, 434, 377, 378, 379, 20] (by decide +kernel) (by decide +kernel)
set_option maxRecDepth 20000 in
theorem ga_X6_digest_wsX6_digest_r7 : GoodIn wsL_law wsX6_digest_r7 := goodIn_r _ [380, 19, 381, 382, 49, 228, 229, 230, 231, 232, 233, 234, 235, 236, 44, 237, 383, 384, 385, 386, 293, 294, 238, 435] (by decide +kernel) (by decide +kernel)
set_option maxRecDepth 20000 in
theorem ga_X6_digest_wsX6_digest_r8 : GoodIn wsL_law wsX6_digest_r8 := goodIn_r _ [436, 437, 438, 439, 215, 216, 217, 218, 219, 220, 221, 222, 223, 224, 225, 226, 227, 48, 440, 441, 442, 443, 444, 445] (by decide +kernel) (by decide +kernel)
set_option maxRecDepth 20000 in
theorem ga_X6_digest_wsX6_digest_r9 : GoodIn wsL_law wsX6_digest_r9 := goodIn_r _ [446, 447, 287, 288, 289, 290, 291, 292, 295, 296, 303, 304, 305, 300, 301, 302, 448, 449, 450, 451, 329, 330, 331, 332] (by decide +kernel) (by decide +kernel)
set_option maxRecDepth 20000 in
theorem ga_X6_digest_wsX6_digest_r10 : GoodIn wsL_law wsX6_digest_r10 := goodIn_r _ [33, 263, 333, 334, 335, 267, 336, 337, 338, 339, 452, 453, 454, 455, 456, 457, 458, 459, 24, 344, 345, 346, 347, 460] (by decide +kernel) (by decide +kernel)
set_option maxRecDepth 20000 in
theorem ga_X6_digest_wsX6_digest_r11 : GoodIn wsL_law wsX6_digest_r11 := goodIn_r _ [23, 461, 462, 463, 362, 363, 364, 365, 366, 367, 368, 369, 370, 371, 53, 372, 373, 374, 375, 464, 465, 466, 54, 138] (by decide +kernel) (by decide +kernel)
set_option maxRecDepth 20000 in
theorem ga_X6_digest_wsX6_digest_r12 : GoodIn wsL_law wsX6_digest_r12 := goodIn_r _ [139, 140, 141, 467, 468, 469, 470, 419, 420, 421, 422, 16, 471, 472, 473, 474, 475, 476, 477, 478, 479, 480, 481, 482] (by decide +kernel) (by decide +kernel)
set_option maxRecDepth 20000 in
theorem ga_X6_digest_wsX6_digest_r13 : GoodIn wsL_law wsX6_digest_r13 := goodIn_r _ [483, 484, 485, 486, 487, 488, 489, 490, 491, 492, 493, 494, 495, 496, 497, 498] (by decide +kernel) (by decide +kernel)
set_option maxRecDepth 20000 in
theorem ga_X6_digest_wsX60 : GoodIn wsL_law wsX60 := goodIn_r _ [500, 501, 502, 503, 504, 505, 506, 507, 508, 509] (by decide +kernel) (by decide +kernel)
set_option maxRecDepth 20000 in
theorem ga_X6_digest_wsX30 : GoodIn wsL_law wsX30 := goodIn_r _ [510, 511] (by decide +kernel) (by decide +kernel)
set_option maxRecDepth 20000 in
theorem ga_X6_digest_wsX40 : GoodIn wsL_law wsX40 := goodIn_r _ [529] (by decide +kernel) (by decide +kernel)
set_option maxRecDepth 20000 in
theorem ga_X6_digest_wsX20 : GoodIn wsL_law wsX20 := goodIn_r _ [525, 526, 527, 528] (by decide +kernel) (by decide +kernel)
set_option maxRecDepth 20000 in
theorem ga_X6_digest_wsX00 : GoodIn wsL_law wsX00 := goodIn_r _ [512, 513, 514, 515, 516, 517, 518, 519, 520, 521, 522] (by decide +kernel) (by decide +kernel)
set_option maxRecDepth 20000 in
theorem ga_X6_digest_wsX10 : GoodIn wsL_law wsX10 := goodIn_r _ [523, 524] (by decide +kernel) (by decide +kernel)
set_option maxRecDepth 20000 in
theorem ga_X6_digest_x0 : GoodIn wsL_law ((vx_atS RX6 70 "java/lang/IllegalArgumentException" ["java/lang/RuntimeException", "java/lang/Exception"]).filter goodWord) := goodIn_sub (fun _ h => List.mem_append_left _ (List.mem_append_left _ (List.mem_append_right _ h))) (by decide +kernel)
set_option maxRecDepth 20000 in
theorem ga_X6_digest_x1 : GoodIn wsL_law ((vx_atS RX6 95 "java/lang/IndexOutOfBoundsException" ["java/lang/RuntimeException", "java/lang/Exception"]).filter goodWord) := goodIn_sub (fun _ h => List.mem_append_left _ (List.mem_append_right _ h)) (by decide +kernel)
set_option maxRecDepth 20000 in
theorem ggL_law_X6_digest : GoodIn wsL_law wsX6_digest := kGc ga_X6_digest_c (goodIn_app (goodIn_app (goodIn_app (goodIn_app (goodIn_app (goodIn_app (goodIn_app (goodIn_app (goodIn_app ga_X6_digest_wsX6_digest_r1 (goodIn_app ga_X6_digest_wsX6_digest_r2 (goodIn_app ga_X6_digest_wsX6_digest_r3 (goodIn_app ga_X6_digest_wsX6_digest_r4 (goodIn_app ga_X6_digest_wsX6_digest_r5 (goodIn_app ga_X6_digest_wsX6_digest_r6 (goodIn_app ga_X6_digest_wsX6_digest_r7 (goodIn_app ga_X6_digest_wsX6_digest_r8 (goodIn_app ga_X6_digest_wsX6_digest_r9 (goodIn_app ga_X6_digest_wsX6_digest_r10 (goodIn_app ga_X6_digest_wsX6_digest_r11 (goodIn_app ga_X6_digest_wsX6_digest_r12 (ga_X6_digest_wsX6_digest_r13))))))))))))) ga_X6_digest_wsX60) ga_X6_digest_wsX30) ga_X6_digest_wsX40) ga_X6_digest_wsX20) ga_X6_digest_wsX00) ga_X6_digest_wsX10) ga_X6_digest_x0) ga_X6_digest_x1)
set_option maxRecDepth 20000 in
theorem gL_law_X6_digest : GoodIn wsL_law (wsV RL 44 RX6 yX6_digest wsX6_digest) := goodIn_app (goodIn_of _ (by decide +kernel)) ggL_law_X6_digest
set_option maxRecDepth 20000 in
theorem ggL_law_X6_isSound : GoodIn wsL_law wsX6_isSound := goodIn_r _ [481, 14, 24, 482, 13, 483, 484, 40, 485, 118, 119, 120, 101, 102, 103, 104, 39, 121, 2, 122, 486, 487, 488, 489, 20, 98, 99, 100, 105, 106, 107, 108, 109, 110, 111, 112, 113, 114, 115, 116, 117, 123, 124, 125, 126, 127, 128, 129, 130, 131, 132, 133, 134, 135, 136, 137, 490, 491, 492, 493, 94, 95, 96, 97, 82, 83, 84, 362, 23, 363, 364, 365, 366, 367, 368, 369, 370, 371, 53, 372, 373, 374, 375, 494, 495, 496, 497, 464, 465, 466, 54, 138, 139, 140, 141, 463, 498, 460, 461, 462, 500, 501, 502, 503, 504, 505, 506, 507, 508, 509, 510, 511, 512, 513, 514, 515, 516, 517, 518, 519, 520, 521, 522, 523, 524] (by decide +kernel) (by decide +kernel)
set_option maxRecDepth 20000 in
theorem gL_law_X6_isSound : GoodIn wsL_law (wsV RL 48 RX6 yX6_isSound wsX6_isSound) := goodIn_app (goodIn_of _ (by decide +kernel)) ggL_law_X6_isSound
