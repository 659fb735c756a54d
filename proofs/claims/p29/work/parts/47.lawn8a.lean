/-! the law's words among the tables' (printed by wip/gen/lawnames.py) -/
theorem kGc {big a : List Cond} {c : Cond} (h : GoodIn big [c]) (ha : GoodIn big a) : GoodIn big (c :: a) := goodIn_app (a := [c]) (b := a) h ha
set_option maxRecDepth 20000 in
theorem ga_L_act_c : GoodIn wsL_law [.codeWith yL_act cL_act 5 (some .int) [(0, 76, 327, 87), (77, 110, 327, 87), (111, 136, 327, 87), (137, 162, 327, 87), (163, 198, 327, 87), (199, 230, 327, 87), (231, 254, 327, 87), (255, 296, 327, 87), (297, 326, 327, 87), (0, 76, 331, 89), (77, 110, 331, 89), (111, 136, 331, 89), (137, 162, 331, 89), (163, 198, 331, 89), (199, 230, 331, 89), (231, 254, 331, 89), (255, 296, 331, 89), (297, 326, 331, 89), (0, 76, 335, 91), (77, 110, 335, 91), (111, 136, 335, 91), (137, 162, 335, 91), (163, 198, 335, 91), (199, 230, 335, 91), (231, 254, 335, 91), (255, 296, 335, 91), (297, 326, 335, 91)]] := goodIn_r _ [241] (by decide +kernel) (by decide +kernel)
set_option maxRecDepth 20000 in
theorem ga_L_act_wsL_act_r1 : GoodIn wsL_law wsL_act_r1 := goodIn_r _ [242, 243, 244, 245, 135, 136, 137, 72, 73, 69, 74, 75, 76, 77, 78, 2, 79, 80, 81, 14, 20, 24, 82, 83] (by decide +kernel) (by decide +kernel)
set_option maxRecDepth 20000 in
theorem ga_L_act_wsL_act_r2 : GoodIn wsL_law wsL_act_r2 := goodIn_r _ [84, 85, 13, 86, 87, 40, 39, 88, 19, 89, 90, 48, 91, 23, 92, 93, 54, 94, 95, 96, 97, 98, 99, 100] (by decide +kernel) (by decide +kernel)
set_option maxRecDepth 20000 in
theorem ga_L_act_wsL_act_r3 : GoodIn wsL_law wsL_act_r3 := goodIn_r _ [101, 102, 103, 104, 105, 106, 107, 108, 109, 110, 111, 112, 113, 114, 115, 116, 117, 118, 119, 120, 121, 122, 123, 124] (by decide +kernel) (by decide +kernel)
set_option maxRecDepth 20000 in
theorem ga_L_act_wsL_act_r4 : GoodIn wsL_law wsL_act_r4 := goodIn_r _ [125, 126, 127, 128, 129, 130, 131, 132, 133, 134, 138, 139, 140, 141, 246, 247, 248, 249, 218, 219, 250, 251, 220, 221] (by decide +kernel) (by decide +kernel)
set_option maxRecDepth 20000 in
theorem ga_L_act_wsL_act_r5 : GoodIn wsL_law wsL_act_r5 := goodIn_r _ [222, 252, 253, 254, 255, 256, 257, 258, 259, 260, 261, 262, 263, 264, 265, 266, 238, 267, 268, 269, 270, 271, 146, 147] (by decide +kernel) (by decide +kernel)
set_option maxRecDepth 20000 in
theorem ga_L_act_wsL_act_r6 : GoodIn wsL_law wsL_act_r6 := goodIn_r _ [148, 142, 143, 144, 145, 32, 28, 34, 35, 149, 150, 151, 152, 153, 154, 155, 156, 157, 158, 159, 160, 161, 162, 163] (by decide +kernel) (by decide +kernel)
set_option maxRecDepth 20000 in
theorem ga_L_act_wsL_act_r7 : GoodIn wsL_law wsL_act_r7 := goodIn_r _ [164, 165, 166, 31, 167, 168, 169, 170, 171, 172, 173, 66, 174, 175, 176, 177, 178, 179, 180, 27, 181, 182, 59, 60] (by decide +kernel) (by decide +kernel)
set_option maxRecDepth 20000 in
theorem ga_L_act_wsL_act_r8 : GoodIn wsL_law wsL_act_r8 := goodIn_r _ [183, 184, 185, 186, 187, 188, 189, 190, 191, 192, 193, 194, 62, 195, 196, 197, 198, 199, 200, 201, 202, 203, 204, 205] (by decide +kernel) (by decide +kernel)
set_option maxRecDepth 20000 in
theorem ga_L_act_wsL_act_r9 : GoodIn wsL_law wsL_act_r9 := goodIn_r _ [206, 61, 207, 208, 209, 210, 211, 212, 213, 272, 273, 274, 275, 15, 276, 277, 278, 279, 280, 281, 282, 283, 284, 285] (by decide +kernel) (by decide +kernel)
set_option maxRecDepth 20000 in
theorem ga_L_act_wsL_act_r10 : GoodIn wsL_law wsL_act_r10 := goodIn_r _ [286, 287, 288, 289, 290, 291, 292, 293, 294, 295, 296, 297, 298, 299, 300, 301, 302, 303, 304, 305, 306, 307, 308, 309] (by decide +kernel) (by decide +kernel)
set_option maxRecDepth 20000 in
theorem ga_L_act_wsL_act_r11 : GoodIn wsL_law wsL_act_r11 := goodIn_r _ [310, 311, 312, 313, 314, 315, 316, 317, 318, 319, 320, 321, 322, 323, 324, 325, 326, 327, 328, 329, 330, 331, 332, 33] (by decide +kernel) (by decide +kernel)
set_option maxRecDepth 20000 in
theorem ga_L_act_wsL_act_r12 : GoodIn wsL_law wsL_act_r12 := goodIn_r _ [333, 334, 335, 336, 337, 338, 339, 340, 341, 342, 343, 344, 345, 346, 347, 348, 349, 350, 232, 237, 351, 49, 352, 353] (by decide +kernel) (by decide +kernel)
set_option maxRecDepth 20000 in
theorem ga_L_act_wsL_act_r13 : GoodIn wsL_law wsL_act_r13 := goodIn_r _ [354, 355, 356, 357, 45, 358, 359, 360, 361, 44, 362, 363, 364, 365, 366, 367, 368, 369, 370, 371, 53, 372, 373, 374] (by decide +kernel) (by decide +kernel)
set_option maxRecDepth 20000 in
theorem ga_L_act_wsL_act_r14 : GoodIn wsL_law wsL_act_r14 := goodIn_r _ [375, 376, 377, 378, 379, 380, 381, 382, 228, 229, 230, 231, 233, 234, 235, 236, 383, 384, 385, 386, 387, 388, 389, 390] (by decide +kernel) (by decide +kernel)
set_option maxRecDepth 20000 in
theorem ga_L_act_wsL_act_r15 : GoodIn wsL_law wsL_act_r15 := goodIn_r _ [391, 392, 393, 394, 395, 396, 397, 398, 399, 46, 47, 400, 401, 402, 403, 404, 405, 406, 407, 408, 409, 410, 411, 412] (by decide +kernel) (by decide +kernel)
set_option maxRecDepth 20000 in
theorem ga_L_act_wsL_act_r16 : GoodIn wsL_law wsL_act_r16 := goodIn_r _ [413, 414, 16, 11, 12, 36, 37, 38, 9, 10, 4, 415, 416, 417, 418, 419, 420, 421, 422] (by decide +kernel) (by decide +kernel)
set_option maxRecDepth 20000 in
theorem ga_L_act_wsX60 : GoodIn wsL_law wsX60 := goodIn_r _ [500, 501, 502, 503, 504, 505, 506, 507, 508, 509] (by decide +kernel) (by decide +kernel)
set_option maxRecDepth 20000 in
theorem ga_L_act_wsX30 : GoodIn wsL_law wsX30 := goodIn_r _ [510, 511] (by decide +kernel) (by decide +kernel)
set_option maxRecDepth 20000 in
theorem ga_L_act_wsX00 : GoodIn wsL_law wsX00 := goodIn_r _ [512, 513, 514, 515, 516, 517, 518, 519, 520, 521, 522] (by decide +kernel) (by decide +kernel)
set_option maxRecDepth 20000 in
theorem ga_L_act_wsX10 : GoodIn wsL_law wsX10 := goodIn_r _ [523, 524] (by decide +kernel) (by decide +kernel)
set_option maxRecDepth 20000 in
theorem ga_L_act_wsX40 : GoodIn wsL_law wsX40 := goodIn_r _ [529] (by decide +kernel) (by decide +kernel)
set_option maxRecDepth 20000 in
theorem ga_L_act_wsX20 : GoodIn wsL_law wsX20 := goodIn_r _ [525, 526, 527, 528] (by decide +kernel) (by decide +kernel)
set_option maxRecDepth 20000 in
theorem ga_L_act_x0 : GoodIn wsL_law ((vx_atS RX6 70 "java/lang/IllegalArgumentException" ["java/lang/RuntimeException", "java/lang/Exception"]).filter goodWord) := goodIn_sub (fun _ h => List.mem_append_left _ (List.mem_append_left _ (List.mem_append_right _ h))) (by decide +kernel)
set_option maxRecDepth 20000 in
theorem ga_L_act_x1 : GoodIn wsL_law ((vx_atS RX6 95 "java/lang/IndexOutOfBoundsException" ["java/lang/RuntimeException", "java/lang/Exception"]).filter goodWord) := goodIn_sub (fun _ h => List.mem_append_left _ (List.mem_append_right _ h)) (by decide +kernel)
set_option maxRecDepth 20000 in
theorem ga_L_act_x2 : GoodIn wsL_law ((vx_atS RX6 110 "java/lang/IllegalStateException" ["java/lang/RuntimeException", "java/lang/Exception"]).filter goodWord) := goodIn_sub (fun _ h => List.mem_append_right _ h) (by decide +kernel)
set_option maxRecDepth 20000 in
theorem ggL_law_L_act : GoodIn wsL_law wsL_act := kGc ga_L_act_c (goodIn_app (goodIn_app (goodIn_app (goodIn_app (goodIn_app (goodIn_app (goodIn_app (goodIn_app (goodIn_app (goodIn_app ga_L_act_wsL_act_r1 (goodIn_app ga_L_act_wsL_act_r2 (goodIn_app ga_L_act_wsL_act_r3 (goodIn_app ga_L_act_wsL_act_r4 (goodIn_app ga_L_act_wsL_act_r5 (goodIn_app ga_L_act_wsL_act_r6 (goodIn_app ga_L_act_wsL_act_r7 (goodIn_app ga_L_act_wsL_act_r8 (goodIn_app ga_L_act_wsL_act_r9 (goodIn_app ga_L_act_wsL_act_r10 (goodIn_app ga_L_act_wsL_act_r11 (goodIn_app ga_L_act_wsL_act_r12 (goodIn_app ga_L_act_wsL_act_r13 (goodIn_app ga_L_act_wsL_act_r14 (goodIn_app ga_L_act_wsL_act_r15 (ga_L_act_wsL_act_r16)))))))))))))))) ga_L_act_wsX60) ga_L_act_wsX30) ga_L_act_wsX00) ga_L_act_wsX10) ga_L_act_wsX40) ga_L_act_wsX20) ga_L_act_x0) ga_L_act_x1) ga_L_act_x2)
set_option maxRecDepth 20000 in
theorem gL_law_L_act : GoodIn wsL_law (va_wsS RL 34 yL_act wsL_act) := goodIn_app (goodIn_of _ (by decide +kernel)) ggL_law_L_act
