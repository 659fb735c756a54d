/-! the law's words among the tables' (printed by wip/gen/lawnames.py) -/
set_option maxRecDepth 20000 in
theorem ggL_law_X6_init : GoodIn wsL_law wsX6_init := goodIn_r _ [7, 8, 9, 10, 11, 12, 13, 14, 15, 16, 17, 18, 19, 20, 21, 22, 23, 24, 25, 26, 27, 28, 29, 30, 31, 32, 4, 33, 34, 35, 36, 37, 38, 39, 40, 41, 42, 43, 44, 45, 46, 47, 48, 49, 50, 51, 52, 53, 54, 55, 56, 57, 58, 59, 60, 61, 62, 63, 64, 65, 66, 510, 511, 500, 501, 502, 503, 504, 505, 506, 507, 508, 509, 512, 513, 514, 515, 516, 517, 518, 519, 520, 521, 522, 523, 524, 525, 526, 527, 528, 529] (by decide +kernel) (by decide +kernel)
set_option maxRecDepth 20000 in
theorem gL_law_X6_init : GoodIn wsL_law (wsX6_init) := ggL_law_X6_init
set_option maxRecDepth 20000 in
theorem ggL_law_L_cell : GoodIn wsL_law wsL_cell := goodIn_r _ [70, 71] (by decide +kernel) (by decide +kernel)
set_option maxRecDepth 20000 in
theorem gL_law_L_cell : GoodIn wsL_law (va_wsS RL 12 yL_cell wsL_cell) := goodIn_app (goodIn_of _ (by decide +kernel)) ggL_law_L_cell
set_option maxRecDepth 20000 in
theorem ggL_law_L_below : GoodIn wsL_law wsL_below := goodIn_r _ [74, 75] (by decide +kernel) (by decide +kernel)
set_option maxRecDepth 20000 in
theorem gL_law_L_below : GoodIn wsL_law (va_wsS RL 18 yL_below wsL_below) := goodIn_app (goodIn_of _ (by decide +kernel)) ggL_law_L_below
set_option maxRecDepth 20000 in
theorem ggL_law_X6_garden : GoodIn wsL_law wsX6_garden := goodIn_ca (goodIn_r _ [79, 80, 81, 14, 20, 24, 82, 83, 2, 84, 85, 13, 86, 87, 40, 39, 88, 19, 89, 90, 48, 91, 23, 92, 93, 54, 94, 95, 96, 97, 98, 99, 100, 101, 102, 103, 104, 105, 106, 107, 108, 109, 110, 111, 112, 113, 114, 115, 116, 117, 118, 119, 120, 121, 122, 123, 124, 125, 126, 127, 128, 129, 130, 131, 132, 133, 134, 135, 136, 137, 138, 139, 140, 141, 500, 501, 502, 503, 504, 505, 506, 507, 508, 509, 510, 511, 512, 513, 514, 515, 516, 517, 518, 519, 520, 521, 522, 523, 524] (by decide +kernel) (by decide +kernel)) (goodIn_sub (fun _ h => List.mem_append_left _ (List.mem_append_left _ (List.mem_append_right _ h))) (by decide +kernel))
set_option maxRecDepth 20000 in
theorem gL_law_X6_garden : GoodIn wsL_law (wsV RL 22 RX6 yX6_garden wsX6_garden) := goodIn_app (goodIn_of _ (by decide +kernel)) ggL_law_X6_garden
set_option maxRecDepth 20000 in
theorem ggL_law_X6_now : GoodIn wsL_law wsX6_now := goodIn_ca (goodIn_r _ [145, 80, 81, 14, 32, 28, 34, 35, 82, 83, 2, 84, 146, 13, 147, 148, 40, 97, 98, 99, 100, 101, 102, 103, 104, 39, 105, 106, 107, 108, 109, 110, 111, 149, 113, 150, 121, 122, 151, 152, 153, 154, 155, 156, 126, 127, 128, 129, 130, 131, 112, 114, 115, 116, 117, 118, 119, 120, 123, 124, 125, 132, 133, 134, 135, 136, 137, 94, 95, 96, 157, 158, 159, 160, 161, 162, 163, 164, 165, 166, 31, 167, 168, 169, 170, 171, 172, 173, 66, 174, 175, 176, 177, 178, 179, 180, 27, 181, 182, 59, 60, 183, 184, 185, 186, 187, 188, 189, 190, 191, 192, 193, 194, 62, 195, 196, 197, 198, 199, 200, 201, 202, 203, 204, 205, 206, 61, 207, 208, 209, 210, 211, 212, 213, 500, 501, 502, 503, 504, 505, 506, 507, 508, 509, 510, 511, 529, 525, 526, 527, 528] (by decide +kernel) (by decide +kernel)) (goodIn_sub (fun _ h => List.mem_append_left _ (List.mem_append_left _ (List.mem_append_right _ h))) (by decide +kernel))
set_option maxRecDepth 20000 in
theorem gL_law_X6_now : GoodIn wsL_law (wsV RL 28 RX6 yX6_now wsX6_now) := goodIn_app (goodIn_of _ (by decide +kernel)) ggL_law_X6_now
