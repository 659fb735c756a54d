/-! the law's words among the tables' (printed by wip/gen/lawnames.py) -/
set_option maxRecDepth 20000 in
theorem ggL_law_X6_search : GoodIn wsL_law wsX6_search := goodIn_ca (goodIn_r _ [379, 80, 81, 20, 14, 82, 83, 2, 84, 380, 19, 381, 382, 49, 228, 229, 230, 231, 232, 98, 13, 99, 100, 101, 102, 103, 104, 39, 105, 106, 107, 108, 109, 110, 111, 126, 127, 121, 122, 233, 234, 235, 236, 44, 237, 155, 113, 156, 128, 129, 130, 131, 383, 384, 385, 386, 293, 294, 238, 500, 501, 502, 503, 504, 505, 506, 507, 508, 509, 512, 513, 514, 515, 516, 517, 518, 519, 520, 521, 522, 510, 511] (by decide +kernel) (by decide +kernel)) (goodIn_sub (fun _ h => List.mem_append_left _ (List.mem_append_left _ (List.mem_append_right _ h))) (by decide +kernel))
set_option maxRecDepth 20000 in
theorem gL_law_X6_search : GoodIn wsL_law (wsV RL 38 RX6 yX6_search wsX6_search) := goodIn_app (goodIn_of _ (by decide +kernel)) ggL_law_X6_search
set_option maxRecDepth 20000 in
theorem ggL_law_X6_bound : GoodIn wsL_law wsX6_bound := goodIn_ca (goodIn_r _ [426, 344, 345, 346, 2, 347, 80, 81, 82, 83, 84, 366, 23, 367] (by decide +kernel) (by decide +kernel)) (goodIn_sub (fun _ h => List.mem_append_left _ (List.mem_append_left _ (List.mem_append_right _ h))) (by decide +kernel))
set_option maxRecDepth 20000 in
theorem gL_law_X6_bound : GoodIn wsL_law (wsV RL 41 RX6 yX6_bound wsX6_bound) := goodIn_app (goodIn_of _ (by decide +kernel)) ggL_law_X6_bound
