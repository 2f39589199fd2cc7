set_option maxRecDepth 20000 in
theorem ggL_law_X2_init : GoodIn wsL_law wsX2_init := goodIn_r _ [8, 9, 10, 11, 12, 13, 14, 15, 16, 17, 18, 19, 20, 21, 22, 23, 24, 25, 26, 27, 28, 29, 30, 561, 562, 563, 564, 565, 566, 567, 568, 587, 588] (by decide +kernel) (by decide +kernel)
set_option maxRecDepth 20000 in
theorem gL_law_X2_init : GoodIn wsL_law (wsX2_init) := ggL_law_X2_init
set_option maxRecDepth 20000 in
theorem ggL_law_X3_init : GoodIn wsL_law wsX3_init := goodIn_r _ [33, 34, 10, 11, 28, 35, 36, 37, 38, 39, 40, 41, 42, 43, 44, 45, 569, 570, 571, 572, 573, 574, 575, 576, 577, 578, 579, 580, 581, 582, 583, 584, 585, 586] (by decide +kernel) (by decide +kernel)
set_option maxRecDepth 20000 in
theorem gL_law_X3_init : GoodIn wsL_law (wsX3_init) := ggL_law_X3_init
set_option maxRecDepth 20000 in
theorem ggL_law_X2_code : GoodIn wsL_law wsX2_code := goodIn_r _ [49, 22, 561, 562, 563, 564, 565, 566, 567, 568] (by decide +kernel) (by decide +kernel)
set_option maxRecDepth 20000 in
theorem gL_law_X2_code : GoodIn wsL_law (wsV RL 13 RX2 yX2_code wsX2_code) := goodIn_app (goodIn_of _ (by decide +kernel)) ggL_law_X2_code
set_option maxRecDepth 20000 in
theorem ggL_law_X3_code : GoodIn wsL_law wsX3_code := goodIn_r _ [53, 54, 569, 570, 571, 572, 573, 574, 575, 576, 577, 578, 579, 580, 581, 582, 583, 584, 585, 586] (by decide +kernel) (by decide +kernel)
set_option maxRecDepth 20000 in
theorem gL_law_X3_code : GoodIn wsL_law (wsV RL 17 RX3 yX3_code wsX3_code) := goodIn_app (goodIn_of _ (by decide +kernel)) ggL_law_X3_code
set_option maxRecDepth 20000 in
theorem ggL_law_X2_place : GoodIn wsL_law wsX2_place := goodIn_r _ [58, 23, 561, 562, 563, 564, 565, 566, 567, 568] (by decide +kernel) (by decide +kernel)
set_option maxRecDepth 20000 in
theorem gL_law_X2_place : GoodIn wsL_law (wsV RL 18 RX2 yX2_place wsX2_place) := goodIn_app (goodIn_of _ (by decide +kernel)) ggL_law_X2_place
set_option maxRecDepth 20000 in
theorem ggL_law_X3_place : GoodIn wsL_law wsX3_place := goodIn_r _ [62, 41, 569, 570, 571, 572, 573, 574, 575, 576, 577, 578, 579, 580, 581, 582, 583, 584, 585, 586] (by decide +kernel) (by decide +kernel)
set_option maxRecDepth 20000 in
theorem gL_law_X3_place : GoodIn wsL_law (wsV RL 21 RX3 yX3_place wsX3_place) := goodIn_app (goodIn_of _ (by decide +kernel)) ggL_law_X3_place
set_option maxRecDepth 20000 in
theorem ggL_law_X2_point : GoodIn wsL_law wsX2_point := goodIn_r _ [66, 67, 19, 68, 69, 70, 2, 71, 72, 73, 74, 75, 76, 77, 78, 79, 80, 22, 81, 82, 83, 18, 84, 85, 86, 87, 88, 89, 90, 91, 30, 29, 92, 93, 94, 95, 561, 562, 563, 564, 565, 566, 567, 568, 587, 588] (by decide +kernel) (by decide +kernel)
set_option maxRecDepth 20000 in
theorem gL_law_X2_point : GoodIn wsL_law (wsV RL 22 RX2 yX2_point wsX2_point) := goodIn_app (goodIn_of _ (by decide +kernel)) ggL_law_X2_point
set_option maxRecDepth 20000 in
theorem ggL_law_X3_point : GoodIn wsL_law wsX3_point := goodIn_r _ [99, 100, 101, 102, 103, 40, 43, 104, 105, 5, 106, 107, 108, 109, 110, 111, 112, 113, 114, 54, 115, 116, 117, 118, 119, 120, 121, 122, 123, 124, 569, 570, 571, 572, 573, 574, 575, 576, 577, 578, 579, 580, 581, 582, 583, 584, 585, 586] (by decide +kernel) (by decide +kernel)
set_option maxRecDepth 20000 in
theorem gL_law_X3_point : GoodIn wsL_law (wsV RL 26 RX3 yX3_point wsX3_point) := goodIn_app (goodIn_of _ (by decide +kernel)) ggL_law_X3_point
set_option maxRecDepth 20000 in
theorem ggL_law_X2_unit : GoodIn wsL_law wsX2_unit := goodIn_r _ [128, 129, 67, 19, 68, 77, 78, 79, 2, 80, 22, 130, 89, 90, 18, 91, 30, 29, 92, 93, 94, 95, 561, 562, 563, 564, 565, 566, 567, 568, 587, 588] (by decide +kernel) (by decide +kernel)
set_option maxRecDepth 20000 in
theorem gL_law_X2_unit : GoodIn wsL_law (wsV RL 27 RX2 yX2_unit wsX2_unit) := goodIn_app (goodIn_of _ (by decide +kernel)) ggL_law_X2_unit
set_option maxRecDepth 20000 in
theorem ggL_law_X3_unit : GoodIn wsL_law wsX3_unit := goodIn_r _ [134, 135, 100, 101, 40, 108, 109, 5, 110, 111, 112, 113, 114, 54, 121, 122, 123, 124, 569, 570, 571, 572, 573, 574, 575, 576, 577, 578, 579, 580, 581, 582, 583, 584, 585, 586] (by decide +kernel) (by decide +kernel)
set_option maxRecDepth 20000 in
theorem gL_law_X3_unit : GoodIn wsL_law (wsV RL 30 RX3 yX3_unit wsX3_unit) := goodIn_app (goodIn_of _ (by decide +kernel)) ggL_law_X3_unit
