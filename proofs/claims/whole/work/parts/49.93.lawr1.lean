set_option maxRecDepth 20000 in
theorem ggL_law_X2_fresh : GoodIn wsL_law wsX2_fresh := goodIn_r _ [139, 19, 68, 140, 141, 142, 18, 143, 30, 561, 562, 563, 564, 565, 566, 567, 568, 587, 588] (by decide +kernel) (by decide +kernel)
set_option maxRecDepth 20000 in
theorem gL_law_X2_fresh : GoodIn wsL_law (wsV RL 31 RX2 yX2_fresh wsX2_fresh) := goodIn_app (goodIn_of _ (by decide +kernel)) ggL_law_X2_fresh
set_option maxRecDepth 20000 in
theorem ggL_law_X3_fresh : GoodIn wsL_law wsX3_fresh := goodIn_r _ [147, 101, 569, 570, 571, 572, 573, 574, 575, 576, 577, 578, 579, 580, 581, 582, 583, 584, 585, 586] (by decide +kernel) (by decide +kernel)
set_option maxRecDepth 20000 in
theorem gL_law_X3_fresh : GoodIn wsL_law (wsV RL 34 RX3 yX3_fresh wsX3_fresh) := goodIn_app (goodIn_of _ (by decide +kernel)) ggL_law_X3_fresh
set_option maxRecDepth 20000 in
theorem ggL_law_X2_lay : GoodIn wsL_law wsX2_lay := goodIn_r _ [151, 67, 20, 19, 152, 68, 153, 154, 2, 155, 140, 141, 142, 18, 143, 30, 156, 157, 158, 159, 160, 161, 162, 163, 164, 165, 166, 167, 168, 169, 170, 171, 172, 76, 88, 89, 90, 91, 29, 173, 174, 175, 129, 130, 176, 177, 178, 179, 13, 12, 180, 181, 182, 183, 184, 185, 10, 11, 186, 187, 188, 189, 190, 191, 192, 193, 194, 195, 196, 197, 198, 199, 28, 200, 201, 202, 203, 204, 205, 206, 207, 92, 93, 94, 95, 22, 561, 562, 563, 564, 565, 566, 567, 568, 587, 588, 589, 590] (by decide +kernel) (by decide +kernel)
set_option maxRecDepth 20000 in
theorem gL_law_X2_lay : GoodIn wsL_law (wsV RL 35 RX2 yX2_lay wsX2_lay) := goodIn_app (goodIn_of _ (by decide +kernel)) ggL_law_X2_lay
set_option maxRecDepth 20000 in
theorem ggL_law_X3_lay : GoodIn wsL_law wsX3_lay := goodIn_r _ [211, 100, 101, 103, 43, 40, 42, 212, 213, 214, 5, 215, 108, 109, 110, 216, 217, 218, 219, 37, 38, 39, 35, 220, 221, 222, 223, 224, 36, 121, 122, 123, 124, 54, 225, 226, 227, 228, 102, 119, 120, 229, 230, 231, 232, 233, 234, 235, 236, 569, 570, 571, 572, 573, 574, 575, 576, 577, 578, 579, 580, 581, 582, 583, 584, 585, 586] (by decide +kernel) (by decide +kernel)
set_option maxRecDepth 20000 in
theorem gL_law_X3_lay : GoodIn wsL_law (wsV RL 39 RX3 yX3_lay wsX3_lay) := goodIn_app (goodIn_of _ (by decide +kernel)) ggL_law_X3_lay
set_option maxRecDepth 20000 in
theorem ggL_law_X2_share : GoodIn wsL_law wsX2_share := goodIn_r _ [240, 67, 13, 153, 154, 2, 155, 241, 242, 243, 244, 561, 562, 563, 564, 565, 566, 567, 568, 589, 590] (by decide +kernel) (by decide +kernel)
set_option maxRecDepth 20000 in
theorem gL_law_X2_share : GoodIn wsL_law (wsV RL 40 RX2 yX2_share wsX2_share) := goodIn_app (goodIn_of _ (by decide +kernel)) ggL_law_X2_share
set_option maxRecDepth 20000 in
theorem ggL_law_X3_share : GoodIn wsL_law wsX3_share := goodIn_r _ [248, 100, 35, 213, 214, 5, 215, 108, 109, 110, 249, 250, 251, 252, 37, 569, 570, 571, 572, 573, 574, 575, 576, 577, 578, 579, 580, 581, 582, 583, 584, 585, 586] (by decide +kernel) (by decide +kernel)
set_option maxRecDepth 20000 in
theorem gL_law_X3_share : GoodIn wsL_law (wsV RL 43 RX3 yX3_share wsX3_share) := goodIn_app (goodIn_of _ (by decide +kernel)) ggL_law_X3_share
set_option maxRecDepth 20000 in
theorem ggL_law_X2_nothing : GoodIn wsL_law wsX2_nothing := goodIn_r _ [256, 67, 13, 153, 154, 2, 155, 241, 242, 243, 244, 561, 562, 563, 564, 565, 566, 567, 568, 589, 590] (by decide +kernel) (by decide +kernel)
set_option maxRecDepth 20000 in
theorem gL_law_X2_nothing : GoodIn wsL_law (wsV RL 44 RX2 yX2_nothing wsX2_nothing) := goodIn_app (goodIn_of _ (by decide +kernel)) ggL_law_X2_nothing
set_option maxRecDepth 20000 in
theorem ggL_law_X3_nothing : GoodIn wsL_law wsX3_nothing := goodIn_r _ [260, 100, 35, 213, 214, 5, 215, 108, 109, 110, 249, 250, 251, 252, 37, 569, 570, 571, 572, 573, 574, 575, 576, 577, 578, 579, 580, 581, 582, 583, 584, 585, 586] (by decide +kernel) (by decide +kernel)
set_option maxRecDepth 20000 in
theorem gL_law_X3_nothing : GoodIn wsL_law (wsV RL 47 RX3 yX3_nothing wsX3_nothing) := goodIn_app (goodIn_of _ (by decide +kernel)) ggL_law_X3_nothing
set_option maxRecDepth 20000 in
theorem ggL_law_X2_sort : GoodIn wsL_law wsX2_sort := goodIn_r _ [264, 67, 13, 153, 154, 2, 155, 241, 242, 243, 244, 561, 562, 563, 564, 565, 566, 567, 568, 589, 590] (by decide +kernel) (by decide +kernel)
set_option maxRecDepth 20000 in
theorem gL_law_X2_sort : GoodIn wsL_law (wsV RL 48 RX2 yX2_sort wsX2_sort) := goodIn_app (goodIn_of _ (by decide +kernel)) ggL_law_X2_sort
set_option maxRecDepth 20000 in
theorem ggL_law_X3_sort : GoodIn wsL_law wsX3_sort := goodIn_r _ [268, 100, 213, 214, 5, 215, 108, 109, 110, 249, 250, 251, 252, 35, 37, 569, 570, 571, 572, 573, 574, 575, 576, 577, 578, 579, 580, 581, 582, 583, 584, 585, 586] (by decide +kernel) (by decide +kernel)
set_option maxRecDepth 20000 in
theorem gL_law_X3_sort : GoodIn wsL_law (wsV RL 51 RX3 yX3_sort wsX3_sort) := goodIn_app (goodIn_of _ (by decide +kernel)) ggL_law_X3_sort
