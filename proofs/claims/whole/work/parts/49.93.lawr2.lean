set_option maxRecDepth 20000 in
theorem ggL_law_X2_length : GoodIn wsL_law wsX2_length := goodIn_r _ [272, 67, 13, 273, 153, 154, 2, 155, 77, 78, 79, 80, 22, 92, 93, 94, 95, 561, 562, 563, 564, 565, 566, 567, 568, 589, 590] (by decide +kernel) (by decide +kernel)
set_option maxRecDepth 20000 in
theorem gL_law_X2_length : GoodIn wsL_law (wsV RL 52 RX2 yX2_length wsX2_length) := goodIn_app (goodIn_of _ (by decide +kernel)) ggL_law_X2_length
set_option maxRecDepth 20000 in
theorem ggL_law_X3_length : GoodIn wsL_law wsX3_length := goodIn_r _ [277, 100, 213, 214, 5, 215, 108, 109, 110, 249, 250, 251, 252, 35, 37, 111, 112, 113, 114, 54, 278, 279, 280, 281, 38, 121, 122, 123, 124, 569, 570, 571, 572, 573, 574, 575, 576, 577, 578, 579, 580, 581, 582, 583, 584, 585, 586] (by decide +kernel) (by decide +kernel)
set_option maxRecDepth 20000 in
theorem gL_law_X3_length : GoodIn wsL_law (wsV RL 55 RX3 yX3_length wsX3_length) := goodIn_app (goodIn_of _ (by decide +kernel)) ggL_law_X3_length
set_option maxRecDepth 20000 in
theorem ggL_law_X2_points : GoodIn wsL_law wsX2_points := goodIn_r _ [285, 67, 13, 244, 20, 68, 153, 154, 2, 155, 77, 78, 79, 80, 22, 286, 287, 288, 273, 140, 141, 142, 18, 143, 30, 156, 157, 158, 159, 160, 161, 162, 163, 164, 165, 166, 167, 168, 169, 170, 171, 172, 76, 88, 89, 90, 91, 29, 289, 290, 291, 292, 92, 93, 94, 95, 561, 562, 563, 564, 565, 566, 567, 568, 589, 590, 587, 588] (by decide +kernel) (by decide +kernel)
set_option maxRecDepth 20000 in
theorem gL_law_X2_points : GoodIn wsL_law (wsV RL 56 RX2 yX2_points wsX2_points) := goodIn_app (goodIn_of _ (by decide +kernel)) ggL_law_X2_points
set_option maxRecDepth 20000 in
theorem ggL_law_X3_points : GoodIn wsL_law wsX3_points := goodIn_r _ [296, 100, 212, 213, 214, 5, 215, 108, 109, 110, 297, 298, 299, 300, 249, 250, 251, 252, 35, 37, 111, 112, 113, 114, 54, 301, 302, 303, 304, 103, 43, 42, 278, 279, 280, 281, 38, 305, 306, 307, 308, 39, 225, 226, 227, 228, 102, 119, 120, 229, 230, 231, 232, 233, 234, 235, 236, 309, 310, 311, 312, 115, 116, 117, 118, 121, 122, 123, 124, 569, 570, 571, 572, 573, 574, 575, 576, 577, 578, 579, 580, 581, 582, 583, 584, 585, 586] (by decide +kernel) (by decide +kernel)
set_option maxRecDepth 20000 in
theorem gL_law_X3_points : GoodIn wsL_law (wsV RL 59 RX3 yX3_points wsX3_points) := goodIn_app (goodIn_of _ (by decide +kernel)) ggL_law_X3_points
set_option maxRecDepth 20000 in
theorem ggL_law_X2_at : GoodIn wsL_law wsX2_at := goodIn_r _ [316, 67, 13, 273, 153, 154, 2, 155, 77, 78, 79, 80, 22, 92, 93, 94, 95, 561, 562, 563, 564, 565, 566, 567, 568, 589, 590] (by decide +kernel) (by decide +kernel)
set_option maxRecDepth 20000 in
theorem gL_law_X2_at : GoodIn wsL_law (wsV RL 60 RX2 yX2_at wsX2_at) := goodIn_app (goodIn_of _ (by decide +kernel)) ggL_law_X2_at
set_option maxRecDepth 20000 in
theorem ggL_law_X3_at : GoodIn wsL_law wsX3_at := goodIn_r _ [320, 100, 213, 214, 5, 215, 108, 109, 110, 249, 250, 251, 252, 35, 37, 111, 112, 113, 114, 54, 278, 279, 280, 281, 38, 305, 306, 307, 308, 39, 121, 122, 123, 124, 569, 570, 571, 572, 573, 574, 575, 576, 577, 578, 579, 580, 581, 582, 583, 584, 585, 586] (by decide +kernel) (by decide +kernel)
set_option maxRecDepth 20000 in
theorem gL_law_X3_at : GoodIn wsL_law (wsV RL 63 RX3 yX3_at wsX3_at) := goodIn_app (goodIn_of _ (by decide +kernel)) ggL_law_X3_at
set_option maxRecDepth 20000 in
theorem ggL_law_X2_pointAt : GoodIn wsL_law wsX2_pointAt := goodIn_r _ [324, 67, 13, 244, 20, 68, 152, 153, 154, 2, 155, 77, 78, 79, 80, 22, 286, 287, 288, 273, 140, 141, 142, 18, 143, 30, 156, 157, 158, 159, 160, 161, 162, 163, 164, 165, 166, 167, 168, 169, 170, 171, 172, 76, 88, 89, 90, 91, 29, 289, 290, 291, 292, 92, 93, 94, 95, 561, 562, 563, 564, 565, 566, 567, 568, 589, 590, 587, 588] (by decide +kernel) (by decide +kernel)
set_option maxRecDepth 20000 in
theorem gL_law_X2_pointAt : GoodIn wsL_law (wsV RL 64 RX2 yX2_pointAt wsX2_pointAt) := goodIn_app (goodIn_of _ (by decide +kernel)) ggL_law_X2_pointAt
set_option maxRecDepth 20000 in
theorem ggL_law_X3_pointAt : GoodIn wsL_law wsX3_pointAt := goodIn_r _ [328, 100, 212, 42, 213, 214, 5, 215, 108, 109, 110, 297, 298, 299, 300, 249, 250, 251, 252, 35, 37, 111, 112, 113, 114, 54, 301, 302, 303, 304, 103, 43, 278, 279, 280, 281, 38, 305, 306, 307, 308, 39, 225, 226, 227, 228, 102, 119, 120, 229, 230, 231, 232, 233, 234, 235, 236, 309, 310, 311, 312, 115, 116, 117, 118, 121, 122, 123, 124, 569, 570, 571, 572, 573, 574, 575, 576, 577, 578, 579, 580, 581, 582, 583, 584, 585, 586] (by decide +kernel) (by decide +kernel)
set_option maxRecDepth 20000 in
theorem gL_law_X3_pointAt : GoodIn wsL_law (wsV RL 67 RX3 yX3_pointAt wsX3_pointAt) := goodIn_app (goodIn_of _ (by decide +kernel)) ggL_law_X3_pointAt
set_option maxRecDepth 20000 in
theorem ggL_law_X2_put : GoodIn wsL_law wsX2_put := goodIn_r _ [332, 67, 13, 244, 273, 153, 154, 2, 155, 77, 78, 79, 80, 22, 173, 174, 175, 129, 92, 93, 94, 95, 561, 562, 563, 564, 565, 566, 567, 568, 589, 590] (by decide +kernel) (by decide +kernel)
set_option maxRecDepth 20000 in
theorem gL_law_X2_put : GoodIn wsL_law (wsV RL 68 RX2 yX2_put wsX2_put) := goodIn_app (goodIn_of _ (by decide +kernel)) ggL_law_X2_put
set_option maxRecDepth 20000 in
theorem ggL_law_X3_put : GoodIn wsL_law wsX3_put := goodIn_r _ [336, 100, 39, 35, 135, 213, 214, 5, 215, 108, 109, 110, 249, 250, 251, 252, 37, 278, 279, 280, 281, 38, 111, 112, 113, 114, 54, 305, 306, 307, 308, 121, 122, 123, 124, 569, 570, 571, 572, 573, 574, 575, 576, 577, 578, 579, 580, 581, 582, 583, 584, 585, 586] (by decide +kernel) (by decide +kernel)
set_option maxRecDepth 20000 in
theorem gL_law_X3_put : GoodIn wsL_law (wsV RL 72 RX3 yX3_put wsX3_put) := goodIn_app (goodIn_of _ (by decide +kernel)) ggL_law_X3_put
