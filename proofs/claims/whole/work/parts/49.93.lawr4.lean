set_option maxRecDepth 20000 in
theorem ggL_law_X2_back : GoodIn wsL_law wsX2_back := goodIn_r _ [463, 67, 13, 20, 21, 68, 152, 244, 153, 154, 2, 155, 77, 78, 79, 80, 22, 286, 287, 288, 273, 140, 141, 142, 18, 143, 30, 156, 157, 158, 159, 160, 161, 162, 163, 164, 165, 166, 167, 168, 169, 170, 171, 172, 76, 88, 89, 90, 91, 29, 289, 290, 291, 292, 81, 82, 83, 84, 85, 86, 87, 130, 176, 177, 178, 179, 12, 180, 181, 182, 183, 184, 185, 10, 11, 186, 187, 188, 189, 190, 191, 192, 193, 194, 195, 196, 197, 198, 199, 28, 200, 201, 202, 203, 204, 205, 206, 207, 92, 93, 94, 95, 561, 562, 563, 564, 565, 566, 567, 568, 587, 588, 589, 590] (by decide +kernel) (by decide +kernel)
set_option maxRecDepth 20000 in
theorem gL_law_X2_back : GoodIn wsL_law (wsV RL 94 RX2 yX2_back wsX2_back) := goodIn_app (goodIn_of _ (by decide +kernel)) ggL_law_X2_back
set_option maxRecDepth 20000 in
theorem ggL_law_X3_back : GoodIn wsL_law wsX3_back := goodIn_r _ [467, 100, 44, 213, 214, 5, 215, 108, 109, 110, 249, 250, 251, 252, 35, 37, 111, 112, 113, 114, 54, 278, 279, 280, 281, 38, 305, 306, 307, 308, 39, 444, 445, 446, 447, 229, 230, 231, 119, 232, 233, 234, 235, 120, 236, 216, 217, 218, 219, 220, 221, 222, 223, 224, 36, 121, 122, 123, 124, 569, 570, 571, 572, 573, 574, 575, 576, 577, 578, 579, 580, 581, 582, 583, 584, 585, 586] (by decide +kernel) (by decide +kernel)
set_option maxRecDepth 20000 in
theorem gL_law_X3_back : GoodIn wsL_law (wsV RL 97 RX3 yX3_back wsX3_back) := goodIn_app (goodIn_of _ (by decide +kernel)) ggL_law_X3_back
set_option maxRecDepth 20000 in
theorem ggL_law_X2_copy : GoodIn wsL_law wsX2_copy := goodIn_r _ [471, 67, 13, 244, 273, 472, 205, 206, 207, 153, 154, 2, 155, 77, 78, 79, 80, 22, 433, 434, 435, 92, 93, 94, 95, 561, 562, 563, 564, 565, 566, 567, 568, 589, 590] (by decide +kernel) (by decide +kernel)
set_option maxRecDepth 20000 in
theorem gL_law_X2_copy : GoodIn wsL_law (wsV RL 98 RX2 yX2_copy wsX2_copy) := goodIn_app (goodIn_of _ (by decide +kernel)) ggL_law_X2_copy
set_option maxRecDepth 20000 in
theorem ggL_law_X3_copy : GoodIn wsL_law wsX3_copy := goodIn_r _ [476, 100, 44, 39, 35, 213, 214, 5, 215, 108, 109, 110, 249, 250, 251, 252, 37, 111, 112, 113, 114, 54, 278, 279, 280, 281, 38, 305, 306, 307, 308, 121, 122, 123, 124, 569, 570, 571, 572, 573, 574, 575, 576, 577, 578, 579, 580, 581, 582, 583, 584, 585, 586] (by decide +kernel) (by decide +kernel)
set_option maxRecDepth 20000 in
theorem gL_law_X3_copy : GoodIn wsL_law (wsV RL 102 RX3 yX3_copy wsX3_copy) := goodIn_app (goodIn_of _ (by decide +kernel)) ggL_law_X3_copy
set_option maxRecDepth 20000 in
theorem ggL_law_X2_find : GoodIn wsL_law wsX2_find := goodIn_r _ [480, 67, 13, 244, 273, 153, 154, 2, 155, 77, 78, 79, 80, 22, 481, 482, 483, 433, 434, 435, 436, 437, 438, 439, 160, 161, 162, 163, 164, 165, 166, 167, 168, 169, 170, 92, 93, 94, 95, 561, 562, 563, 564, 565, 566, 567, 568, 589, 590] (by decide +kernel) (by decide +kernel)
set_option maxRecDepth 20000 in
theorem gL_law_X2_find : GoodIn wsL_law (wsV RL 103 RX2 yX2_find wsX2_find) := goodIn_app (goodIn_of _ (by decide +kernel)) ggL_law_X2_find
set_option maxRecDepth 20000 in
theorem ggL_law_X3_find : GoodIn wsL_law wsX3_find := goodIn_r _ [487, 100, 54, 213, 214, 5, 215, 108, 109, 110, 249, 250, 251, 252, 35, 37, 278, 279, 280, 281, 38, 444, 445, 446, 447, 305, 306, 307, 308, 39, 229, 230, 231, 119, 232, 233, 234, 235, 120, 236, 569, 570, 571, 572, 573, 574, 575, 576, 577, 578, 579, 580, 581, 582, 583, 584, 585, 586] (by decide +kernel) (by decide +kernel)
set_option maxRecDepth 20000 in
theorem gL_law_X3_find : GoodIn wsL_law (wsV RL 106 RX3 yX3_find wsX3_find) := goodIn_app (goodIn_of _ (by decide +kernel)) ggL_law_X3_find
set_option maxRecDepth 20000 in
theorem ggL_law_X2_compare : GoodIn wsL_law wsX2_compare := goodIn_r _ [491, 67, 13, 244, 20, 21, 153, 154, 2, 155, 341, 342, 343, 77, 78, 79, 80, 22, 344, 345, 346, 273, 140, 141, 142, 18, 143, 30, 289, 290, 291, 292, 88, 89, 90, 91, 29, 81, 82, 83, 84, 85, 86, 87, 286, 287, 288, 156, 157, 158, 159, 160, 161, 162, 163, 164, 165, 166, 167, 168, 169, 170, 171, 172, 76, 492, 493, 494, 68, 152, 495, 201, 202, 203, 92, 93, 94, 95, 561, 562, 563, 564, 565, 566, 567, 568, 589, 590, 587, 588] (by decide +kernel) (by decide +kernel)
set_option maxRecDepth 20000 in
theorem gL_law_X2_compare : GoodIn wsL_law (wsV RL 107 RX2 yX2_compare wsX2_compare) := goodIn_app (goodIn_of _ (by decide +kernel)) ggL_law_X2_compare
set_option maxRecDepth 20000 in
theorem ggL_law_X3_compare : GoodIn wsL_law wsX3_compare := goodIn_r _ [499, 100, 500, 44, 103, 43, 212, 42, 213, 214, 5, 215, 108, 109, 110, 249, 250, 251, 252, 35, 37, 111, 112, 113, 114, 54, 278, 279, 280, 281, 38, 305, 306, 307, 308, 39, 501, 502, 503, 504, 121, 122, 123, 124, 301, 302, 303, 304, 225, 226, 227, 228, 102, 119, 120, 229, 230, 231, 232, 233, 234, 235, 236, 309, 310, 311, 312, 115, 116, 117, 118, 569, 570, 571, 572, 573, 574, 575, 576, 577, 578, 579, 580, 581, 582, 583, 584, 585, 586] (by decide +kernel) (by decide +kernel)
set_option maxRecDepth 20000 in
theorem gL_law_X3_compare : GoodIn wsL_law (wsV RL 110 RX3 yX3_compare wsX3_compare) := goodIn_app (goodIn_of _ (by decide +kernel)) ggL_law_X3_compare
set_option maxRecDepth 20000 in
theorem ggL_law_X2_change : GoodIn wsL_law wsX2_change := goodIn_r _ [508, 67, 13, 244, 20, 273, 153, 154, 2, 155, 341, 342, 343, 77, 78, 79, 80, 22, 140, 141, 142, 18, 143, 30, 509, 510, 511, 512, 513, 514, 130, 89, 90, 91, 29, 176, 177, 178, 179, 12, 180, 181, 68, 182, 183, 184, 185, 10, 11, 186, 187, 188, 189, 190, 191, 192, 193, 194, 195, 196, 197, 198, 199, 28, 200, 201, 202, 203, 204, 205, 206, 207, 92, 93, 94, 95, 561, 562, 563, 564, 565, 566, 567, 568, 589, 590, 587, 588] (by decide +kernel) (by decide +kernel)
set_option maxRecDepth 20000 in
theorem gL_law_X2_change : GoodIn wsL_law (wsV RL 111 RX2 yX2_change wsX2_change) := goodIn_app (goodIn_of _ (by decide +kernel)) ggL_law_X2_change
set_option maxRecDepth 20000 in
theorem ggL_law_X3_change : GoodIn wsL_law wsX3_change := goodIn_r _ [518, 100, 44, 213, 214, 5, 215, 108, 109, 110, 297, 298, 299, 300, 249, 250, 251, 252, 35, 37, 111, 112, 113, 114, 54, 278, 279, 280, 281, 38, 305, 306, 307, 308, 39, 519, 520, 521, 216, 217, 218, 219, 220, 221, 222, 223, 224, 36, 121, 122, 123, 124, 569, 570, 571, 572, 573, 574, 575, 576, 577, 578, 579, 580, 581, 582, 583, 584, 585, 586] (by decide +kernel) (by decide +kernel)
set_option maxRecDepth 20000 in
theorem gL_law_X3_change : GoodIn wsL_law (wsV RL 114 RX3 yX3_change wsX3_change) := goodIn_app (goodIn_of _ (by decide +kernel)) ggL_law_X3_change
