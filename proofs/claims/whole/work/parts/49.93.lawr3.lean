set_option maxRecDepth 20000 in
theorem ggL_law_X2_turnInto : GoodIn wsL_law wsX2_turnInto := goodIn_r _ [340, 67, 13, 244, 20, 68, 153, 154, 2, 155, 341, 342, 343, 77, 78, 79, 80, 22, 286, 287, 288, 273, 140, 141, 142, 18, 143, 30, 156, 157, 158, 159, 160, 161, 162, 163, 164, 165, 166, 167, 168, 169, 170, 171, 172, 76, 88, 89, 90, 91, 29, 289, 290, 291, 292, 344, 345, 346, 81, 82, 83, 84, 85, 86, 87, 176, 177, 178, 179, 12, 180, 181, 182, 183, 184, 185, 10, 11, 186, 187, 188, 189, 190, 191, 192, 193, 194, 195, 196, 197, 198, 199, 28, 200, 201, 202, 203, 204, 205, 206, 207, 92, 93, 94, 95, 561, 562, 563, 564, 565, 566, 567, 568, 589, 590, 587, 588] (by decide +kernel) (by decide +kernel)
set_option maxRecDepth 20000 in
theorem gL_law_X2_turnInto : GoodIn wsL_law (wsV RL 73 RX2 yX2_turnInto wsX2_turnInto) := goodIn_app (goodIn_of _ (by decide +kernel)) ggL_law_X2_turnInto
set_option maxRecDepth 20000 in
theorem ggL_law_X3_turnInto : GoodIn wsL_law wsX3_turnInto := goodIn_r _ [350, 100, 42, 212, 103, 43, 213, 214, 5, 215, 108, 109, 110, 297, 298, 299, 300, 249, 250, 251, 252, 35, 37, 111, 112, 113, 114, 54, 301, 302, 303, 304, 278, 279, 280, 281, 38, 305, 306, 307, 308, 39, 225, 226, 227, 228, 102, 119, 120, 229, 230, 231, 232, 233, 234, 235, 236, 309, 310, 311, 312, 115, 116, 117, 118, 216, 217, 218, 219, 220, 221, 222, 223, 224, 36, 121, 122, 123, 124, 569, 570, 571, 572, 573, 574, 575, 576, 577, 578, 579, 580, 581, 582, 583, 584, 585, 586] (by decide +kernel) (by decide +kernel)
set_option maxRecDepth 20000 in
theorem gL_law_X3_turnInto : GoodIn wsL_law (wsV RL 76 RX3 yX3_turnInto wsX3_turnInto) := goodIn_app (goodIn_of _ (by decide +kernel)) ggL_law_X3_turnInto
set_option maxRecDepth 20000 in
theorem ggL_law_X2_tell : GoodIn wsL_law wsX2_tell := goodIn_r _ [354, 67, 13, 244, 21, 20, 153, 154, 2, 155, 355, 356, 357, 77, 78, 79, 80, 22, 140, 141, 142, 18, 143, 30, 344, 345, 346, 273, 289, 290, 291, 292, 88, 89, 90, 91, 29, 81, 82, 83, 84, 85, 86, 87, 358, 359, 360, 68, 152, 130, 176, 177, 178, 179, 12, 180, 181, 182, 183, 184, 185, 10, 11, 186, 187, 188, 189, 190, 191, 192, 193, 194, 195, 196, 197, 198, 199, 28, 200, 201, 202, 203, 204, 205, 206, 207, 92, 93, 94, 95, 286, 287, 288, 156, 157, 158, 159, 160, 161, 162, 163, 164, 165, 166, 167, 168, 169, 170, 171, 172, 76, 361, 362, 363, 364, 365, 366, 367, 23, 368, 369, 370, 371, 372, 373, 374, 561, 562, 563, 564, 565, 566, 567, 568, 589, 590, 587, 588] (by decide +kernel) (by decide +kernel)
set_option maxRecDepth 20000 in
theorem gL_law_X2_tell : GoodIn wsL_law (wsV RL 77 RX2 yX2_tell wsX2_tell) := goodIn_app (goodIn_of _ (by decide +kernel)) ggL_law_X2_tell
set_option maxRecDepth 20000 in
theorem ggL_law_X3_tell : GoodIn wsL_law wsX3_tell := goodIn_r _ [378, 100, 379, 103, 43, 45, 212, 42, 213, 214, 5, 215, 108, 109, 110, 297, 298, 299, 300, 249, 250, 251, 252, 35, 37, 111, 112, 113, 114, 54, 301, 302, 303, 304, 278, 279, 280, 281, 38, 305, 306, 307, 308, 39, 225, 226, 227, 228, 102, 119, 120, 229, 230, 231, 232, 233, 234, 235, 236, 309, 310, 311, 312, 115, 116, 117, 118, 380, 381, 382, 383, 216, 217, 218, 219, 220, 221, 222, 223, 224, 36, 121, 122, 123, 124, 384, 385, 386, 387, 41, 388, 389, 390, 391, 392, 569, 570, 571, 572, 573, 574, 575, 576, 577, 578, 579, 580, 581, 582, 583, 584, 585, 586] (by decide +kernel) (by decide +kernel)
set_option maxRecDepth 20000 in
theorem gL_law_X3_tell : GoodIn wsL_law (wsV RL 80 RX3 yX3_tell wsX3_tell) := goodIn_app (goodIn_of _ (by decide +kernel)) ggL_law_X3_tell
set_option maxRecDepth 20000 in
theorem ggL_law_X2_read : GoodIn wsL_law wsX2_read := goodIn_r _ [396, 67, 13, 244, 273, 20, 68, 153, 154, 2, 155, 355, 356, 357, 77, 78, 79, 80, 22, 397, 398, 399, 140, 141, 142, 18, 143, 30, 400, 401, 402, 403, 404, 405, 406, 407, 408, 409, 410, 411, 412, 413, 414, 76, 72, 162, 163, 164, 165, 166, 167, 168, 169, 170, 81, 82, 83, 84, 85, 86, 87, 88, 89, 90, 91, 29, 289, 290, 291, 292, 415, 416, 417, 130, 364, 365, 366, 367, 23, 176, 177, 178, 179, 12, 180, 181, 182, 183, 184, 185, 10, 11, 186, 187, 188, 189, 190, 191, 192, 193, 194, 195, 196, 197, 198, 199, 28, 200, 201, 202, 203, 204, 205, 206, 207, 92, 93, 94, 95, 561, 562, 563, 564, 565, 566, 567, 568, 589, 590, 587, 588] (by decide +kernel) (by decide +kernel)
set_option maxRecDepth 20000 in
theorem gL_law_X2_read : GoodIn wsL_law (wsV RL 81 RX2 yX2_read wsX2_read) := goodIn_app (goodIn_of _ (by decide +kernel)) ggL_law_X2_read
set_option maxRecDepth 20000 in
theorem ggL_law_X3_read : GoodIn wsL_law wsX3_read := goodIn_r _ [421, 100, 103, 43, 213, 214, 5, 215, 108, 109, 110, 249, 250, 251, 252, 35, 37, 111, 112, 113, 114, 54, 278, 279, 280, 281, 38, 305, 306, 307, 308, 39, 422, 423, 424, 425, 426, 427, 428, 102, 107, 229, 230, 231, 119, 232, 233, 234, 235, 120, 236, 384, 385, 386, 387, 41, 115, 116, 117, 118, 216, 217, 218, 219, 220, 221, 222, 223, 224, 36, 121, 122, 123, 124, 569, 570, 571, 572, 573, 574, 575, 576, 577, 578, 579, 580, 581, 582, 583, 584, 585, 586] (by decide +kernel) (by decide +kernel)
set_option maxRecDepth 20000 in
theorem gL_law_X3_read : GoodIn wsL_law (wsV RL 84 RX3 yX3_read wsX3_read) := goodIn_app (goodIn_of _ (by decide +kernel)) ggL_law_X3_read
set_option maxRecDepth 20000 in
theorem ggL_law_X2_cut : GoodIn wsL_law wsX2_cut := goodIn_r _ [432, 67, 13, 20, 273, 244, 153, 154, 2, 155, 77, 78, 79, 80, 22, 433, 434, 435, 436, 437, 438, 439, 160, 161, 162, 163, 164, 165, 166, 167, 168, 169, 170, 140, 141, 142, 18, 143, 30, 130, 89, 90, 91, 29, 176, 177, 178, 179, 12, 180, 181, 68, 182, 183, 184, 185, 10, 11, 186, 187, 188, 189, 190, 191, 192, 193, 194, 195, 196, 197, 198, 199, 28, 200, 201, 202, 203, 204, 205, 206, 207, 92, 93, 94, 95, 561, 562, 563, 564, 565, 566, 567, 568, 589, 590, 587, 588] (by decide +kernel) (by decide +kernel)
set_option maxRecDepth 20000 in
theorem gL_law_X2_cut : GoodIn wsL_law (wsV RL 85 RX2 yX2_cut wsX2_cut) := goodIn_app (goodIn_of _ (by decide +kernel)) ggL_law_X2_cut
set_option maxRecDepth 20000 in
theorem ggL_law_X3_cut : GoodIn wsL_law wsX3_cut := goodIn_r _ [443, 100, 44, 213, 214, 5, 215, 108, 109, 110, 249, 250, 251, 252, 35, 37, 111, 112, 113, 114, 54, 278, 279, 280, 281, 38, 444, 445, 446, 447, 305, 306, 307, 308, 39, 229, 230, 231, 119, 232, 233, 234, 235, 120, 236, 216, 217, 218, 219, 220, 221, 222, 223, 224, 36, 121, 122, 123, 124, 569, 570, 571, 572, 573, 574, 575, 576, 577, 578, 579, 580, 581, 582, 583, 584, 585, 586] (by decide +kernel) (by decide +kernel)
set_option maxRecDepth 20000 in
theorem gL_law_X3_cut : GoodIn wsL_law (wsV RL 89 RX3 yX3_cut wsX3_cut) := goodIn_app (goodIn_of _ (by decide +kernel)) ggL_law_X3_cut
set_option maxRecDepth 20000 in
theorem ggL_law_X2_join : GoodIn wsL_law wsX2_join := goodIn_r _ [451, 67, 13, 244, 273, 20, 153, 154, 2, 155, 77, 78, 79, 80, 22, 452, 453, 454, 181, 455, 186, 140, 141, 142, 18, 143, 30, 289, 290, 291, 292, 88, 89, 90, 91, 29, 176, 177, 178, 179, 12, 180, 68, 182, 183, 184, 185, 10, 11, 187, 188, 189, 190, 191, 192, 193, 194, 195, 196, 197, 198, 199, 28, 200, 201, 202, 203, 204, 205, 206, 207, 92, 93, 94, 95, 561, 562, 563, 564, 565, 566, 567, 568, 589, 590, 587, 588] (by decide +kernel) (by decide +kernel)
set_option maxRecDepth 20000 in
theorem gL_law_X2_join : GoodIn wsL_law (wsV RL 90 RX2 yX2_join wsX2_join) := goodIn_app (goodIn_of _ (by decide +kernel)) ggL_law_X2_join
set_option maxRecDepth 20000 in
theorem ggL_law_X3_join : GoodIn wsL_law wsX3_join := goodIn_r _ [459, 100, 44, 213, 214, 5, 215, 108, 109, 110, 249, 250, 251, 252, 35, 37, 111, 112, 113, 114, 54, 278, 279, 280, 281, 38, 305, 306, 307, 308, 39, 216, 217, 218, 219, 220, 221, 222, 223, 224, 36, 121, 122, 123, 124, 569, 570, 571, 572, 573, 574, 575, 576, 577, 578, 579, 580, 581, 582, 583, 584, 585, 586] (by decide +kernel) (by decide +kernel)
set_option maxRecDepth 20000 in
theorem gL_law_X3_join : GoodIn wsL_law (wsV RL 93 RX3 yX3_join wsX3_join) := goodIn_app (goodIn_of _ (by decide +kernel)) ggL_law_X3_join
