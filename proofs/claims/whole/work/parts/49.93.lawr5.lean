set_option maxRecDepth 20000 in
theorem ggL_law_X2_keep : GoodIn wsL_law wsX2_keep := goodIn_r _ [525, 67, 13, 244, 14, 15, 153, 154, 2, 155, 77, 78, 79, 80, 22, 526, 527, 528, 529, 530, 531, 532, 273, 92, 93, 94, 95, 561, 562, 563, 564, 565, 566, 567, 568, 589, 590] (by decide +kernel) (by decide +kernel)
set_option maxRecDepth 20000 in
theorem gL_law_X2_keep : GoodIn wsL_law (wsV RL 115 RX2 yX2_keep wsX2_keep) := goodIn_app (goodIn_of _ (by decide +kernel)) ggL_law_X2_keep
set_option maxRecDepth 20000 in
theorem ggL_law_X3_keep : GoodIn wsL_law wsX3_keep := goodIn_r _ [536, 100, 224, 38, 36, 39, 35, 213, 214, 5, 215, 108, 109, 110, 249, 250, 251, 252, 37, 111, 112, 113, 114, 54, 278, 279, 280, 281, 305, 306, 307, 308, 121, 122, 123, 124, 569, 570, 571, 572, 573, 574, 575, 576, 577, 578, 579, 580, 581, 582, 583, 584, 585, 586] (by decide +kernel) (by decide +kernel)
set_option maxRecDepth 20000 in
theorem gL_law_X3_keep : GoodIn wsL_law (wsV RL 118 RX3 yX3_keep wsX3_keep) := goodIn_app (goodIn_of _ (by decide +kernel)) ggL_law_X3_keep
set_option maxRecDepth 20000 in
theorem ggL_law_X2_kept : GoodIn wsL_law wsX2_kept := goodIn_r _ [540, 15, 561, 562, 563, 564, 565, 566, 567, 568] (by decide +kernel) (by decide +kernel)
set_option maxRecDepth 20000 in
theorem gL_law_X2_kept : GoodIn wsL_law (wsV RL 119 RX2 yX2_kept wsX2_kept) := goodIn_app (goodIn_of _ (by decide +kernel)) ggL_law_X2_kept
set_option maxRecDepth 20000 in
theorem ggL_law_X3_kept : GoodIn wsL_law wsX3_kept := goodIn_r _ [544, 224, 569, 570, 571, 572, 573, 574, 575, 576, 577, 578, 579, 580, 581, 582, 583, 584, 585, 586] (by decide +kernel) (by decide +kernel)
set_option maxRecDepth 20000 in
theorem gL_law_X3_kept : GoodIn wsL_law (wsV RL 122 RX3 yX3_kept wsX3_kept) := goodIn_app (goodIn_of _ (by decide +kernel)) ggL_law_X3_kept
set_option maxRecDepth 20000 in
theorem ggL_law_X2_same : GoodIn wsL_law wsX2_same := goodIn_r _ [548, 67, 13, 153, 154, 2, 155, 561, 562, 563, 564, 565, 566, 567, 568] (by decide +kernel) (by decide +kernel)
set_option maxRecDepth 20000 in
theorem gL_law_X2_same : GoodIn wsL_law (wsV RL 123 RX2 yX2_same wsX2_same) := goodIn_app (goodIn_of _ (by decide +kernel)) ggL_law_X2_same
set_option maxRecDepth 20000 in
theorem ggL_law_X3_same : GoodIn wsL_law wsX3_same := goodIn_r _ [552, 100, 35, 213, 214, 5, 215, 108, 109, 110, 569, 570, 571, 572, 573, 574, 575, 576, 577, 578, 579, 580, 581, 582, 583, 584, 585, 586] (by decide +kernel) (by decide +kernel)
set_option maxRecDepth 20000 in
theorem gL_law_X3_same : GoodIn wsL_law (wsV RL 126 RX3 yX3_same wsX3_same) := goodIn_app (goodIn_of _ (by decide +kernel)) ggL_law_X3_same
set_option maxRecDepth 20000 in
theorem ggL_law_X2_kind : GoodIn wsL_law wsX2_kind := goodIn_r _ [556, 67, 76, 69, 70, 2, 71, 72, 162, 163, 164, 165, 166, 167, 168, 169, 170, 509, 510, 511, 512, 513, 514] (by decide +kernel) (by decide +kernel)
set_option maxRecDepth 20000 in
theorem gL_law_X2_kind : GoodIn wsL_law (wsV RL 127 RX2 yX2_kind wsX2_kind) := goodIn_app (goodIn_of _ (by decide +kernel)) ggL_law_X2_kind
set_option maxRecDepth 20000 in
theorem ggL_law_X3_kind : GoodIn wsL_law wsX3_kind := goodIn_r _ [560, 100, 135, 104, 105, 5, 106, 107, 108, 109, 110, 229, 230, 231, 119, 232, 233, 234, 235, 120, 236, 519, 520, 521] (by decide +kernel) (by decide +kernel)
set_option maxRecDepth 20000 in
theorem gL_law_X3_kind : GoodIn wsL_law (wsV RL 130 RX3 yX3_kind wsX3_kind) := goodIn_app (goodIn_of _ (by decide +kernel)) ggL_law_X3_kind
