/-! the law: the words of what it calls -/
set_option maxRecDepth 20000 in
theorem ggL_law_X5_wave : GoodIn wsL_law wsX5_wave := goodIn_r _ [595, 15, 596, 597, 368, 598, 683, 684, 685, 692, 693, 694, 695, 696, 697, 698, 699, 700, 708, 709, 710, 711, 712, 713] (by decide +kernel) (by decide +kernel)
set_option maxRecDepth 20000 in
theorem gL_law_X5_wave : GoodIn wsL_law (wsV RL 94 RX5 yX5_wave wsX5_wave) := goodIn_app (goodIn_of _ (by decide +kernel)) ggL_law_X5_wave
set_option maxRecDepth 20000 in
theorem ggL_law_X6_wave : GoodIn wsL_law wsX6_wave := goodIn_r _ [602, 84, 686, 687, 688, 689, 690, 691] (by decide +kernel) (by decide +kernel)
set_option maxRecDepth 20000 in
theorem gL_law_X6_wave : GoodIn wsL_law (wsV RL 97 RX6 yX6_wave wsX6_wave) := goodIn_app (goodIn_of _ (by decide +kernel)) ggL_law_X6_wave
set_option maxRecDepth 20000 in
theorem ggL_law_X5_entries : GoodIn wsL_law wsX5_entries := goodIn_r _ [606, 15, 92, 596, 607, 121, 122, 123, 23, 124, 43, 683, 684, 685, 692, 693, 694, 695, 696, 697, 698, 699, 700, 708, 709, 710, 711, 712, 713, 701, 702, 703] (by decide +kernel) (by decide +kernel)
set_option maxRecDepth 20000 in
theorem gL_law_X5_entries : GoodIn wsL_law (wsV RL 98 RX5 yX5_entries wsX5_entries) := goodIn_app (goodIn_of _ (by decide +kernel)) ggL_law_X5_entries
set_option maxRecDepth 20000 in
theorem ggL_law_X6_entries : GoodIn wsL_law wsX6_entries := goodIn_r _ [611, 84, 134, 135, 136, 5, 137, 112, 113, 114, 686, 687, 688, 689, 690, 691] (by decide +kernel) (by decide +kernel)
set_option maxRecDepth 20000 in
theorem gL_law_X6_entries : GoodIn wsL_law (wsV RL 101 RX6 yX6_entries wsX6_entries) := goodIn_app (goodIn_of _ (by decide +kernel)) ggL_law_X6_entries
set_option maxRecDepth 20000 in
theorem ggL_law_X5_count : GoodIn wsL_law wsX5_count := goodIn_r _ [615, 15, 92, 93, 596, 616, 617, 119, 618, 202, 203, 204, 23, 205, 43, 45, 206, 207, 208, 209, 210, 211, 212, 683, 684, 685, 692, 693, 694, 695, 696, 697, 698, 699, 700, 701, 702, 703, 708, 709, 710, 711, 712, 713] (by decide +kernel) (by decide +kernel)
set_option maxRecDepth 20000 in
theorem gL_law_X5_count : GoodIn wsL_law (wsV RL 102 RX5 yX5_count wsX5_count) := goodIn_app (goodIn_of _ (by decide +kernel)) ggL_law_X5_count
set_option maxRecDepth 20000 in
theorem ggL_law_X6_count : GoodIn wsL_law wsX6_count := goodIn_r _ [622, 84, 305, 306, 307, 5, 308, 112, 113, 114, 686, 687, 688, 689, 690, 691] (by decide +kernel) (by decide +kernel)
set_option maxRecDepth 20000 in
theorem gL_law_X6_count : GoodIn wsL_law (wsV RL 105 RX6 yX6_count wsX6_count) := goodIn_app (goodIn_of _ (by decide +kernel)) ggL_law_X6_count
set_option maxRecDepth 20000 in
theorem ggL_law_X5_keep : GoodIn wsL_law wsX5_keep := goodIn_r _ [626, 16, 15, 17, 627, 628, 629, 14, 630, 24, 28, 32, 33, 34, 35, 36, 37, 38, 631, 632, 633, 23, 634, 43, 45, 635, 460, 461, 462, 46, 636, 637, 638, 27, 639, 62, 640, 63, 64, 65, 641, 642, 643, 31, 644, 74, 75, 76, 77, 78, 645, 79, 683, 684, 685, 692, 693, 694, 695, 696, 697, 698, 699, 700, 701, 702, 703, 704, 705, 706, 707, 708, 709, 710, 711, 712, 713] (by decide +kernel) (by decide +kernel)
set_option maxRecDepth 20000 in
theorem gL_law_X5_keep : GoodIn wsL_law (wsV RL 106 RX5 yX5_keep wsX5_keep) := goodIn_app (goodIn_of _ (by decide +kernel)) ggL_law_X5_keep
set_option maxRecDepth 20000 in
theorem ggL_law_X6_keep : GoodIn wsL_law wsX6_keep := goodIn_r _ [649, 85, 84, 650, 686, 687, 688, 689, 690, 691] (by decide +kernel) (by decide +kernel)
set_option maxRecDepth 20000 in
theorem gL_law_X6_keep : GoodIn wsL_law (wsV RL 109 RX6 yX6_keep wsX6_keep) := goodIn_app (goodIn_of _ (by decide +kernel)) ggL_law_X6_keep
