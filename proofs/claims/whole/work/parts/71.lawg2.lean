/-! the law: the words of what it calls -/
set_option maxRecDepth 20000 in
theorem ggL_law_X5_neighbour : GoodIn wsL_law wsX5_neighbour := goodIn_r _ [384, 15, 92, 120, 121, 122, 123, 23, 124, 43, 385, 350, 2, 351, 125, 55, 56, 683, 684, 685, 692, 693, 694, 695, 696, 697, 698, 699, 700, 701, 702, 703] (by decide +kernel) (by decide +kernel)
set_option maxRecDepth 20000 in
theorem gL_law_X5_neighbour : GoodIn wsL_law (wsV RL 46 RX5 yX5_neighbour wsX5_neighbour) := goodIn_app (goodIn_of _ (by decide +kernel)) ggL_law_X5_neighbour
set_option maxRecDepth 20000 in
theorem ggL_law_X6_neighbour : GoodIn wsL_law wsX6_neighbour := goodIn_r _ [389, 134, 135, 136, 5, 137, 84, 112, 113, 114, 356, 357, 358, 359, 221, 222, 223, 224, 686, 687, 688, 689, 690, 691] (by decide +kernel) (by decide +kernel)
set_option maxRecDepth 20000 in
theorem gL_law_X6_neighbour : GoodIn wsL_law (wsV RL 49 RX6 yX6_neighbour wsX6_neighbour) := goodIn_app (goodIn_of _ (by decide +kernel)) ggL_law_X6_neighbour
set_option maxRecDepth 20000 in
theorem ggL_law_X5_child : GoodIn wsL_law wsX5_child := goodIn_r _ [393, 15, 92, 313, 394, 121, 122, 123, 23, 124, 43, 385, 350, 2, 351, 125, 55, 56, 683, 684, 685, 692, 693, 694, 695, 696, 697, 698, 699, 700, 704, 705, 706, 707, 701, 702, 703] (by decide +kernel) (by decide +kernel)
set_option maxRecDepth 20000 in
theorem gL_law_X5_child : GoodIn wsL_law (wsV RL 50 RX5 yX5_child wsX5_child) := goodIn_app (goodIn_of _ (by decide +kernel)) ggL_law_X5_child
set_option maxRecDepth 20000 in
theorem ggL_law_X6_child : GoodIn wsL_law wsX6_child := goodIn_r _ [398, 84, 134, 135, 136, 5, 137, 112, 113, 114, 269, 270, 271, 272, 221, 222, 223, 224, 273, 274, 275, 276, 241, 242, 243, 244, 686, 687, 688, 689, 690, 691] (by decide +kernel) (by decide +kernel)
set_option maxRecDepth 20000 in
theorem gL_law_X6_child : GoodIn wsL_law (wsV RL 53 RX6 yX6_child wsX6_child) := goodIn_app (goodIn_of _ (by decide +kernel)) ggL_law_X6_child
set_option maxRecDepth 20000 in
theorem ggL_law_X5_enabled : GoodIn wsL_law wsX5_enabled := goodIn_r _ [402, 15, 92, 119, 121, 122, 123, 23, 124, 43, 403, 158, 159, 160, 161, 162, 163, 164, 165, 27, 166, 62, 63, 167, 168, 169, 170, 171, 172, 55, 2, 56, 173, 174, 175, 176, 177, 178, 179, 180, 181, 182, 183, 184, 185, 186, 187, 188, 189, 190, 191, 192, 193, 194, 195, 196, 151, 152, 197, 198, 199, 200, 201, 683, 684, 685, 692, 693, 694, 695, 696, 697, 698, 699, 700, 701, 702, 703, 704, 705, 706, 707] (by decide +kernel) (by decide +kernel)
set_option maxRecDepth 20000 in
theorem gL_law_X5_enabled : GoodIn wsL_law (wsV RL 54 RX5 yX5_enabled wsX5_enabled) := goodIn_app (goodIn_of _ (by decide +kernel)) ggL_law_X5_enabled
set_option maxRecDepth 20000 in
theorem ggL_law_X6_enabled : GoodIn wsL_law wsX6_enabled := goodIn_r _ [407, 84, 134, 135, 136, 5, 137, 112, 113, 114, 233, 234, 235, 236, 237, 238, 239, 240, 241, 242, 243, 244, 221, 222, 223, 224, 245, 246, 247, 248, 249, 250, 251, 252, 253, 254, 255, 256, 257, 258, 259, 260, 261, 262, 263, 264, 265, 266, 267, 268, 269, 270, 271, 272, 273, 274, 275, 276, 277, 278, 279, 280, 281, 282, 283, 284, 285, 286, 287, 288, 289, 290, 291, 292, 293, 294, 295, 296, 297, 298, 299, 300, 301, 302, 303, 304, 686, 687, 688, 689, 690, 691] (by decide +kernel) (by decide +kernel)
set_option maxRecDepth 20000 in
theorem gL_law_X6_enabled : GoodIn wsL_law (wsV RL 57 RX6 yX6_enabled wsX6_enabled) := goodIn_app (goodIn_of _ (by decide +kernel)) ggL_law_X6_enabled
set_option maxRecDepth 20000 in
theorem ggL_law_X5_rights : GoodIn wsL_law wsX5_rights := goodIn_r _ [411, 15, 412, 413, 159, 414, 170, 171, 190, 191, 192, 161, 193, 162, 55, 2, 56, 194, 195, 196, 151, 152, 197, 198, 199, 200, 201, 415, 207, 208, 209, 210, 211, 212, 683, 684, 685, 692, 693, 694, 695, 696, 697, 698, 699, 700, 701, 702, 703, 704, 705, 706, 707] (by decide +kernel) (by decide +kernel)
set_option maxRecDepth 20000 in
theorem gL_law_X5_rights : GoodIn wsL_law (wsV RL 58 RX5 yX5_rights wsX5_rights) := goodIn_app (goodIn_of _ (by decide +kernel)) ggL_law_X5_rights
set_option maxRecDepth 20000 in
theorem ggL_law_X6_rights : GoodIn wsL_law wsX6_rights := goodIn_r _ [419, 84, 285, 286, 287, 5, 288, 269, 270, 271, 272, 221, 222, 223, 224, 134, 135, 136, 137, 112, 113, 114, 273, 274, 275, 276, 241, 242, 243, 244, 289, 290, 291, 292, 293, 294, 295, 296, 245, 246, 247, 248, 297, 298, 299, 300, 301, 302, 303, 304, 686, 687, 688, 689, 690, 691] (by decide +kernel) (by decide +kernel)
set_option maxRecDepth 20000 in
theorem gL_law_X6_rights : GoodIn wsL_law (wsV RL 61 RX6 yX6_rights wsX6_rights) := goodIn_app (goodIn_of _ (by decide +kernel)) ggL_law_X6_rights
