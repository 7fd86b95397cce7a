/-! the law: the words of what it calls -/
set_option maxRecDepth 20000 in
theorem ggL_law_X5_dice : GoodIn wsL_law wsX5_dice := goodIn_r _ [545, 15, 546, 683, 684, 685, 692, 693, 694, 695, 696, 697, 698, 699, 700] (by decide +kernel) (by decide +kernel)
set_option maxRecDepth 20000 in
theorem gL_law_X5_dice : GoodIn wsL_law (wsV RL 78 RX5 yX5_dice wsX5_dice) := goodIn_app (goodIn_of _ (by decide +kernel)) ggL_law_X5_dice
set_option maxRecDepth 20000 in
theorem ggL_law_X6_dice : GoodIn wsL_law wsX6_dice := goodIn_r _ [550, 84, 686, 687, 688, 689, 690, 691] (by decide +kernel) (by decide +kernel)
set_option maxRecDepth 20000 in
theorem gL_law_X6_dice : GoodIn wsL_law (wsV RL 81 RX6 yX6_dice wsX6_dice) := goodIn_app (goodIn_of _ (by decide +kernel)) ggL_law_X6_dice
set_option maxRecDepth 20000 in
theorem ggL_law_X5_settle : GoodIn wsL_law wsX5_settle := goodIn_r _ [554, 15, 119, 509, 510, 2, 511, 555, 556, 557, 14, 558, 33, 24, 150, 28, 319, 559, 560, 561, 562, 23, 563, 43, 45, 46, 55, 56, 564, 164, 165, 27, 166, 62, 63, 565, 413, 159, 414, 170, 171, 190, 191, 192, 161, 193, 162, 194, 195, 196, 151, 152, 197, 198, 199, 200, 201, 415, 207, 208, 209, 210, 211, 212, 512, 513, 514, 515, 37, 516, 517, 518, 519, 36, 520, 521, 522, 523, 524, 34, 444, 445, 446, 447, 32, 448, 449, 450, 451, 452, 158, 160, 163, 167, 168, 169, 172, 173, 174, 175, 176, 177, 178, 179, 180, 181, 182, 183, 184, 185, 186, 187, 188, 189, 453, 454, 455, 456, 457, 458, 459, 460, 461, 462, 463, 464, 465, 466, 467, 468, 469, 470, 471, 472, 473, 474, 475, 476, 477, 350, 351, 125, 478, 331, 332, 333, 320, 321, 322, 323, 324, 325, 326, 327, 328, 329, 122, 123, 124, 330, 334, 335, 336, 337, 64, 65, 70, 52, 53, 54, 479, 480, 481, 482, 153, 154, 155, 156, 157, 483, 484, 485, 486, 38, 487, 488, 683, 684, 685, 692, 693, 694, 695, 696, 697, 698, 699, 700, 701, 702, 703, 704, 705, 706, 707, 708, 709, 710, 711, 712, 713] (by decide +kernel) (by decide +kernel)
set_option maxRecDepth 20000 in
theorem gL_law_X5_settle : GoodIn wsL_law (wsV RL 82 RX5 yX5_settle wsX5_settle) := goodIn_app (goodIn_of _ (by decide +kernel)) ggL_law_X5_settle
set_option maxRecDepth 20000 in
theorem ggL_law_X6_settle : GoodIn wsL_law wsX6_settle := goodIn_r _ [569, 84, 112, 113, 5, 114, 570, 571, 572, 573, 87, 217, 218, 219, 220, 221, 222, 223, 224, 134, 135, 136, 137, 237, 238, 239, 240, 241, 242, 243, 244, 245, 246, 247, 248, 574, 417, 418, 419, 285, 286, 287, 288, 269, 270, 271, 272, 273, 274, 275, 276, 289, 290, 291, 292, 293, 294, 295, 296, 297, 298, 299, 300, 301, 302, 303, 304, 529, 530, 531, 532, 533, 493, 494, 495, 496, 86, 233, 234, 235, 236, 249, 250, 251, 252, 253, 254, 255, 256, 257, 258, 259, 260, 261, 262, 263, 264, 265, 266, 267, 268, 277, 278, 279, 280, 281, 282, 283, 284, 497, 498, 499, 500, 501, 502, 503, 504, 229, 230, 231, 232, 225, 226, 227, 228, 534, 535, 536, 537, 538, 539, 540, 541, 686, 687, 688, 689, 690, 691] (by decide +kernel) (by decide +kernel)
set_option maxRecDepth 20000 in
theorem gL_law_X6_settle : GoodIn wsL_law (wsV RL 85 RX6 yX6_settle wsX6_settle) := goodIn_app (goodIn_of _ (by decide +kernel)) ggL_law_X6_settle
set_option maxRecDepth 20000 in
theorem ggL_law_X5_rest : GoodIn wsL_law wsX5_rest := goodIn_r _ [578, 15, 555, 556, 557, 14, 558, 33, 24, 150, 28, 319, 559, 560, 561, 562, 23, 563, 43, 45, 46, 55, 2, 56, 564, 164, 165, 27, 166, 62, 63, 565, 413, 159, 414, 170, 171, 190, 191, 192, 161, 193, 162, 194, 195, 196, 151, 152, 197, 198, 199, 200, 201, 415, 207, 208, 209, 210, 211, 212, 683, 684, 685, 692, 693, 694, 695, 696, 697, 698, 699, 700, 701, 702, 703, 704, 705, 706, 707] (by decide +kernel) (by decide +kernel)
set_option maxRecDepth 20000 in
theorem gL_law_X5_rest : GoodIn wsL_law (wsV RL 86 RX5 yX5_rest wsX5_rest) := goodIn_app (goodIn_of _ (by decide +kernel)) ggL_law_X5_rest
set_option maxRecDepth 20000 in
theorem ggL_law_X6_rest : GoodIn wsL_law wsX6_rest := goodIn_r _ [582, 570, 571, 572, 5, 573, 84, 87, 217, 218, 219, 220, 221, 222, 223, 224, 134, 135, 136, 137, 112, 113, 114, 237, 238, 239, 240, 241, 242, 243, 244, 245, 246, 247, 248, 574, 417, 418, 419, 285, 286, 287, 288, 269, 270, 271, 272, 273, 274, 275, 276, 289, 290, 291, 292, 293, 294, 295, 296, 297, 298, 299, 300, 301, 302, 303, 304, 686, 687, 688, 689, 690, 691] (by decide +kernel) (by decide +kernel)
set_option maxRecDepth 20000 in
theorem gL_law_X6_rest : GoodIn wsL_law (wsV RL 89 RX6 yX6_rest wsX6_rest) := goodIn_app (goodIn_of _ (by decide +kernel)) ggL_law_X6_rest
set_option maxRecDepth 20000 in
theorem ggL_law_X5_distance : GoodIn wsL_law wsX5_distance := goodIn_r _ [586, 15, 92, 587, 121, 122, 123, 23, 124, 43, 683, 684, 685, 692, 693, 694, 695, 696, 697, 698, 699, 700, 701, 702, 703] (by decide +kernel) (by decide +kernel)
set_option maxRecDepth 20000 in
theorem gL_law_X5_distance : GoodIn wsL_law (wsV RL 90 RX5 yX5_distance wsX5_distance) := goodIn_app (goodIn_of _ (by decide +kernel)) ggL_law_X5_distance
set_option maxRecDepth 20000 in
theorem ggL_law_X6_distance : GoodIn wsL_law wsX6_distance := goodIn_r _ [591, 87, 134, 135, 136, 5, 137, 84, 112, 113, 114, 217, 218, 219, 220, 221, 222, 223, 224, 686, 687, 688, 689, 690, 691] (by decide +kernel) (by decide +kernel)
set_option maxRecDepth 20000 in
theorem gL_law_X6_distance : GoodIn wsL_law (wsV RL 93 RX6 yX6_distance wsX6_distance) := goodIn_app (goodIn_of _ (by decide +kernel)) ggL_law_X6_distance
