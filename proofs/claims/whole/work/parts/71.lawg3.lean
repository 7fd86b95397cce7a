/-! the law: the words of what it calls -/
set_option maxRecDepth 20000 in
theorem ggL_law_X5_holder : GoodIn wsL_law wsX5_holder := goodIn_r _ [423, 15, 92, 93, 424, 191, 159, 192, 170, 171, 161, 193, 162, 55, 2, 56, 194, 195, 196, 151, 152, 197, 198, 199, 200, 201, 425, 207, 208, 209, 210, 211, 212, 683, 684, 685, 692, 693, 694, 695, 696, 697, 698, 699, 700, 701, 702, 703, 704, 705, 706, 707] (by decide +kernel) (by decide +kernel)
set_option maxRecDepth 20000 in
theorem gL_law_X5_holder : GoodIn wsL_law (wsV RL 62 RX5 yX5_holder wsX5_holder) := goodIn_app (goodIn_of _ (by decide +kernel)) ggL_law_X5_holder
set_option maxRecDepth 20000 in
theorem ggL_law_X6_holder : GoodIn wsL_law wsX6_holder := goodIn_r _ [429, 84, 285, 286, 287, 5, 288, 269, 270, 271, 272, 221, 222, 223, 224, 134, 135, 136, 137, 112, 113, 114, 273, 274, 275, 276, 241, 242, 243, 244, 289, 290, 291, 292, 293, 294, 295, 296, 245, 246, 247, 248, 297, 298, 299, 300, 301, 302, 303, 304, 686, 687, 688, 689, 690, 691] (by decide +kernel) (by decide +kernel)
set_option maxRecDepth 20000 in
theorem gL_law_X6_holder : GoodIn wsL_law (wsV RL 65 RX6 yX6_holder wsX6_holder) := goodIn_app (goodIn_of _ (by decide +kernel)) ggL_law_X6_holder
set_option maxRecDepth 20000 in
theorem ggL_law_X5_next : GoodIn wsL_law wsX5_next := goodIn_r _ [433, 15, 92, 313, 434, 119, 121, 122, 123, 23, 124, 43, 125, 55, 2, 56, 435, 151, 152, 385, 350, 351, 683, 684, 685, 692, 693, 694, 695, 696, 697, 698, 699, 700, 704, 705, 706, 707, 701, 702, 703] (by decide +kernel) (by decide +kernel)
set_option maxRecDepth 20000 in
theorem gL_law_X5_next : GoodIn wsL_law (wsV RL 66 RX5 yX5_next wsX5_next) := goodIn_app (goodIn_of _ (by decide +kernel)) ggL_law_X5_next
set_option maxRecDepth 20000 in
theorem ggL_law_X6_next : GoodIn wsL_law wsX6_next := goodIn_r _ [439, 84, 134, 135, 136, 5, 137, 112, 113, 114, 285, 286, 287, 288, 269, 270, 271, 272, 221, 222, 223, 224, 273, 274, 275, 276, 241, 242, 243, 244, 301, 302, 303, 304, 686, 687, 688, 689, 690, 691] (by decide +kernel) (by decide +kernel)
set_option maxRecDepth 20000 in
theorem gL_law_X6_next : GoodIn wsL_law (wsV RL 69 RX6 yX6_next wsX6_next) := goodIn_app (goodIn_of _ (by decide +kernel)) ggL_law_X6_next
set_option maxRecDepth 20000 in
theorem ggL_law_X5_step : GoodIn wsL_law wsX5_step := goodIn_r _ [443, 15, 119, 444, 445, 446, 14, 447, 37, 24, 150, 28, 32, 448, 55, 2, 56, 449, 450, 159, 451, 452, 158, 160, 161, 162, 163, 164, 165, 27, 166, 62, 63, 167, 168, 169, 170, 171, 172, 173, 174, 175, 176, 177, 178, 179, 180, 181, 182, 183, 184, 185, 186, 187, 188, 189, 190, 191, 192, 193, 194, 195, 196, 151, 152, 197, 198, 199, 200, 201, 453, 454, 455, 456, 457, 458, 459, 460, 461, 462, 463, 464, 465, 466, 467, 468, 469, 470, 471, 472, 473, 474, 475, 476, 477, 350, 351, 125, 478, 331, 332, 23, 333, 43, 320, 321, 322, 323, 324, 325, 326, 327, 328, 45, 329, 122, 123, 124, 330, 334, 335, 336, 337, 64, 65, 70, 52, 53, 54, 479, 480, 481, 482, 153, 154, 155, 156, 157, 483, 484, 485, 486, 38, 487, 488, 207, 208, 209, 210, 211, 212, 683, 684, 685, 692, 693, 694, 695, 696, 697, 698, 699, 700, 701, 702, 703, 708, 709, 710, 711, 712, 713, 704, 705, 706, 707] (by decide +kernel) (by decide +kernel)
set_option maxRecDepth 20000 in
theorem gL_law_X5_step : GoodIn wsL_law (wsV RL 70 RX5 yX5_step wsX5_step) := goodIn_app (goodIn_of _ (by decide +kernel)) ggL_law_X5_step
set_option maxRecDepth 20000 in
theorem ggL_law_X6_step : GoodIn wsL_law wsX6_step := goodIn_r _ [492, 84, 493, 494, 495, 5, 496, 86, 233, 234, 235, 236, 237, 238, 239, 240, 112, 113, 114, 241, 242, 243, 244, 221, 222, 223, 224, 134, 135, 136, 137, 245, 246, 247, 248, 249, 250, 251, 252, 253, 254, 255, 256, 257, 258, 259, 260, 261, 262, 263, 264, 265, 266, 267, 268, 269, 270, 271, 272, 273, 274, 275, 276, 277, 278, 279, 280, 281, 282, 283, 284, 285, 286, 287, 288, 289, 290, 291, 292, 293, 294, 295, 296, 297, 298, 299, 300, 301, 302, 303, 304, 497, 498, 499, 500, 501, 502, 503, 504, 229, 230, 231, 232, 225, 226, 227, 228, 686, 687, 688, 689, 690, 691] (by decide +kernel) (by decide +kernel)
set_option maxRecDepth 20000 in
theorem gL_law_X6_step : GoodIn wsL_law (wsV RL 73 RX6 yX6_step wsX6_step) := goodIn_app (goodIn_of _ (by decide +kernel)) ggL_law_X6_step
set_option maxRecDepth 20000 in
theorem ggL_law_X5_run : GoodIn wsL_law wsX5_run := goodIn_r _ [508, 15, 119, 509, 510, 2, 511, 512, 513, 514, 14, 515, 37, 197, 198, 516, 517, 518, 519, 36, 24, 150, 520, 521, 522, 523, 524, 34, 444, 445, 446, 447, 28, 32, 448, 55, 56, 449, 450, 159, 451, 452, 158, 160, 161, 162, 163, 164, 165, 27, 166, 62, 63, 167, 168, 169, 170, 171, 172, 173, 174, 175, 176, 177, 178, 179, 180, 181, 182, 183, 184, 185, 186, 187, 188, 189, 190, 191, 192, 193, 194, 195, 196, 151, 152, 199, 200, 201, 453, 454, 455, 456, 457, 458, 459, 460, 461, 462, 463, 464, 465, 466, 467, 468, 469, 470, 471, 472, 473, 474, 475, 476, 477, 350, 351, 125, 478, 331, 332, 23, 333, 43, 320, 321, 322, 323, 324, 325, 326, 327, 328, 45, 329, 122, 123, 124, 330, 334, 335, 336, 337, 64, 65, 70, 52, 53, 54, 479, 480, 481, 482, 153, 154, 155, 156, 157, 483, 484, 485, 486, 38, 487, 488, 207, 208, 209, 210, 211, 212, 683, 684, 685, 692, 693, 694, 695, 696, 697, 698, 699, 700, 701, 702, 703, 708, 709, 710, 711, 712, 713, 704, 705, 706, 707] (by decide +kernel) (by decide +kernel)
set_option maxRecDepth 20000 in
theorem gL_law_X5_run : GoodIn wsL_law (wsV RL 74 RX5 yX5_run wsX5_run) := goodIn_app (goodIn_of _ (by decide +kernel)) ggL_law_X5_run
set_option maxRecDepth 20000 in
theorem ggL_law_X6_run : GoodIn wsL_law wsX6_run := goodIn_r _ [528, 84, 112, 113, 5, 114, 529, 530, 531, 532, 533, 493, 494, 495, 496, 86, 233, 234, 235, 236, 237, 238, 239, 240, 241, 242, 243, 244, 221, 222, 223, 224, 134, 135, 136, 137, 245, 246, 247, 248, 249, 250, 251, 252, 253, 254, 255, 256, 257, 258, 259, 260, 261, 262, 263, 264, 265, 266, 267, 268, 269, 270, 271, 272, 273, 274, 275, 276, 277, 278, 279, 280, 281, 282, 283, 284, 285, 286, 287, 288, 289, 290, 291, 292, 293, 294, 295, 296, 297, 298, 299, 300, 301, 302, 303, 304, 497, 498, 499, 500, 501, 502, 503, 504, 229, 230, 231, 232, 225, 226, 227, 228, 534, 535, 536, 537, 538, 539, 540, 541, 686, 687, 688, 689, 690, 691] (by decide +kernel) (by decide +kernel)
set_option maxRecDepth 20000 in
theorem gL_law_X6_run : GoodIn wsL_law (wsV RL 77 RX6 yX6_run wsX6_run) := goodIn_app (goodIn_of _ (by decide +kernel)) ggL_law_X6_run
