set_option maxRecDepth 100000 in
theorem ggL_law_X6_init : GoodIn wsL_law wsX6_init := goodIn_r _ [8, 9, 10, 11, 12, 13, 14, 15, 16, 17, 18, 19, 20, 21, 22, 23, 24, 25, 26, 27, 28, 29, 30, 31, 32, 33, 34, 35, 36, 37, 38, 39, 40, 41, 42, 43, 44, 45, 46, 47, 48, 49, 50, 51, 52, 53, 54, 55, 56, 57, 58, 59, 60, 61, 62, 63, 64, 65, 66, 67, 68, 69, 70, 71, 72, 73, 74, 704, 705, 706, 707, 666, 667, 668, 669, 670, 671, 672, 673, 708, 709, 710, 711, 712, 713, 714, 715, 716, 717, 718, 719, 720, 721, 722, 723, 724, 725, 726, 727, 728, 729, 730, 731, 732] rfl (by decide +kernel)
set_option maxRecDepth 100000 in
theorem gL_law_X6_init : GoodIn wsL_law (wsX6_init) := ggL_law_X6_init
set_option maxRecDepth 100000 in
theorem ggL_law_X7_init : GoodIn wsL_law wsX7_init := goodIn_r _ [77, 78, 10, 11, 16, 79, 80, 81, 82, 83, 84, 85, 86, 87, 88, 89, 674, 675, 676, 677, 678, 679, 680, 681, 682, 683, 684, 685, 686, 687, 688, 689, 690, 691, 692, 693, 694, 695, 696, 697, 698, 699, 700, 701, 702, 703] rfl (by decide +kernel)
set_option maxRecDepth 100000 in
theorem gL_law_X7_init : GoodIn wsL_law (wsX7_init) := ggL_law_X7_init
set_option maxRecDepth 100000 in
theorem ggL_law_X6_order : GoodIn wsL_law wsX6_order := goodIn_r _ [93, 15, 94, 31, 95, 96, 14, 97, 98, 2, 99, 100, 101, 102, 103, 104, 105, 106, 35, 36, 37, 666, 667, 668, 669, 670, 671, 672, 673, 704, 705, 706, 707] rfl (by decide +kernel)
set_option maxRecDepth 100000 in
theorem gL_law_X6_order : GoodIn wsL_law (wsV RL 13 RX6 yX6_order wsX6_order) := goodIn_app (goodIn_of _ (by decide +kernel)) ggL_law_X6_order
set_option maxRecDepth 100000 in
theorem ggL_law_X7_order : GoodIn wsL_law wsX7_order := goodIn_r _ [110, 111, 112, 113, 5, 114, 115, 116, 117, 118, 119, 120, 121, 122, 123, 124, 125, 126, 127, 128, 129, 130, 79, 80, 81, 674, 675, 676, 677, 678, 679, 680, 681, 682, 683, 684, 685, 686, 687, 688, 689, 690, 691, 692, 693, 694, 695, 696, 697, 698, 699, 700, 701, 702, 703] rfl (by decide +kernel)
set_option maxRecDepth 100000 in
theorem gL_law_X7_order : GoodIn wsL_law (wsV RL 17 RX7 yX7_order wsX7_order) := goodIn_app (goodIn_of _ (by decide +kernel)) ggL_law_X7_order
set_option maxRecDepth 100000 in
theorem ggL_law_X6_change : GoodIn wsL_law wsX6_change := goodIn_r _ [134, 15, 31, 135, 136, 137, 14, 138, 139, 95, 96, 97, 98, 2, 99, 100, 101, 102, 103, 104, 105, 106, 35, 36, 37, 666, 667, 668, 669, 670, 671, 672, 673, 704, 705, 706, 707] rfl (by decide +kernel)
set_option maxRecDepth 100000 in
theorem gL_law_X6_change : GoodIn wsL_law (wsV RL 18 RX6 yX6_change wsX6_change) := goodIn_app (goodIn_of _ (by decide +kernel)) ggL_law_X6_change
set_option maxRecDepth 100000 in
theorem ggL_law_X7_change : GoodIn wsL_law wsX7_change := goodIn_r _ [143, 111, 115, 116, 5, 117, 112, 113, 114, 118, 119, 120, 121, 122, 123, 124, 125, 126, 127, 128, 129, 130, 79, 80, 81, 674, 675, 676, 677, 678, 679, 680, 681, 682, 683, 684, 685, 686, 687, 688, 689, 690, 691, 692, 693, 694, 695, 696, 697, 698, 699, 700, 701, 702, 703] rfl (by decide +kernel)
set_option maxRecDepth 100000 in
theorem gL_law_X7_change : GoodIn wsL_law (wsV RL 22 RX7 yX7_change wsX7_change) := goodIn_app (goodIn_of _ (by decide +kernel)) ggL_law_X7_change
set_option maxRecDepth 100000 in
theorem ggL_law_X6_clear : GoodIn wsL_law wsX6_clear := goodIn_r _ [147, 15, 94, 31, 666, 667, 668, 669, 670, 671, 672, 673, 704, 705, 706, 707] rfl (by decide +kernel)
set_option maxRecDepth 100000 in
theorem gL_law_X6_clear : GoodIn wsL_law (wsV RL 23 RX6 yX6_clear wsX6_clear) := goodIn_app (goodIn_of _ (by decide +kernel)) ggL_law_X6_clear
set_option maxRecDepth 100000 in
theorem ggL_law_X7_clear : GoodIn wsL_law wsX7_clear := goodIn_r _ [151, 111, 674, 675, 676, 677, 678, 679, 680, 681, 682, 683, 684, 685, 686, 687, 688, 689, 690, 691, 692, 693, 694, 695, 696, 697, 698, 699, 700, 701, 702, 703] rfl (by decide +kernel)
set_option maxRecDepth 100000 in
theorem gL_law_X7_clear : GoodIn wsL_law (wsV RL 27 RX7 yX7_clear wsX7_clear) := goodIn_app (goodIn_of _ (by decide +kernel)) ggL_law_X7_clear
set_option maxRecDepth 100000 in
theorem ggL_law_X6_cell : GoodIn wsL_law wsX6_cell := goodIn_r _ [155, 17, 31, 156, 98, 2, 99, 666, 667, 668, 669, 670, 671, 672, 673] rfl (by decide +kernel)
set_option maxRecDepth 100000 in
theorem gL_law_X6_cell : GoodIn wsL_law (wsV RL 28 RX6 yX6_cell wsX6_cell) := goodIn_app (goodIn_of _ (by decide +kernel)) ggL_law_X6_cell
set_option maxRecDepth 100000 in
theorem ggL_law_X7_cell : GoodIn wsL_law wsX7_cell := goodIn_r _ [160, 82, 121, 122, 5, 123, 115, 116, 117, 674, 675, 676, 677, 678, 679, 680, 681, 682, 683, 684, 685, 686, 687, 688, 689, 690, 691, 692, 693, 694, 695, 696, 697, 698, 699, 700, 701, 702, 703] rfl (by decide +kernel)
set_option maxRecDepth 100000 in
theorem gL_law_X7_cell : GoodIn wsL_law (wsV RL 32 RX7 yX7_cell wsX7_cell) := goodIn_app (goodIn_of _ (by decide +kernel)) ggL_law_X7_cell
set_option maxRecDepth 100000 in
theorem ggL_law_X6_check : GoodIn wsL_law wsX6_check := goodIn_r _ [164, 18, 156, 98, 2, 99, 666, 667, 668, 669, 670, 671, 672, 673] rfl (by decide +kernel)
set_option maxRecDepth 100000 in
theorem gL_law_X6_check : GoodIn wsL_law (wsV RL 33 RX6 yX6_check wsX6_check) := goodIn_app (goodIn_of _ (by decide +kernel)) ggL_law_X6_check
set_option maxRecDepth 100000 in
theorem ggL_law_X7_check : GoodIn wsL_law wsX7_check := goodIn_r _ [168, 83, 121, 122, 5, 123, 115, 116, 117, 674, 675, 676, 677, 678, 679, 680, 681, 682, 683, 684, 685, 686, 687, 688, 689, 690, 691, 692, 693, 694, 695, 696, 697, 698, 699, 700, 701, 702, 703] rfl (by decide +kernel)
set_option maxRecDepth 100000 in
theorem gL_law_X7_check : GoodIn wsL_law (wsV RL 36 RX7 yX7_check wsX7_check) := goodIn_app (goodIn_of _ (by decide +kernel)) ggL_law_X7_check
set_option maxRecDepth 100000 in
theorem ggL_law_X6_run : GoodIn wsL_law wsX6_run := goodIn_r _ [172, 173, 174, 175, 176, 2, 177, 31, 22, 17, 26, 178, 179, 180, 181, 21, 182, 50, 183, 184, 185, 186, 187, 188, 42, 43, 189, 44, 190, 45, 191, 46, 192, 193, 194, 195, 49, 196, 197, 198, 199, 200, 58, 57, 201, 136, 137, 14, 138, 139, 202, 203, 204, 205, 206, 207, 208, 209, 210, 211, 212, 213, 214, 215, 216, 217, 218, 55, 219, 220, 221, 222, 223, 224, 225, 226, 56, 98, 99, 227, 228, 229, 230, 231, 232, 233, 25, 234, 235, 723, 724, 725, 726, 727, 728, 729, 730, 731, 732, 666, 667, 668, 669, 670, 671, 672, 673, 708, 709, 710, 711, 712, 713, 704, 705, 706, 707, 714, 715, 716, 717, 718] rfl (by decide +kernel)
set_option maxRecDepth 100000 in
theorem gL_law_X6_run : GoodIn wsL_law (wsV RL 37 RX6 yX6_run wsX6_run) := goodIn_app (goodIn_of _ (by decide +kernel)) ggL_law_X6_run
set_option maxRecDepth 100000 in
theorem ggL_law_X7_run : GoodIn wsL_law wsX7_run := goodIn_r _ [239, 240, 241, 242, 243, 5, 244, 245, 246, 247, 248, 249, 87, 86, 250, 251, 252, 253, 85, 82, 254, 255, 256, 257, 258, 259, 260, 111, 261, 262, 263, 264, 79, 80, 81, 265, 266, 267, 268, 115, 116, 117, 269, 270, 271, 272, 273, 274, 124, 125, 126, 275, 276, 277, 278, 279, 280, 281, 282, 674, 675, 676, 677, 678, 679, 680, 681, 682, 683, 684, 685, 686, 687, 688, 689, 690, 691, 692, 693, 694, 695, 696, 697, 698, 699, 700, 701, 702, 703] rfl (by decide +kernel)
set_option maxRecDepth 100000 in
theorem gL_law_X7_run : GoodIn wsL_law (wsV RL 40 RX7 yX7_run wsX7_run) := goodIn_app (goodIn_of _ (by decide +kernel)) ggL_law_X7_run
set_option maxRecDepth 100000 in
theorem ggL_law_X6_ticks : GoodIn wsL_law wsX6_ticks := goodIn_r _ [286, 287, 174, 175, 176, 2, 177, 31, 22, 17, 26, 178, 179, 180, 181, 21, 182, 50, 183, 184, 185, 186, 187, 188, 42, 43, 189, 44, 190, 45, 191, 46, 192, 193, 194, 195, 49, 196, 197, 198, 199, 200, 58, 57, 201, 136, 137, 14, 138, 139, 202, 203, 204, 205, 206, 207, 208, 209, 210, 211, 212, 213, 214, 215, 216, 217, 218, 55, 219, 220, 221, 222, 223, 224, 225, 226, 56, 98, 99, 227, 228, 229, 230, 231, 232, 233, 25, 234, 235, 723, 724, 725, 726, 727, 728, 729, 730, 731, 732, 666, 667, 668, 669, 670, 671, 672, 673, 708, 709, 710, 711, 712, 713, 704, 705, 706, 707, 714, 715, 716, 717, 718] rfl (by decide +kernel)
set_option maxRecDepth 100000 in
theorem gL_law_X6_ticks : GoodIn wsL_law (wsV RL 41 RX6 yX6_ticks wsX6_ticks) := goodIn_app (goodIn_of _ (by decide +kernel)) ggL_law_X6_ticks
set_option maxRecDepth 100000 in
theorem ggL_law_X7_ticks : GoodIn wsL_law wsX7_ticks := goodIn_r _ [291, 247, 241, 242, 243, 5, 244, 245, 240, 246, 248, 249, 87, 86, 250, 251, 252, 253, 85, 82, 254, 255, 256, 257, 258, 259, 260, 111, 261, 262, 263, 264, 79, 80, 81, 265, 266, 267, 268, 115, 116, 117, 269, 270, 271, 272, 273, 274, 124, 125, 126, 275, 276, 277, 278, 279, 280, 281, 282, 674, 675, 676, 677, 678, 679, 680, 681, 682, 683, 684, 685, 686, 687, 688, 689, 690, 691, 692, 693, 694, 695, 696, 697, 698, 699, 700, 701, 702, 703] rfl (by decide +kernel)
set_option maxRecDepth 100000 in
theorem gL_law_X7_ticks : GoodIn wsL_law (wsV RL 44 RX7 yX7_ticks wsX7_ticks) := goodIn_app (goodIn_of _ (by decide +kernel)) ggL_law_X7_ticks
set_option maxRecDepth 100000 in
theorem ggL_law_X6_many : GoodIn wsL_law wsX6_many := goodIn_r _ [295, 296, 174, 175, 176, 2, 177, 31, 22, 17, 26, 178, 179, 180, 181, 21, 182, 50, 183, 184, 185, 186, 187, 188, 42, 43, 189, 44, 190, 45, 191, 46, 192, 193, 194, 195, 49, 196, 197, 198, 199, 200, 58, 57, 201, 136, 137, 14, 138, 139, 202, 203, 204, 205, 206, 207, 208, 209, 210, 211, 212, 213, 214, 215, 216, 217, 218, 55, 219, 220, 221, 222, 223, 224, 225, 226, 56, 98, 99, 227, 228, 229, 230, 231, 232, 233, 25, 234, 235, 723, 724, 725, 726, 727, 728, 729, 730, 731, 732, 666, 667, 668, 669, 670, 671, 672, 673, 708, 709, 710, 711, 712, 713, 704, 705, 706, 707, 714, 715, 716, 717, 718] rfl (by decide +kernel)
set_option maxRecDepth 100000 in
theorem gL_law_X6_many : GoodIn wsL_law (wsV RL 45 RX6 yX6_many wsX6_many) := goodIn_app (goodIn_of _ (by decide +kernel)) ggL_law_X6_many
set_option maxRecDepth 100000 in
theorem ggL_law_X7_many : GoodIn wsL_law wsX7_many := goodIn_r _ [300, 249, 241, 242, 243, 5, 244, 245, 240, 246, 247, 248, 87, 86, 250, 251, 252, 253, 85, 82, 254, 255, 256, 257, 258, 259, 260, 111, 261, 262, 263, 264, 79, 80, 81, 265, 266, 267, 268, 115, 116, 117, 269, 270, 271, 272, 273, 274, 124, 125, 126, 275, 276, 277, 278, 279, 280, 281, 282, 674, 675, 676, 677, 678, 679, 680, 681, 682, 683, 684, 685, 686, 687, 688, 689, 690, 691, 692, 693, 694, 695, 696, 697, 698, 699, 700, 701, 702, 703] rfl (by decide +kernel)
set_option maxRecDepth 100000 in
theorem gL_law_X7_many : GoodIn wsL_law (wsV RL 48 RX7 yX7_many wsX7_many) := goodIn_app (goodIn_of _ (by decide +kernel)) ggL_law_X7_many
set_option maxRecDepth 100000 in
theorem ggL_law_X6_told : GoodIn wsL_law wsX6_told := goodIn_r _ [304, 296, 305, 174, 175, 176, 2, 177, 31, 22, 17, 26, 178, 179, 180, 181, 21, 182, 50, 183, 184, 185, 186, 187, 188, 42, 43, 189, 44, 190, 45, 191, 46, 192, 193, 194, 195, 49, 196, 197, 198, 199, 200, 58, 57, 201, 136, 137, 14, 138, 139, 202, 203, 204, 205, 206, 207, 208, 209, 210, 211, 212, 213, 214, 215, 216, 217, 218, 55, 219, 220, 221, 222, 223, 224, 225, 226, 56, 98, 99, 227, 228, 229, 230, 231, 232, 233, 25, 234, 235, 723, 724, 725, 726, 727, 728, 729, 730, 731, 732, 666, 667, 668, 669, 670, 671, 672, 673, 708, 709, 710, 711, 712, 713, 704, 705, 706, 707, 714, 715, 716, 717, 718] rfl (by decide +kernel)
set_option maxRecDepth 100000 in
theorem gL_law_X6_told : GoodIn wsL_law (wsV RL 49 RX6 yX6_told wsX6_told) := goodIn_app (goodIn_of _ (by decide +kernel)) ggL_law_X6_told
set_option maxRecDepth 100000 in
theorem ggL_law_X7_told : GoodIn wsL_law wsX7_told := goodIn_r _ [309, 249, 87, 241, 242, 243, 5, 244, 245, 240, 246, 247, 248, 86, 250, 251, 252, 253, 85, 82, 254, 255, 256, 257, 258, 259, 260, 111, 261, 262, 263, 264, 79, 80, 81, 265, 266, 267, 268, 115, 116, 117, 269, 270, 271, 272, 273, 274, 124, 125, 126, 275, 276, 277, 278, 279, 280, 281, 282, 674, 675, 676, 677, 678, 679, 680, 681, 682, 683, 684, 685, 686, 687, 688, 689, 690, 691, 692, 693, 694, 695, 696, 697, 698, 699, 700, 701, 702, 703] rfl (by decide +kernel)
set_option maxRecDepth 100000 in
theorem gL_law_X7_told : GoodIn wsL_law (wsV RL 53 RX7 yX7_told wsX7_told) := goodIn_app (goodIn_of _ (by decide +kernel)) ggL_law_X7_told
set_option maxRecDepth 100000 in
theorem ggL_law_X6_after : GoodIn wsL_law wsX6_after := goodIn_r _ [313, 314, 156, 98, 2, 99, 174, 175, 176, 177, 31, 22, 17, 26, 178, 179, 180, 181, 21, 182, 50, 183, 184, 185, 186, 187, 188, 42, 43, 189, 44, 190, 45, 191, 46, 192, 193, 194, 195, 49, 196, 197, 198, 199, 200, 58, 57, 201, 136, 137, 14, 138, 139, 202, 203, 204, 205, 206, 207, 208, 209, 210, 211, 212, 213, 214, 215, 216, 217, 218, 55, 219, 220, 221, 222, 223, 224, 225, 226, 56, 227, 228, 229, 230, 231, 232, 233, 25, 234, 235, 723, 724, 725, 726, 727, 728, 729, 730, 731, 732, 666, 667, 668, 669, 670, 671, 672, 673, 708, 709, 710, 711, 712, 713, 704, 705, 706, 707, 714, 715, 716, 717, 718] rfl (by decide +kernel)
set_option maxRecDepth 100000 in
theorem gL_law_X6_after : GoodIn wsL_law (wsV RL 54 RX6 yX6_after wsX6_after) := goodIn_app (goodIn_of _ (by decide +kernel)) ggL_law_X6_after
set_option maxRecDepth 100000 in
theorem ggL_law_X7_after : GoodIn wsL_law wsX7_after := goodIn_r _ [318, 85, 121, 122, 5, 123, 115, 116, 117, 241, 242, 243, 244, 245, 240, 246, 247, 248, 249, 87, 86, 250, 251, 252, 253, 82, 254, 255, 256, 257, 258, 259, 260, 111, 261, 262, 263, 264, 79, 80, 81, 265, 266, 267, 268, 269, 270, 271, 272, 273, 274, 124, 125, 126, 275, 276, 277, 278, 279, 280, 281, 282, 674, 675, 676, 677, 678, 679, 680, 681, 682, 683, 684, 685, 686, 687, 688, 689, 690, 691, 692, 693, 694, 695, 696, 697, 698, 699, 700, 701, 702, 703] rfl (by decide +kernel)
set_option maxRecDepth 100000 in
theorem gL_law_X7_after : GoodIn wsL_law (wsV RL 57 RX7 yX7_after wsX7_after) := goodIn_app (goodIn_of _ (by decide +kernel)) ggL_law_X7_after
set_option maxRecDepth 100000 in
theorem ggL_law_X6_dead : GoodIn wsL_law wsX6_dead := goodIn_r _ [322, 22, 156, 98, 2, 99, 323, 324, 325, 326, 173, 287, 174, 175, 176, 177, 31, 17, 26, 178, 179, 180, 181, 21, 182, 50, 183, 184, 185, 186, 187, 188, 42, 43, 189, 44, 190, 45, 191, 46, 192, 193, 194, 195, 49, 196, 197, 198, 199, 200, 58, 57, 201, 136, 137, 14, 138, 139, 202, 203, 204, 205, 206, 207, 208, 209, 210, 211, 212, 213, 214, 215, 216, 217, 218, 55, 219, 220, 221, 222, 223, 224, 225, 226, 56, 227, 228, 229, 230, 231, 232, 233, 25, 234, 235, 327, 328, 329, 330, 331, 332, 333, 334, 335, 666, 667, 668, 669, 670, 671, 672, 673, 723, 724, 725, 726, 727, 728, 729, 730, 731, 732, 708, 709, 710, 711, 712, 713, 704, 705, 706, 707, 714, 715, 716, 717, 718] rfl (by decide +kernel)
set_option maxRecDepth 100000 in
theorem gL_law_X6_dead : GoodIn wsL_law (wsV RL 58 RX6 yX6_dead wsX6_dead) := goodIn_app (goodIn_of _ (by decide +kernel)) ggL_law_X6_dead
set_option maxRecDepth 100000 in
theorem ggL_law_X7_dead : GoodIn wsL_law wsX7_dead := goodIn_r _ [339, 240, 247, 273, 274, 260, 121, 122, 5, 123, 115, 116, 117, 241, 242, 243, 244, 245, 246, 248, 249, 87, 86, 250, 251, 252, 253, 85, 82, 254, 255, 256, 257, 258, 259, 111, 261, 262, 263, 264, 79, 80, 81, 265, 266, 267, 268, 269, 270, 271, 272, 124, 125, 126, 275, 276, 277, 278, 279, 280, 281, 282, 674, 675, 676, 677, 678, 679, 680, 681, 682, 683, 684, 685, 686, 687, 688, 689, 690, 691, 692, 693, 694, 695, 696, 697, 698, 699, 700, 701, 702, 703] rfl (by decide +kernel)
set_option maxRecDepth 100000 in
theorem gL_law_X7_dead : GoodIn wsL_law (wsV RL 61 RX7 yX7_dead wsX7_dead) := goodIn_app (goodIn_of _ (by decide +kernel)) ggL_law_X7_dead
set_option maxRecDepth 100000 in
theorem ggL_law_X6_flip : GoodIn wsL_law wsX6_flip := goodIn_r _ [343, 26, 18, 344, 345, 346, 2, 347, 156, 98, 99, 348, 349, 350, 323, 324, 325, 326, 173, 287, 174, 175, 176, 177, 31, 22, 17, 178, 179, 180, 181, 21, 182, 50, 183, 184, 185, 186, 187, 188, 42, 43, 189, 44, 190, 45, 191, 46, 192, 193, 194, 195, 49, 196, 197, 198, 199, 200, 58, 57, 201, 136, 137, 14, 138, 139, 202, 203, 204, 205, 206, 207, 208, 209, 210, 211, 212, 213, 214, 215, 216, 217, 218, 55, 219, 220, 221, 222, 223, 224, 225, 226, 56, 227, 228, 229, 230, 231, 232, 233, 25, 234, 235, 351, 352, 353, 354, 65, 355, 328, 329, 330, 331, 356, 333, 334, 335, 357, 358, 359, 360, 67, 361, 362, 363, 364, 365, 366, 367, 368, 369, 370, 371, 372, 373, 374, 375, 376, 377, 378, 379, 380, 381, 382, 383, 384, 385, 386, 387, 388, 389, 390, 391, 392, 393, 394, 395, 396, 397, 398, 399, 400, 401, 402, 403, 404, 405, 406, 407, 666, 667, 668, 669, 670, 671, 672, 673, 723, 724, 725, 726, 727, 728, 729, 730, 731, 732, 708, 709, 710, 711, 712, 713, 704, 705, 706, 707, 714, 715, 716, 717, 718] rfl (by decide +kernel)
set_option maxRecDepth 100000 in
theorem gL_law_X6_flip : GoodIn wsL_law (wsV RL 62 RX6 yX6_flip wsX6_flip) := goodIn_app (goodIn_of _ (by decide +kernel)) ggL_law_X6_flip
set_option maxRecDepth 100000 in
theorem ggL_law_X7_flip : GoodIn wsL_law wsX7_flip := goodIn_r _ [411, 83, 412, 413, 414, 5, 415, 240, 247, 121, 122, 123, 115, 116, 117, 241, 242, 243, 244, 245, 246, 248, 249, 87, 86, 250, 251, 252, 253, 85, 82, 254, 255, 256, 257, 258, 259, 260, 111, 261, 262, 263, 264, 79, 80, 81, 265, 266, 267, 268, 269, 270, 271, 272, 273, 274, 124, 125, 126, 275, 276, 277, 278, 279, 280, 281, 282, 416, 417, 418, 419, 420, 421, 422, 423, 674, 675, 676, 677, 678, 679, 680, 681, 682, 683, 684, 685, 686, 687, 688, 689, 690, 691, 692, 693, 694, 695, 696, 697, 698, 699, 700, 701, 702, 703] rfl (by decide +kernel)
set_option maxRecDepth 100000 in
theorem gL_law_X7_flip : GoodIn wsL_law (wsV RL 65 RX7 yX7_flip wsX7_flip) := goodIn_app (goodIn_of _ (by decide +kernel)) ggL_law_X7_flip
set_option maxRecDepth 100000 in
theorem ggL_law_X6_harm : GoodIn wsL_law wsX6_harm := goodIn_r _ [427, 26, 18, 344, 345, 346, 2, 347, 156, 98, 99, 348, 349, 350, 323, 324, 325, 326, 173, 287, 174, 175, 176, 177, 31, 22, 17, 178, 179, 180, 181, 21, 182, 50, 183, 184, 185, 186, 187, 188, 42, 43, 189, 44, 190, 45, 191, 46, 192, 193, 194, 195, 49, 196, 197, 198, 199, 200, 58, 57, 201, 136, 137, 14, 138, 139, 202, 203, 204, 205, 206, 207, 208, 209, 210, 211, 212, 213, 214, 215, 216, 217, 218, 55, 219, 220, 221, 222, 223, 224, 225, 226, 56, 227, 228, 229, 230, 231, 232, 233, 25, 234, 235, 351, 352, 353, 354, 65, 355, 328, 329, 330, 331, 356, 333, 334, 335, 357, 358, 359, 360, 67, 361, 362, 363, 364, 365, 366, 367, 368, 369, 370, 371, 372, 373, 374, 375, 376, 377, 378, 379, 380, 381, 382, 383, 384, 385, 386, 387, 388, 389, 390, 391, 392, 393, 394, 395, 396, 397, 398, 399, 400, 401, 428, 429, 430, 431, 403, 404, 405, 406, 407, 666, 667, 668, 669, 670, 671, 672, 673, 723, 724, 725, 726, 727, 728, 729, 730, 731, 732, 708, 709, 710, 711, 712, 713, 704, 705, 706, 707, 714, 715, 716, 717, 718] rfl (by decide +kernel)
set_option maxRecDepth 100000 in
theorem gL_law_X6_harm : GoodIn wsL_law (wsV RL 66 RX6 yX6_harm wsX6_harm) := goodIn_app (goodIn_of _ (by decide +kernel)) ggL_law_X6_harm
set_option maxRecDepth 100000 in
theorem ggL_law_X7_harm : GoodIn wsL_law wsX7_harm := goodIn_r _ [435, 83, 412, 413, 414, 5, 415, 240, 247, 121, 122, 123, 115, 116, 117, 241, 242, 243, 244, 245, 246, 248, 249, 87, 86, 250, 251, 252, 253, 85, 82, 254, 255, 256, 257, 258, 259, 260, 111, 261, 262, 263, 264, 79, 80, 81, 265, 266, 267, 268, 269, 270, 271, 272, 273, 274, 124, 125, 126, 275, 276, 277, 278, 279, 280, 281, 282, 416, 417, 418, 419, 420, 421, 422, 423, 674, 675, 676, 677, 678, 679, 680, 681, 682, 683, 684, 685, 686, 687, 688, 689, 690, 691, 692, 693, 694, 695, 696, 697, 698, 699, 700, 701, 702, 703] rfl (by decide +kernel)
set_option maxRecDepth 100000 in
theorem gL_law_X7_harm : GoodIn wsL_law (wsV RL 69 RX7 yX7_harm wsX7_harm) := goodIn_app (goodIn_of _ (by decide +kernel)) ggL_law_X7_harm
set_option maxRecDepth 100000 in
theorem ggL_law_X6_lasts : GoodIn wsL_law wsX6_lasts := goodIn_r _ [439, 26, 18, 22, 344, 345, 346, 2, 347, 156, 98, 99, 348, 349, 350, 323, 324, 325, 326, 173, 287, 174, 175, 176, 177, 31, 17, 178, 179, 180, 181, 21, 182, 50, 183, 184, 185, 186, 187, 188, 42, 43, 189, 44, 190, 45, 191, 46, 192, 193, 194, 195, 49, 196, 197, 198, 199, 200, 58, 57, 201, 136, 137, 14, 138, 139, 202, 203, 204, 205, 206, 207, 208, 209, 210, 211, 212, 213, 214, 215, 216, 217, 218, 55, 219, 220, 221, 222, 223, 224, 225, 226, 56, 227, 228, 229, 230, 231, 232, 233, 25, 234, 235, 351, 352, 353, 354, 65, 355, 328, 329, 330, 331, 356, 333, 334, 335, 357, 358, 359, 360, 67, 361, 362, 363, 364, 365, 366, 367, 368, 369, 370, 371, 372, 373, 374, 375, 376, 377, 378, 379, 380, 381, 382, 383, 384, 385, 386, 387, 388, 389, 390, 391, 392, 393, 394, 395, 396, 397, 398, 399, 400, 401, 440, 406, 407, 327, 441, 442, 443, 666, 667, 668, 669, 670, 671, 672, 673, 723, 724, 725, 726, 727, 728, 729, 730, 731, 732, 708, 709, 710, 711, 712, 713, 704, 705, 706, 707, 714, 715, 716, 717, 718] rfl (by decide +kernel)
set_option maxRecDepth 100000 in
theorem gL_law_X6_lasts : GoodIn wsL_law (wsV RL 70 RX6 yX6_lasts wsX6_lasts) := goodIn_app (goodIn_of _ (by decide +kernel)) ggL_law_X6_lasts
set_option maxRecDepth 100000 in
theorem ggL_law_X7_lasts : GoodIn wsL_law wsX7_lasts := goodIn_r _ [447, 83, 246, 412, 413, 414, 5, 415, 240, 247, 121, 122, 123, 115, 116, 117, 241, 242, 243, 244, 245, 248, 249, 87, 86, 250, 251, 252, 253, 85, 82, 254, 255, 256, 257, 258, 259, 260, 111, 261, 262, 263, 264, 79, 80, 81, 265, 266, 267, 268, 269, 270, 271, 272, 273, 274, 124, 125, 126, 275, 276, 277, 278, 279, 280, 281, 282, 416, 417, 418, 419, 420, 421, 422, 423, 674, 675, 676, 677, 678, 679, 680, 681, 682, 683, 684, 685, 686, 687, 688, 689, 690, 691, 692, 693, 694, 695, 696, 697, 698, 699, 700, 701, 702, 703] rfl (by decide +kernel)
set_option maxRecDepth 100000 in
theorem gL_law_X7_lasts : GoodIn wsL_law (wsV RL 73 RX7 yX7_lasts wsX7_lasts) := goodIn_app (goodIn_of _ (by decide +kernel)) ggL_law_X7_lasts
set_option maxRecDepth 100000 in
theorem ggL_law_X6_count : GoodIn wsL_law wsX6_count := goodIn_r _ [451, 452, 26, 18, 156, 98, 2, 99, 348, 349, 350, 453, 454, 455, 456, 173, 174, 175, 176, 177, 31, 22, 17, 178, 179, 180, 181, 21, 182, 50, 183, 184, 185, 186, 187, 188, 42, 43, 189, 44, 190, 45, 191, 46, 192, 193, 194, 195, 49, 196, 197, 198, 199, 200, 58, 57, 201, 136, 137, 14, 138, 139, 202, 203, 204, 205, 206, 207, 208, 209, 210, 211, 212, 213, 214, 215, 216, 217, 218, 55, 219, 220, 221, 222, 223, 224, 225, 226, 56, 227, 228, 229, 230, 231, 232, 233, 25, 234, 235, 457, 458, 459, 460, 65, 384, 363, 63, 461, 462, 463, 398, 399, 400, 401, 376, 377, 378, 379, 464, 465, 466, 467, 356, 333, 334, 335, 331, 357, 358, 359, 360, 67, 361, 362, 364, 365, 366, 367, 368, 369, 370, 371, 372, 373, 374, 375, 380, 381, 382, 383, 385, 386, 387, 388, 389, 390, 391, 392, 393, 394, 395, 396, 397, 468, 469, 470, 471, 472, 473, 474, 475, 476, 477, 478, 403, 404, 405, 406, 407, 666, 667, 668, 669, 670, 671, 672, 673, 723, 724, 725, 726, 727, 728, 729, 730, 731, 732, 708, 709, 710, 711, 712, 713, 704, 705, 706, 707, 714, 715, 716, 717, 718] rfl (by decide +kernel)
set_option maxRecDepth 100000 in
theorem gL_law_X6_count : GoodIn wsL_law (wsV RL 74 RX6 yX6_count wsX6_count) := goodIn_app (goodIn_of _ (by decide +kernel)) ggL_law_X6_count
set_option maxRecDepth 100000 in
theorem ggL_law_X7_count : GoodIn wsL_law wsX7_count := goodIn_r _ [482, 83, 115, 116, 5, 117, 483, 484, 485, 486, 240, 487, 241, 242, 243, 244, 245, 246, 247, 248, 249, 87, 86, 250, 251, 252, 253, 85, 82, 254, 255, 256, 257, 258, 259, 260, 111, 261, 262, 263, 264, 79, 80, 81, 265, 266, 267, 268, 269, 270, 271, 272, 273, 274, 124, 125, 126, 275, 276, 277, 278, 279, 280, 281, 282, 488, 489, 490, 491, 416, 417, 418, 419, 420, 421, 422, 423, 674, 675, 676, 677, 678, 679, 680, 681, 682, 683, 684, 685, 686, 687, 688, 689, 690, 691, 692, 693, 694, 695, 696, 697, 698, 699, 700, 701, 702, 703] rfl (by decide +kernel)
set_option maxRecDepth 100000 in
theorem gL_law_X7_count : GoodIn wsL_law (wsV RL 77 RX7 yX7_count wsX7_count) := goodIn_app (goodIn_of _ (by decide +kernel)) ggL_law_X7_count
set_option maxRecDepth 100000 in
theorem ggL_law_X6_all : GoodIn wsL_law wsX6_all := goodIn_r _ [495, 452, 26, 18, 348, 349, 2, 350, 453, 454, 455, 456, 173, 174, 175, 176, 177, 31, 22, 17, 178, 179, 180, 181, 21, 182, 50, 183, 184, 185, 186, 187, 188, 42, 43, 189, 44, 190, 45, 191, 46, 192, 193, 194, 195, 49, 196, 197, 198, 199, 200, 58, 57, 201, 136, 137, 14, 138, 139, 202, 203, 204, 205, 206, 207, 208, 209, 210, 211, 212, 213, 214, 215, 216, 217, 218, 55, 219, 220, 221, 222, 223, 224, 225, 226, 56, 98, 99, 227, 228, 229, 230, 231, 232, 233, 25, 234, 235, 457, 458, 459, 460, 65, 384, 363, 63, 461, 462, 463, 398, 399, 400, 401, 376, 377, 378, 379, 464, 465, 466, 467, 356, 333, 334, 335, 331, 357, 358, 359, 360, 67, 361, 362, 364, 365, 366, 367, 368, 369, 370, 371, 372, 373, 374, 375, 380, 381, 382, 383, 385, 386, 387, 388, 389, 390, 391, 392, 393, 394, 395, 396, 397, 468, 469, 470, 471, 473, 496, 497, 498, 499, 500, 429, 430, 431, 403, 404, 405, 406, 407, 666, 667, 668, 669, 670, 671, 672, 673, 723, 724, 725, 726, 727, 728, 729, 730, 731, 732, 708, 709, 710, 711, 712, 713, 704, 705, 706, 707, 714, 715, 716, 717, 718] rfl (by decide +kernel)
set_option maxRecDepth 100000 in
theorem gL_law_X6_all : GoodIn wsL_law (wsV RL 78 RX6 yX6_all wsX6_all) := goodIn_app (goodIn_of _ (by decide +kernel)) ggL_law_X6_all
set_option maxRecDepth 100000 in
theorem ggL_law_X7_all : GoodIn wsL_law wsX7_all := goodIn_r _ [504, 88, 483, 484, 485, 5, 486, 240, 487, 115, 116, 117, 241, 242, 243, 244, 245, 246, 247, 248, 249, 87, 86, 250, 251, 252, 253, 85, 82, 254, 255, 256, 257, 258, 259, 260, 111, 261, 262, 263, 264, 79, 80, 81, 265, 266, 267, 268, 269, 270, 271, 272, 273, 274, 124, 125, 126, 275, 276, 277, 278, 279, 280, 281, 282, 505, 506, 507, 508, 83, 416, 417, 418, 419, 420, 421, 422, 423, 674, 675, 676, 677, 678, 679, 680, 681, 682, 683, 684, 685, 686, 687, 688, 689, 690, 691, 692, 693, 694, 695, 696, 697, 698, 699, 700, 701, 702, 703] rfl (by decide +kernel)
set_option maxRecDepth 100000 in
theorem gL_law_X7_all : GoodIn wsL_law (wsV RL 81 RX7 yX7_all wsX7_all) := goodIn_app (goodIn_of _ (by decide +kernel)) ggL_law_X7_all
set_option maxRecDepth 100000 in
theorem ggL_law_X6_worst : GoodIn wsL_law wsX6_worst := goodIn_r _ [512, 452, 26, 18, 348, 349, 2, 350, 453, 454, 455, 456, 173, 174, 175, 176, 177, 31, 22, 17, 178, 179, 180, 181, 21, 182, 50, 183, 184, 185, 186, 187, 188, 42, 43, 189, 44, 190, 45, 191, 46, 192, 193, 194, 195, 49, 196, 197, 198, 199, 200, 58, 57, 201, 136, 137, 14, 138, 139, 202, 203, 204, 205, 206, 207, 208, 209, 210, 211, 212, 213, 214, 215, 216, 217, 218, 55, 219, 220, 221, 222, 223, 224, 225, 226, 56, 98, 99, 227, 228, 229, 230, 231, 232, 233, 25, 234, 235, 457, 458, 459, 460, 65, 384, 363, 63, 461, 462, 463, 398, 399, 400, 401, 376, 377, 378, 379, 464, 465, 466, 467, 356, 333, 334, 335, 331, 357, 358, 359, 360, 67, 361, 362, 364, 365, 366, 367, 368, 369, 370, 371, 372, 373, 374, 375, 380, 381, 382, 383, 385, 386, 387, 388, 389, 390, 391, 392, 393, 394, 395, 396, 397, 513, 514, 515, 516, 64, 517, 518, 519, 520, 521, 469, 470, 471, 522, 497, 498, 499, 500, 429, 430, 431, 403, 404, 405, 406, 407, 523, 524, 525, 526, 666, 667, 668, 669, 670, 671, 672, 673, 723, 724, 725, 726, 727, 728, 729, 730, 731, 732, 708, 709, 710, 711, 712, 713, 704, 705, 706, 707, 714, 715, 716, 717, 718] rfl (by decide +kernel)
set_option maxRecDepth 100000 in
theorem gL_law_X6_worst : GoodIn wsL_law (wsV RL 82 RX6 yX6_worst wsX6_worst) := goodIn_app (goodIn_of _ (by decide +kernel)) ggL_law_X6_worst
set_option maxRecDepth 100000 in
theorem ggL_law_X7_worst : GoodIn wsL_law wsX7_worst := goodIn_r _ [530, 88, 483, 484, 485, 5, 486, 240, 487, 115, 116, 117, 241, 242, 243, 244, 245, 246, 247, 248, 249, 87, 86, 250, 251, 252, 253, 85, 82, 254, 255, 256, 257, 258, 259, 260, 111, 261, 262, 263, 264, 79, 80, 81, 265, 266, 267, 268, 269, 270, 271, 272, 273, 274, 124, 125, 126, 275, 276, 277, 278, 279, 280, 281, 282, 505, 506, 507, 508, 83, 416, 417, 418, 419, 420, 421, 422, 423, 674, 675, 676, 677, 678, 679, 680, 681, 682, 683, 684, 685, 686, 687, 688, 689, 690, 691, 692, 693, 694, 695, 696, 697, 698, 699, 700, 701, 702, 703] rfl (by decide +kernel)
set_option maxRecDepth 100000 in
theorem gL_law_X7_worst : GoodIn wsL_law (wsV RL 85 RX7 yX7_worst wsX7_worst) := goodIn_app (goodIn_of _ (by decide +kernel)) ggL_law_X7_worst
set_option maxRecDepth 100000 in
theorem ggL_law_X6_costs : GoodIn wsL_law wsX6_costs := goodIn_r _ [534, 18, 535, 536, 2, 537, 538, 666, 667, 668, 669, 670, 671, 672, 673] rfl (by decide +kernel)
set_option maxRecDepth 100000 in
theorem gL_law_X6_costs : GoodIn wsL_law (wsV RL 86 RX6 yX6_costs wsX6_costs) := goodIn_app (goodIn_of _ (by decide +kernel)) ggL_law_X6_costs
set_option maxRecDepth 100000 in
theorem ggL_law_X7_costs : GoodIn wsL_law wsX7_costs := goodIn_r _ [542, 83, 543, 544, 5, 545, 674, 675, 676, 677, 678, 679, 680, 681, 682, 683, 684, 685, 686, 687, 688, 689, 690, 691, 692, 693, 694, 695, 696, 697, 698, 699, 700, 701, 702, 703] rfl (by decide +kernel)
set_option maxRecDepth 100000 in
theorem gL_law_X7_costs : GoodIn wsL_law (wsV RL 89 RX7 yX7_costs wsX7_costs) := goodIn_app (goodIn_of _ (by decide +kernel)) ggL_law_X7_costs
set_option maxRecDepth 100000 in
theorem ggL_law_X6_best : GoodIn wsL_law wsX6_best := goodIn_r _ [549, 452, 26, 30, 348, 349, 2, 350, 453, 454, 455, 456, 173, 174, 175, 176, 177, 31, 22, 17, 178, 179, 180, 181, 21, 182, 50, 183, 184, 185, 186, 187, 188, 42, 43, 189, 44, 190, 45, 191, 46, 192, 193, 194, 195, 49, 196, 197, 198, 199, 200, 58, 57, 201, 136, 137, 14, 138, 139, 202, 203, 204, 205, 206, 207, 208, 209, 210, 211, 212, 213, 214, 215, 216, 217, 218, 55, 219, 220, 221, 222, 223, 224, 225, 226, 56, 98, 99, 227, 228, 229, 230, 231, 232, 233, 25, 234, 235, 457, 458, 459, 460, 65, 384, 363, 63, 461, 462, 463, 398, 399, 400, 401, 376, 377, 378, 379, 464, 465, 466, 467, 356, 333, 334, 335, 331, 357, 358, 359, 360, 67, 361, 362, 364, 365, 366, 367, 368, 369, 370, 371, 372, 373, 374, 375, 380, 381, 382, 383, 385, 386, 387, 388, 389, 390, 391, 392, 393, 394, 395, 396, 397, 550, 551, 552, 29, 553, 74, 554, 555, 556, 557, 558, 73, 559, 469, 470, 471, 560, 561, 562, 563, 564, 565, 566, 567, 568, 478, 403, 404, 405, 406, 407, 569, 570, 571, 572, 573, 574, 575, 576, 577, 578, 579, 580, 581, 582, 583, 584, 585, 586, 72, 587, 588, 589, 590, 666, 667, 668, 669, 670, 671, 672, 673, 723, 724, 725, 726, 727, 728, 729, 730, 731, 732, 708, 709, 710, 711, 712, 713, 704, 705, 706, 707, 714, 715, 716, 717, 718, 719, 720, 721, 722] rfl (by decide +kernel)
set_option maxRecDepth 100000 in
theorem gL_law_X6_best : GoodIn wsL_law (wsV RL 90 RX6 yX6_best wsX6_best) := goodIn_app (goodIn_of _ (by decide +kernel)) ggL_law_X6_best
set_option maxRecDepth 100000 in
theorem ggL_law_X7_best : GoodIn wsL_law wsX7_best := goodIn_r _ [594, 89, 595, 84, 596, 115, 116, 5, 117, 483, 484, 485, 486, 240, 487, 241, 242, 243, 244, 245, 246, 247, 248, 249, 87, 86, 250, 251, 252, 253, 85, 82, 254, 255, 256, 257, 258, 259, 260, 111, 261, 262, 263, 264, 79, 80, 81, 265, 266, 267, 268, 269, 270, 271, 272, 273, 274, 124, 125, 126, 275, 276, 277, 278, 279, 280, 281, 282, 488, 489, 490, 491, 416, 417, 418, 419, 420, 421, 422, 423, 543, 544, 545, 674, 675, 676, 677, 678, 679, 680, 681, 682, 683, 684, 685, 686, 687, 688, 689, 690, 691, 692, 693, 694, 695, 696, 697, 698, 699, 700, 701, 702, 703] rfl (by decide +kernel)
set_option maxRecDepth 100000 in
theorem gL_law_X7_best : GoodIn wsL_law (wsV RL 93 RX7 yX7_best wsX7_best) := goodIn_app (goodIn_of _ (by decide +kernel)) ggL_law_X7_best
set_option maxRecDepth 100000 in
theorem ggL_law_X6_chosen : GoodIn wsL_law wsX6_chosen := goodIn_r _ [600, 156, 98, 2, 99, 601, 602, 603, 604, 30, 605, 606, 666, 667, 668, 669, 670, 671, 672, 673, 719, 720, 721, 722] rfl (by decide +kernel)
set_option maxRecDepth 100000 in
theorem gL_law_X6_chosen : GoodIn wsL_law (wsV RL 94 RX6 yX6_chosen wsX6_chosen) := goodIn_app (goodIn_of _ (by decide +kernel)) ggL_law_X6_chosen
set_option maxRecDepth 100000 in
theorem ggL_law_X7_chosen : GoodIn wsL_law wsX7_chosen := goodIn_r _ [610, 596, 84, 121, 122, 5, 123, 115, 116, 117, 674, 675, 676, 677, 678, 679, 680, 681, 682, 683, 684, 685, 686, 687, 688, 689, 690, 691, 692, 693, 694, 695, 696, 697, 698, 699, 700, 701, 702, 703] rfl (by decide +kernel)
set_option maxRecDepth 100000 in
theorem gL_law_X7_chosen : GoodIn wsL_law (wsV RL 97 RX7 yX7_chosen wsX7_chosen) := goodIn_app (goodIn_of _ (by decide +kernel)) ggL_law_X7_chosen
set_option maxRecDepth 100000 in
theorem ggL_law_X6_take : GoodIn wsL_law wsX6_take := goodIn_r _ [614, 30, 605, 18, 606, 535, 536, 2, 537, 538, 666, 667, 668, 669, 670, 671, 672, 673, 719, 720, 721, 722] rfl (by decide +kernel)
set_option maxRecDepth 100000 in
theorem gL_law_X6_take : GoodIn wsL_law (wsV RL 98 RX6 yX6_take wsX6_take) := goodIn_app (goodIn_of _ (by decide +kernel)) ggL_law_X6_take
set_option maxRecDepth 100000 in
theorem ggL_law_X7_take : GoodIn wsL_law wsX7_take := goodIn_r _ [618, 596, 83, 84, 619, 540, 541, 5, 542, 543, 544, 545, 674, 675, 676, 677, 678, 679, 680, 681, 682, 683, 684, 685, 686, 687, 688, 689, 690, 691, 692, 693, 694, 695, 696, 697, 698, 699, 700, 701, 702, 703] rfl (by decide +kernel)
set_option maxRecDepth 100000 in
theorem gL_law_X7_take : GoodIn wsL_law (wsV RL 101 RX7 yX7_take wsX7_take) := goodIn_app (goodIn_of _ (by decide +kernel)) ggL_law_X7_take
set_option maxRecDepth 100000 in
theorem ggL_law_X6_about : GoodIn wsL_law wsX6_about := goodIn_r _ [623, 15, 624, 625, 626, 135, 136, 137, 14, 138, 139, 666, 667, 668, 669, 670, 671, 672, 673, 704, 705, 706, 707] rfl (by decide +kernel)
set_option maxRecDepth 100000 in
theorem gL_law_X6_about : GoodIn wsL_law (wsV RL 102 RX6 yX6_about wsX6_about) := goodIn_app (goodIn_of _ (by decide +kernel)) ggL_law_X6_about
set_option maxRecDepth 100000 in
theorem ggL_law_X7_about : GoodIn wsL_law wsX7_about := goodIn_r _ [630, 111, 115, 116, 5, 117, 631, 632, 633, 634, 79, 80, 81, 674, 675, 676, 677, 678, 679, 680, 681, 682, 683, 684, 685, 686, 687, 688, 689, 690, 691, 692, 693, 694, 695, 696, 697, 698, 699, 700, 701, 702, 703] rfl (by decide +kernel)
set_option maxRecDepth 100000 in
theorem gL_law_X7_about : GoodIn wsL_law (wsV RL 105 RX7 yX7_about wsX7_about) := goodIn_app (goodIn_of _ (by decide +kernel)) ggL_law_X7_about
set_option maxRecDepth 100000 in
theorem ggL_law_X6_size : GoodIn wsL_law wsX6_size := goodIn_r _ [638, 15, 94, 452, 639, 640, 641, 2, 642, 18, 666, 667, 668, 669, 670, 671, 672, 673, 704, 705, 706, 707] rfl (by decide +kernel)
set_option maxRecDepth 100000 in
theorem gL_law_X6_size : GoodIn wsL_law (wsV RL 106 RX6 yX6_size wsX6_size) := goodIn_app (goodIn_of _ (by decide +kernel)) ggL_law_X6_size
set_option maxRecDepth 100000 in
theorem ggL_law_X7_size : GoodIn wsL_law wsX7_size := goodIn_r _ [646, 83, 111, 487, 674, 675, 676, 677, 678, 679, 680, 681, 682, 683, 684, 685, 686, 687, 688, 689, 690, 691, 692, 693, 694, 695, 696, 697, 698, 699, 700, 701, 702, 703] rfl (by decide +kernel)
set_option maxRecDepth 100000 in
theorem gL_law_X7_size : GoodIn wsL_law (wsV RL 109 RX7 yX7_size wsX7_size) := goodIn_app (goodIn_of _ (by decide +kernel)) ggL_law_X7_size
set_option maxRecDepth 100000 in
theorem ggL_law_X6_digest : GoodIn wsL_law wsX6_digest := goodIn_r _ [650, 651, 15, 94, 652, 624, 625, 626, 17, 18, 173, 287, 452, 601, 602, 603, 2, 604, 30, 605, 606, 174, 175, 176, 177, 31, 22, 26, 178, 179, 180, 181, 21, 182, 50, 183, 184, 185, 186, 187, 188, 42, 43, 189, 44, 190, 45, 191, 46, 192, 193, 194, 195, 49, 196, 197, 198, 199, 200, 58, 57, 201, 136, 137, 14, 138, 139, 202, 203, 204, 205, 206, 207, 208, 209, 210, 211, 212, 213, 214, 215, 216, 217, 218, 55, 219, 220, 221, 222, 223, 224, 225, 226, 56, 98, 99, 227, 228, 229, 230, 231, 232, 233, 25, 234, 235, 666, 667, 668, 669, 670, 671, 672, 673, 704, 705, 706, 707, 723, 724, 725, 726, 727, 728, 729, 730, 731, 732, 719, 720, 721, 722, 708, 709, 710, 711, 712, 713, 714, 715, 716, 717, 718] rfl (by decide +kernel)
set_option maxRecDepth 100000 in
theorem gL_law_X6_digest : GoodIn wsL_law (wsV RL 110 RX6 yX6_digest wsX6_digest) := goodIn_app (goodIn_of _ (by decide +kernel)) ggL_law_X6_digest
set_option maxRecDepth 100000 in
theorem ggL_law_X7_digest : GoodIn wsL_law wsX7_digest := goodIn_r _ [656, 657, 658, 111, 82, 83, 247, 487, 631, 632, 633, 5, 634, 79, 80, 81, 659, 660, 661, 662, 663, 664, 608, 609, 610, 596, 84, 121, 122, 123, 115, 116, 117, 665, 237, 238, 239, 240, 241, 242, 243, 244, 245, 246, 248, 249, 87, 86, 250, 251, 252, 253, 85, 254, 255, 256, 257, 258, 259, 260, 261, 262, 263, 264, 265, 266, 267, 268, 269, 270, 271, 272, 273, 274, 124, 125, 126, 275, 276, 277, 278, 279, 280, 281, 282, 674, 675, 676, 677, 678, 679, 680, 681, 682, 683, 684, 685, 686, 687, 688, 689, 690, 691, 692, 693, 694, 695, 696, 697, 698, 699, 700, 701, 702, 703] rfl (by decide +kernel)
set_option maxRecDepth 100000 in
theorem gL_law_X7_digest : GoodIn wsL_law (wsV RL 114 RX7 yX7_digest wsX7_digest) := goodIn_app (goodIn_of _ (by decide +kernel)) ggL_law_X7_digest
