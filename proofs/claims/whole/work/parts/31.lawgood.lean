theorem gw_wsX5_init : wsX5_init.all goodWord = true := by decide +kernel
set_option maxRecDepth 20000 in
theorem ggL_law_X5_init : GoodIn wsL_law wsX5_init := goodIn_r _ [9, 10, 11, 12, 13, 14, 15, 16, 17, 18, 19, 20, 21, 22, 23, 24, 25, 26, 27, 28, 29, 30, 31, 32, 33, 34, 35, 36, 37, 38, 39, 40, 41, 42, 43, 44, 45, 46, 47, 48, 49, 50, 51, 52, 53, 54, 55, 56, 57, 58, 59, 60, 61, 62, 63, 64, 65, 66, 67, 68, 69, 70, 71, 72, 73, 74, 75, 76, 77, 78, 79, 80, 81, 82, 83, 84, 85, 86, 87, 88, 89, 2, 90, 814, 815, 772, 773, 774, 775, 776, 777, 778, 779, 780, 781, 782, 783, 784, 785, 786, 816, 817, 818, 819, 820, 821, 822, 823, 824, 825, 826, 827, 828, 829, 830, 831, 832, 833, 834] rfl gw_wsX5_init
set_option maxRecDepth 20000 in
theorem gL_law_X5_init : GoodIn wsL_law (wsX5_init) := ggL_law_X5_init
theorem gw_wsX6_init : wsX6_init.all goodWord = true := by decide +kernel
set_option maxRecDepth 20000 in
theorem ggL_law_X6_init : GoodIn wsL_law wsX6_init := goodIn_r _ [93, 94, 11, 12, 39, 95, 96, 97, 98, 99, 100, 37, 101, 102, 103, 104, 105, 106, 107, 108, 109, 110, 111, 787, 788, 789, 790, 791, 792, 793, 794, 795, 796, 797, 798, 799, 800, 801, 802, 803, 804, 805, 806, 807, 808, 809, 810, 811, 812, 813] rfl gw_wsX6_init
set_option maxRecDepth 20000 in
theorem gL_law_X6_init : GoodIn wsL_law (wsX6_init) := ggL_law_X6_init
theorem gw_wsX5_append : wsX5_append.all goodWord = true := by decide +kernel
set_option maxRecDepth 20000 in
theorem ggL_law_X5_append : GoodIn wsL_law wsX5_append := goodIn_r _ [115, 16, 116, 117, 118, 119, 15, 120, 50, 49, 772, 773, 774, 775, 776, 777, 778, 779, 780, 781, 782, 783, 784, 785, 786, 814, 815] rfl gw_wsX5_append
set_option maxRecDepth 20000 in
theorem gL_law_X5_append : GoodIn wsL_law (wsV RL 13 RX5 yX5_append wsX5_append) := goodIn_app (goodIn_r _ [112, 113, 114, 2] rfl (by decide +kernel)) ggL_law_X5_append
theorem gw_wsX6_append : wsX6_append.all goodWord = true := by decide +kernel
set_option maxRecDepth 20000 in
theorem ggL_law_X6_append : GoodIn wsL_law wsX6_append := goodIn_r _ [124, 125, 126, 127, 95, 128, 129, 5, 130, 787, 788, 789, 790, 791, 792, 793, 794, 795, 796, 797, 798, 799, 800, 801, 802, 803, 804, 805, 806, 807, 808, 809, 810, 811, 812, 813] rfl gw_wsX6_append
set_option maxRecDepth 20000 in
theorem gL_law_X6_append : GoodIn wsL_law (wsV RL 17 RX6 yX6_append wsX6_append) := goodIn_app (goodIn_r _ [121, 122, 123, 5] rfl (by decide +kernel)) ggL_law_X6_append
theorem gw_wsX5_clearText : wsX5_clearText.all goodWord = true := by decide +kernel
set_option maxRecDepth 20000 in
theorem ggL_law_X5_clearText : GoodIn wsL_law wsX5_clearText := goodIn_r _ [134, 16, 116, 772, 773, 774, 775, 776, 777, 778, 779, 780, 781, 782, 783, 784, 785, 786, 814, 815] rfl gw_wsX5_clearText
set_option maxRecDepth 20000 in
theorem gL_law_X5_clearText : GoodIn wsL_law (wsV RL 18 RX5 yX5_clearText wsX5_clearText) := goodIn_app (goodIn_r _ [131, 132, 133, 2] rfl (by decide +kernel)) ggL_law_X5_clearText
theorem gw_wsX6_clearText : wsX6_clearText.all goodWord = true := by decide +kernel
set_option maxRecDepth 20000 in
theorem ggL_law_X6_clearText : GoodIn wsL_law wsX6_clearText := goodIn_r _ [138, 125, 127, 787, 788, 789, 790, 791, 792, 793, 794, 795, 796, 797, 798, 799, 800, 801, 802, 803, 804, 805, 806, 807, 808, 809, 810, 811, 812, 813] rfl gw_wsX6_clearText
set_option maxRecDepth 20000 in
theorem gL_law_X6_clearText : GoodIn wsL_law (wsV RL 22 RX6 yX6_clearText wsX6_clearText) := goodIn_app (goodIn_r _ [135, 136, 137, 5] rfl (by decide +kernel)) ggL_law_X6_clearText
theorem gw_wsX5_errorPosition : wsX5_errorPosition.all goodWord = true := by decide +kernel
set_option maxRecDepth 20000 in
theorem ggL_law_X5_errorPosition : GoodIn wsL_law wsX5_errorPosition := goodIn_r _ [142, 16, 143, 144, 145, 15, 146, 50, 147, 148, 149, 150, 49, 151, 152, 153, 154, 155, 156, 157, 158, 772, 773, 774, 775, 776, 777, 778, 779, 780, 781, 782, 783, 784, 785, 786, 814, 815] rfl gw_wsX5_errorPosition
set_option maxRecDepth 20000 in
theorem gL_law_X5_errorPosition : GoodIn wsL_law (wsV RL 23 RX5 yX5_errorPosition wsX5_errorPosition) := goodIn_app (goodIn_r _ [139, 140, 141, 2] rfl (by decide +kernel)) ggL_law_X5_errorPosition
set_option maxRecDepth 20000 in
theorem ggL_law_X6_errorPosition : GoodIn wsL_law wsX6_errorPosition := goodIn_r _ [162, 125, 96, 127, 95, 163, 164, 165, 166, 5, 167, 168, 169, 170, 171, 128, 129, 130, 787, 788, 789, 790, 791, 792, 793, 794, 795, 796, 797, 798, 799, 800, 801, 802, 803, 804, 805, 806, 807, 808, 809, 810, 811, 812, 813] rfl gw_wsX6_errorPosition
set_option maxRecDepth 20000 in
theorem gL_law_X6_errorPosition : GoodIn wsL_law (wsV RL 26 RX6 yX6_errorPosition wsX6_errorPosition) := goodIn_app (goodIn_r _ [159, 160, 161, 5] rfl (by decide +kernel)) ggL_law_X6_errorPosition
theorem gw_wsX5_load : wsX5_load.all goodWord = true := by decide +kernel
set_option maxRecDepth 20000 in
theorem ggL_law_X5_load : GoodIn wsL_law wsX5_load := goodIn_r _ [175, 16, 20, 35, 38, 176, 143, 144, 145, 15, 146, 50, 147, 148, 149, 150, 49, 151, 152, 153, 154, 155, 156, 157, 158, 177, 178, 179, 180, 181, 182, 183, 184, 185, 186, 187, 188, 19, 189, 58, 55, 56, 57, 772, 773, 774, 775, 776, 777, 778, 779, 780, 781, 782, 783, 784, 785, 786, 816, 817, 818, 819, 814, 815] rfl gw_wsX5_load
set_option maxRecDepth 20000 in
theorem gL_law_X5_load : GoodIn wsL_law (wsV RL 27 RX5 yX5_load wsX5_load) := goodIn_app (goodIn_r _ [172, 173, 174, 2] rfl (by decide +kernel)) ggL_law_X5_load
theorem gw_wsX6_load : wsX6_load.all goodWord = true := by decide +kernel
set_option maxRecDepth 20000 in
theorem ggL_law_X6_load : GoodIn wsL_law wsX6_load := goodIn_r _ [193, 125, 96, 97, 194, 101, 195, 160, 161, 5, 162, 127, 95, 163, 164, 165, 166, 167, 168, 169, 170, 171, 128, 129, 130, 196, 197, 198, 787, 788, 789, 790, 791, 792, 793, 794, 795, 796, 797, 798, 799, 800, 801, 802, 803, 804, 805, 806, 807, 808, 809, 810, 811, 812, 813] rfl gw_wsX6_load
set_option maxRecDepth 20000 in
theorem gL_law_X6_load : GoodIn wsL_law (wsV RL 30 RX6 yX6_load wsX6_load) := goodIn_app (goodIn_r _ [190, 191, 192, 5] rfl (by decide +kernel)) ggL_law_X6_load
theorem gw_wsX5_siteCount : wsX5_siteCount.all goodWord = true := by decide +kernel
set_option maxRecDepth 20000 in
theorem ggL_law_X5_siteCount : GoodIn wsL_law wsX5_siteCount := goodIn_r _ [202, 20, 176, 772, 773, 774, 775, 776, 777, 778, 779, 780, 781, 782, 783, 784, 785, 786, 816, 817, 818, 819] rfl gw_wsX5_siteCount
set_option maxRecDepth 20000 in
theorem gL_law_X5_siteCount : GoodIn wsL_law (wsV RL 31 RX5 yX5_siteCount wsX5_siteCount) := goodIn_app (goodIn_r _ [199, 200, 201, 2] rfl (by decide +kernel)) ggL_law_X5_siteCount
theorem gw_wsX6_siteCount : wsX6_siteCount.all goodWord = true := by decide +kernel
set_option maxRecDepth 20000 in
theorem ggL_law_X6_siteCount : GoodIn wsL_law wsX6_siteCount := goodIn_r _ [206, 125, 97, 787, 788, 789, 790, 791, 792, 793, 794, 795, 796, 797, 798, 799, 800, 801, 802, 803, 804, 805, 806, 807, 808, 809, 810, 811, 812, 813] rfl gw_wsX6_siteCount
set_option maxRecDepth 20000 in
theorem gL_law_X6_siteCount : GoodIn wsL_law (wsV RL 34 RX6 yX6_siteCount wsX6_siteCount) := goodIn_app (goodIn_r _ [203, 204, 205, 5] rfl (by decide +kernel)) ggL_law_X6_siteCount
theorem gw_wsX5_site : wsX5_site.all goodWord = true := by decide +kernel
set_option maxRecDepth 20000 in
theorem ggL_law_X5_site : GoodIn wsL_law wsX5_site := goodIn_r _ [210, 20, 211, 212, 213, 214, 215, 216, 19, 217, 58, 772, 773, 774, 775, 776, 777, 778, 779, 780, 781, 782, 783, 784, 785, 786, 816, 817, 818, 819] rfl gw_wsX5_site
set_option maxRecDepth 20000 in
theorem gL_law_X5_site : GoodIn wsL_law (wsV RL 35 RX5 yX5_site wsX5_site) := goodIn_app (goodIn_r _ [207, 208, 209, 2] rfl (by decide +kernel)) ggL_law_X5_site
theorem gw_wsX6_site : wsX6_site.all goodWord = true := by decide +kernel
set_option maxRecDepth 20000 in
theorem ggL_law_X6_site : GoodIn wsL_law wsX6_site := goodIn_r _ [221, 125, 222, 97, 223, 224, 225, 5, 226, 128, 129, 130, 227, 228, 229, 787, 788, 789, 790, 791, 792, 793, 794, 795, 796, 797, 798, 799, 800, 801, 802, 803, 804, 805, 806, 807, 808, 809, 810, 811, 812, 813] rfl gw_wsX6_site
set_option maxRecDepth 20000 in
theorem gL_law_X6_site : GoodIn wsL_law (wsV RL 39 RX6 yX6_site wsX6_site) := goodIn_app (goodIn_r _ [218, 219, 220, 5] rfl (by decide +kernel)) ggL_law_X6_site
theorem gw_wsX5_powerDistance : wsX5_powerDistance.all goodWord = true := by decide +kernel
set_option maxRecDepth 20000 in
theorem ggL_law_X5_powerDistance : GoodIn wsL_law wsX5_powerDistance := goodIn_r _ [233, 20, 214, 215, 216, 19, 217, 58, 234, 235, 2, 236, 237, 238, 239, 240, 57, 241, 242, 243, 244, 55, 56, 772, 773, 774, 775, 776, 777, 778, 779, 780, 781, 782, 783, 784, 785, 786, 816, 817, 818, 819] rfl gw_wsX5_powerDistance
set_option maxRecDepth 20000 in
theorem gL_law_X5_powerDistance : GoodIn wsL_law (wsV RL 40 RX5 yX5_powerDistance wsX5_powerDistance) := goodIn_app (goodIn_r _ [230, 231, 232, 2] rfl (by decide +kernel)) ggL_law_X5_powerDistance
theorem gw_wsX6_powerDistance : wsX6_powerDistance.all goodWord = true := by decide +kernel
set_option maxRecDepth 20000 in
theorem ggL_law_X6_powerDistance : GoodIn wsL_law wsX6_powerDistance := goodIn_r _ [248, 125, 97, 223, 224, 225, 5, 226, 128, 129, 130, 249, 250, 251, 252, 253, 254, 255, 227, 228, 229, 787, 788, 789, 790, 791, 792, 793, 794, 795, 796, 797, 798, 799, 800, 801, 802, 803, 804, 805, 806, 807, 808, 809, 810, 811, 812, 813] rfl gw_wsX6_powerDistance
set_option maxRecDepth 20000 in
theorem gL_law_X6_powerDistance : GoodIn wsL_law (wsV RL 44 RX6 yX6_powerDistance wsX6_powerDistance) := goodIn_app (goodIn_r _ [245, 246, 247, 5] rfl (by decide +kernel)) ggL_law_X6_powerDistance
theorem gw_wsX5_owner : wsX5_owner.all goodWord = true := by decide +kernel
set_option maxRecDepth 20000 in
theorem ggL_law_X5_owner : GoodIn wsL_law wsX5_owner := goodIn_r _ [259, 20, 234, 235, 2, 236, 260, 261, 262, 19, 263, 264, 265, 266, 267, 58, 268, 238, 239, 240, 57, 241, 242, 243, 244, 55, 56, 772, 773, 774, 775, 776, 777, 778, 779, 780, 781, 782, 783, 784, 785, 786, 816, 817, 818, 819] rfl gw_wsX5_owner
set_option maxRecDepth 20000 in
theorem gL_law_X5_owner : GoodIn wsL_law (wsV RL 45 RX5 yX5_owner wsX5_owner) := goodIn_app (goodIn_r _ [256, 257, 258, 2] rfl (by decide +kernel)) ggL_law_X5_owner
theorem gw_wsX6_owner : wsX6_owner.all goodWord = true := by decide +kernel
set_option maxRecDepth 20000 in
theorem ggL_law_X6_owner : GoodIn wsL_law wsX6_owner := goodIn_r _ [272, 125, 97, 249, 250, 5, 251, 252, 128, 129, 130, 273, 274, 275, 253, 254, 255, 227, 228, 229, 787, 788, 789, 790, 791, 792, 793, 794, 795, 796, 797, 798, 799, 800, 801, 802, 803, 804, 805, 806, 807, 808, 809, 810, 811, 812, 813] rfl gw_wsX6_owner
set_option maxRecDepth 20000 in
theorem gL_law_X6_owner : GoodIn wsL_law (wsV RL 48 RX6 yX6_owner wsX6_owner) := goodIn_app (goodIn_r _ [269, 270, 271, 5] rfl (by decide +kernel)) ggL_law_X6_owner
theorem gw_wsX5_size : wsX5_size.all goodWord = true := by decide +kernel
set_option maxRecDepth 20000 in
theorem ggL_law_X5_size : GoodIn wsL_law wsX5_size := goodIn_r _ [279, 20, 214, 215, 216, 19, 217, 58, 280, 281, 282, 283, 284, 261, 262, 263, 264, 265, 266, 267, 268, 238, 239, 240, 57, 241, 242, 243, 244, 55, 56, 772, 773, 774, 775, 776, 777, 778, 779, 780, 781, 782, 783, 784, 785, 786, 816, 817, 818, 819] rfl gw_wsX5_size
set_option maxRecDepth 20000 in
theorem gL_law_X5_size : GoodIn wsL_law (wsV RL 49 RX5 yX5_size wsX5_size) := goodIn_app (goodIn_r _ [276, 277, 278, 2] rfl (by decide +kernel)) ggL_law_X5_size
theorem gw_wsX6_size : wsX6_size.all goodWord = true := by decide +kernel
set_option maxRecDepth 20000 in
theorem ggL_law_X6_size : GoodIn wsL_law wsX6_size := goodIn_r _ [288, 125, 97, 223, 224, 225, 5, 226, 128, 129, 130, 289, 290, 291, 273, 274, 275, 253, 254, 255, 227, 228, 229, 787, 788, 789, 790, 791, 792, 793, 794, 795, 796, 797, 798, 799, 800, 801, 802, 803, 804, 805, 806, 807, 808, 809, 810, 811, 812, 813] rfl gw_wsX6_size
set_option maxRecDepth 20000 in
theorem gL_law_X6_size : GoodIn wsL_law (wsV RL 52 RX6 yX6_size wsX6_size) := goodIn_app (goodIn_r _ [285, 286, 287, 5] rfl (by decide +kernel)) ggL_law_X6_size
theorem gw_wsX5_add : wsX5_add.all goodWord = true := by decide +kernel
set_option maxRecDepth 20000 in
theorem ggL_law_X5_add : GoodIn wsL_law wsX5_add := goodIn_r _ [295, 20, 176, 234, 235, 2, 236, 296, 297, 298, 299, 300, 301, 302, 34, 33, 35, 303, 304, 305, 306, 307, 308, 19, 309, 55, 56, 57, 58, 310, 187, 188, 189, 772, 773, 774, 775, 776, 777, 778, 779, 780, 781, 782, 783, 784, 785, 786, 816, 817, 818, 819] rfl gw_wsX5_add
set_option maxRecDepth 20000 in
theorem gL_law_X5_add : GoodIn wsL_law (wsV RL 53 RX5 yX5_add wsX5_add) := goodIn_app (goodIn_r _ [292, 293, 294, 2] rfl (by decide +kernel)) ggL_law_X5_add
theorem gw_wsX6_add : wsX6_add.all goodWord = true := by decide +kernel
set_option maxRecDepth 20000 in
theorem ggL_law_X6_add : GoodIn wsL_law wsX6_add := goodIn_r _ [314, 125, 315, 97, 249, 250, 5, 251, 252, 128, 129, 130, 316, 317, 318, 319, 194, 99, 787, 788, 789, 790, 791, 792, 793, 794, 795, 796, 797, 798, 799, 800, 801, 802, 803, 804, 805, 806, 807, 808, 809, 810, 811, 812, 813] rfl gw_wsX6_add
set_option maxRecDepth 20000 in
theorem gL_law_X6_add : GoodIn wsL_law (wsV RL 56 RX6 yX6_add wsX6_add) := goodIn_app (goodIn_r _ [311, 312, 313, 5] rfl (by decide +kernel)) ggL_law_X6_add
theorem gw_wsX5_remove : wsX5_remove.all goodWord = true := by decide +kernel
set_option maxRecDepth 20000 in
theorem ggL_law_X5_remove : GoodIn wsL_law wsX5_remove := goodIn_r _ [323, 20, 176, 214, 215, 216, 19, 217, 58, 299, 300, 301, 2, 302, 34, 33, 35, 303, 304, 305, 306, 307, 308, 309, 55, 56, 57, 324, 325, 326, 327, 328, 772, 773, 774, 775, 776, 777, 778, 779, 780, 781, 782, 783, 784, 785, 786, 816, 817, 818, 819] rfl gw_wsX5_remove
set_option maxRecDepth 20000 in
theorem gL_law_X5_remove : GoodIn wsL_law (wsV RL 57 RX5 yX5_remove wsX5_remove) := goodIn_app (goodIn_r _ [320, 321, 322, 2] rfl (by decide +kernel)) ggL_law_X5_remove
theorem gw_wsX6_remove : wsX6_remove.all goodWord = true := by decide +kernel
set_option maxRecDepth 20000 in
theorem ggL_law_X6_remove : GoodIn wsL_law wsX6_remove := goodIn_r _ [332, 125, 97, 223, 224, 225, 5, 226, 128, 129, 130, 316, 317, 318, 319, 194, 99, 333, 334, 335, 787, 788, 789, 790, 791, 792, 793, 794, 795, 796, 797, 798, 799, 800, 801, 802, 803, 804, 805, 806, 807, 808, 809, 810, 811, 812, 813] rfl gw_wsX6_remove
set_option maxRecDepth 20000 in
theorem gL_law_X6_remove : GoodIn wsL_law (wsV RL 60 RX6 yX6_remove wsX6_remove) := goodIn_app (goodIn_r _ [329, 330, 331, 5] rfl (by decide +kernel)) ggL_law_X6_remove
theorem gw_wsX5_move : wsX5_move.all goodWord = true := by decide +kernel
set_option maxRecDepth 20000 in
theorem ggL_law_X5_move : GoodIn wsL_law wsX5_move := goodIn_r _ [339, 20, 211, 212, 214, 215, 216, 19, 217, 58, 234, 235, 2, 236, 299, 300, 301, 302, 34, 33, 35, 303, 304, 305, 306, 307, 308, 309, 55, 56, 57, 772, 773, 774, 775, 776, 777, 778, 779, 780, 781, 782, 783, 784, 785, 786, 816, 817, 818, 819] rfl gw_wsX5_move
set_option maxRecDepth 20000 in
theorem gL_law_X5_move : GoodIn wsL_law (wsV RL 61 RX5 yX5_move wsX5_move) := goodIn_app (goodIn_r _ [336, 337, 338, 2] rfl (by decide +kernel)) ggL_law_X5_move
theorem gw_wsX6_move : wsX6_move.all goodWord = true := by decide +kernel
set_option maxRecDepth 20000 in
theorem ggL_law_X6_move : GoodIn wsL_law wsX6_move := goodIn_r _ [343, 125, 97, 223, 224, 225, 5, 226, 128, 129, 130, 249, 250, 251, 252, 316, 317, 318, 319, 194, 99, 227, 228, 229, 787, 788, 789, 790, 791, 792, 793, 794, 795, 796, 797, 798, 799, 800, 801, 802, 803, 804, 805, 806, 807, 808, 809, 810, 811, 812, 813] rfl gw_wsX6_move
set_option maxRecDepth 20000 in
theorem gL_law_X6_move : GoodIn wsL_law (wsV RL 64 RX6 yX6_move wsX6_move) := goodIn_app (goodIn_r _ [340, 341, 342, 5] rfl (by decide +kernel)) ggL_law_X6_move
theorem gw_wsX5_setWeight : wsX5_setWeight.all goodWord = true := by decide +kernel
set_option maxRecDepth 20000 in
theorem ggL_law_X5_setWeight : GoodIn wsL_law wsX5_setWeight := goodIn_r _ [347, 20, 213, 214, 215, 216, 19, 217, 58, 296, 297, 2, 298, 299, 300, 301, 302, 34, 33, 35, 303, 304, 305, 306, 307, 308, 309, 55, 56, 57, 772, 773, 774, 775, 776, 777, 778, 779, 780, 781, 782, 783, 784, 785, 786, 816, 817, 818, 819] rfl gw_wsX5_setWeight
set_option maxRecDepth 20000 in
theorem gL_law_X5_setWeight : GoodIn wsL_law (wsV RL 65 RX5 yX5_setWeight wsX5_setWeight) := goodIn_app (goodIn_r _ [344, 345, 346, 2] rfl (by decide +kernel)) ggL_law_X5_setWeight
theorem gw_wsX6_setWeight : wsX6_setWeight.all goodWord = true := by decide +kernel
set_option maxRecDepth 20000 in
theorem ggL_law_X6_setWeight : GoodIn wsL_law wsX6_setWeight := goodIn_r _ [351, 125, 315, 97, 223, 224, 225, 5, 226, 128, 129, 130, 316, 317, 318, 319, 194, 99, 227, 228, 229, 787, 788, 789, 790, 791, 792, 793, 794, 795, 796, 797, 798, 799, 800, 801, 802, 803, 804, 805, 806, 807, 808, 809, 810, 811, 812, 813] rfl gw_wsX6_setWeight
set_option maxRecDepth 20000 in
theorem gL_law_X6_setWeight : GoodIn wsL_law (wsV RL 68 RX6 yX6_setWeight wsX6_setWeight) := goodIn_app (goodIn_r _ [348, 349, 350, 5] rfl (by decide +kernel)) ggL_law_X6_setWeight
theorem gw_wsX5_undo : wsX5_undo.all goodWord = true := by decide +kernel
set_option maxRecDepth 20000 in
theorem ggL_law_X5_undo : GoodIn wsL_law wsX5_undo := goodIn_r _ [355, 35, 33, 34, 20, 307, 308, 19, 309, 55, 56, 57, 58, 772, 773, 774, 775, 776, 777, 778, 779, 780, 781, 782, 783, 784, 785, 786, 816, 817, 818, 819] rfl gw_wsX5_undo
set_option maxRecDepth 20000 in
theorem gL_law_X5_undo : GoodIn wsL_law (wsV RL 69 RX5 yX5_undo wsX5_undo) := goodIn_app (goodIn_r _ [352, 353, 354, 2] rfl (by decide +kernel)) ggL_law_X5_undo
theorem gw_wsX6_undo : wsX6_undo.all goodWord = true := by decide +kernel
set_option maxRecDepth 20000 in
theorem ggL_law_X6_undo : GoodIn wsL_law wsX6_undo := goodIn_r _ [359, 125, 194, 97, 99, 787, 788, 789, 790, 791, 792, 793, 794, 795, 796, 797, 798, 799, 800, 801, 802, 803, 804, 805, 806, 807, 808, 809, 810, 811, 812, 813] rfl gw_wsX6_undo
set_option maxRecDepth 20000 in
theorem gL_law_X6_undo : GoodIn wsL_law (wsV RL 72 RX6 yX6_undo wsX6_undo) := goodIn_app (goodIn_r _ [356, 357, 358, 5] rfl (by decide +kernel)) ggL_law_X6_undo
theorem gw_wsX5_cornerCount : wsX5_cornerCount.all goodWord = true := by decide +kernel
set_option maxRecDepth 20000 in
theorem ggL_law_X5_cornerCount : GoodIn wsL_law wsX5_cornerCount := goodIn_r _ [363, 20, 28, 214, 215, 216, 19, 217, 58, 364, 365, 366, 27, 367, 74, 78, 368, 369, 370, 371, 372, 373, 374, 23, 375, 66, 376, 377, 378, 379, 380, 381, 382, 383, 55, 56, 57, 384, 385, 386, 387, 388, 389, 390, 63, 64, 65, 391, 392, 393, 394, 395, 396, 397, 398, 67, 68, 69, 399, 400, 401, 402, 403, 404, 405, 406, 407, 408, 409, 410, 411, 412, 413, 414, 77, 75, 76, 415, 416, 417, 418, 772, 773, 774, 775, 776, 777, 778, 779, 780, 781, 782, 783, 784, 785, 786, 816, 817, 818, 819, 827, 828, 829, 830, 831, 820, 821, 822, 823, 824, 825, 826] rfl gw_wsX5_cornerCount
set_option maxRecDepth 20000 in
theorem gL_law_X5_cornerCount : GoodIn wsL_law (wsV RL 73 RX5 yX5_cornerCount wsX5_cornerCount) := goodIn_app (goodIn_r _ [360, 361, 362, 2] rfl (by decide +kernel)) ggL_law_X5_cornerCount
theorem gw_wsX6_cornerCount : wsX6_cornerCount.all goodWord = true := by decide +kernel
set_option maxRecDepth 20000 in
theorem ggL_law_X6_cornerCount : GoodIn wsL_law wsX6_cornerCount := goodIn_r _ [422, 125, 97, 223, 224, 225, 5, 226, 128, 129, 130, 423, 424, 425, 426, 427, 428, 429, 430, 431, 432, 433, 434, 435, 436, 105, 106, 107, 437, 438, 439, 440, 227, 228, 229, 441, 442, 443, 444, 445, 446, 447, 448, 109, 111, 110, 449, 450, 451, 452, 453, 454, 455, 456, 457, 458, 459, 460, 461, 462, 463, 464, 787, 788, 789, 790, 791, 792, 793, 794, 795, 796, 797, 798, 799, 800, 801, 802, 803, 804, 805, 806, 807, 808, 809, 810, 811, 812, 813] rfl gw_wsX6_cornerCount
set_option maxRecDepth 20000 in
theorem gL_law_X6_cornerCount : GoodIn wsL_law (wsV RL 76 RX6 yX6_cornerCount wsX6_cornerCount) := goodIn_app (goodIn_r _ [419, 420, 421, 5] rfl (by decide +kernel)) ggL_law_X6_cornerCount
theorem gw_wsX5_cornerNumerator : wsX5_cornerNumerator.all goodWord = true := by decide +kernel
set_option maxRecDepth 20000 in
theorem ggL_law_X5_cornerNumerator : GoodIn wsL_law wsX5_cornerNumerator := goodIn_r _ [468, 28, 469, 470, 471, 2, 472, 20, 214, 215, 216, 19, 217, 58, 364, 365, 366, 27, 367, 74, 78, 368, 369, 370, 371, 372, 373, 374, 23, 375, 66, 376, 377, 378, 379, 380, 381, 382, 383, 55, 56, 57, 384, 385, 386, 387, 388, 389, 390, 63, 64, 65, 391, 392, 393, 394, 395, 396, 397, 398, 67, 68, 69, 399, 400, 401, 402, 403, 404, 405, 406, 407, 408, 409, 410, 411, 412, 413, 414, 77, 75, 76, 415, 416, 417, 418, 473, 474, 475, 476, 477, 478, 479, 480, 481, 482, 483, 484, 485, 486, 487, 488, 489, 490, 491, 492, 493, 494, 495, 496, 497, 498, 499, 500, 501, 305, 502, 503, 772, 773, 774, 775, 776, 777, 778, 779, 780, 781, 782, 783, 784, 785, 786, 816, 817, 818, 819, 827, 828, 829, 830, 831, 820, 821, 822, 823, 824, 825, 826] rfl gw_wsX5_cornerNumerator
set_option maxRecDepth 20000 in
theorem gL_law_X5_cornerNumerator : GoodIn wsL_law (wsV RL 77 RX5 yX5_cornerNumerator wsX5_cornerNumerator) := goodIn_app (goodIn_r _ [465, 466, 467, 2] rfl (by decide +kernel)) ggL_law_X5_cornerNumerator
theorem gw_wsX6_cornerNumerator : wsX6_cornerNumerator.all goodWord = true := by decide +kernel
set_option maxRecDepth 20000 in
theorem ggL_law_X6_cornerNumerator : GoodIn wsL_law wsX6_cornerNumerator := goodIn_r _ [507, 125, 508, 509, 510, 5, 511, 97, 109, 110, 111, 223, 224, 225, 226, 128, 129, 130, 423, 424, 425, 426, 427, 428, 429, 430, 431, 432, 433, 434, 435, 436, 105, 106, 107, 437, 438, 439, 440, 227, 228, 229, 441, 442, 443, 444, 445, 446, 447, 448, 449, 450, 451, 452, 453, 454, 455, 456, 457, 458, 459, 460, 461, 462, 463, 464, 512, 513, 514, 787, 788, 789, 790, 791, 792, 793, 794, 795, 796, 797, 798, 799, 800, 801, 802, 803, 804, 805, 806, 807, 808, 809, 810, 811, 812, 813] rfl gw_wsX6_cornerNumerator
set_option maxRecDepth 20000 in
theorem gL_law_X6_cornerNumerator : GoodIn wsL_law (wsV RL 80 RX6 yX6_cornerNumerator wsX6_cornerNumerator) := goodIn_app (goodIn_r _ [504, 505, 506, 5] rfl (by decide +kernel)) ggL_law_X6_cornerNumerator
theorem gw_wsX5_cornerDenominator : wsX5_cornerDenominator.all goodWord = true := by decide +kernel
set_option maxRecDepth 20000 in
theorem ggL_law_X5_cornerDenominator : GoodIn wsL_law wsX5_cornerDenominator := goodIn_r _ [518, 28, 519, 469, 470, 471, 2, 472, 20, 214, 215, 216, 19, 217, 58, 364, 365, 366, 27, 367, 74, 78, 368, 369, 370, 371, 372, 373, 374, 23, 375, 66, 376, 377, 378, 379, 380, 381, 382, 383, 55, 56, 57, 384, 385, 386, 387, 388, 389, 390, 63, 64, 65, 391, 392, 393, 394, 395, 396, 397, 398, 67, 68, 69, 399, 400, 401, 402, 403, 404, 405, 406, 407, 408, 409, 410, 411, 412, 413, 414, 77, 75, 76, 415, 416, 417, 418, 473, 474, 475, 476, 477, 478, 479, 480, 481, 482, 483, 484, 485, 486, 487, 488, 489, 490, 491, 496, 497, 498, 499, 500, 501, 305, 502, 503, 493, 494, 495, 772, 773, 774, 775, 776, 777, 778, 779, 780, 781, 782, 783, 784, 785, 786, 827, 828, 829, 830, 831, 816, 817, 818, 819, 820, 821, 822, 823, 824, 825, 826] rfl gw_wsX5_cornerDenominator
set_option maxRecDepth 20000 in
theorem gL_law_X5_cornerDenominator : GoodIn wsL_law (wsV RL 81 RX5 yX5_cornerDenominator wsX5_cornerDenominator) := goodIn_app (goodIn_r _ [515, 516, 517, 2] rfl (by decide +kernel)) ggL_law_X5_cornerDenominator
theorem gw_wsX6_cornerDenominator : wsX6_cornerDenominator.all goodWord = true := by decide +kernel
set_option maxRecDepth 20000 in
theorem ggL_law_X6_cornerDenominator : GoodIn wsL_law wsX6_cornerDenominator := goodIn_r _ [523, 125, 508, 509, 510, 5, 511, 97, 109, 110, 111, 223, 224, 225, 226, 128, 129, 130, 423, 424, 425, 426, 427, 428, 429, 430, 431, 432, 433, 434, 435, 436, 105, 106, 107, 437, 438, 439, 440, 227, 228, 229, 441, 442, 443, 444, 445, 446, 447, 448, 449, 450, 451, 452, 453, 454, 455, 456, 457, 458, 459, 460, 461, 462, 463, 464, 512, 513, 514, 787, 788, 789, 790, 791, 792, 793, 794, 795, 796, 797, 798, 799, 800, 801, 802, 803, 804, 805, 806, 807, 808, 809, 810, 811, 812, 813] rfl gw_wsX6_cornerDenominator
set_option maxRecDepth 20000 in
theorem gL_law_X6_cornerDenominator : GoodIn wsL_law (wsV RL 84 RX6 yX6_cornerDenominator wsX6_cornerDenominator) := goodIn_app (goodIn_r _ [520, 521, 522, 5] rfl (by decide +kernel)) ggL_law_X6_cornerDenominator
set_option maxRecDepth 20000 in
theorem ggL_law_X5_hiddenSites : GoodIn wsL_law wsX5_hiddenSites := goodIn_r _ [527, 20, 176, 28, 528, 529, 530, 27, 531, 532, 365, 366, 367, 74, 78, 368, 369, 370, 371, 372, 373, 374, 23, 375, 66, 376, 377, 378, 379, 215, 216, 19, 217, 58, 380, 381, 382, 383, 55, 56, 57, 384, 385, 386, 387, 388, 389, 390, 63, 64, 65, 391, 392, 393, 394, 395, 396, 397, 398, 67, 68, 69, 399, 400, 401, 402, 403, 404, 405, 406, 407, 408, 409, 410, 411, 412, 413, 414, 77, 75, 76, 533, 416, 417, 418, 772, 773, 774, 775, 776, 777, 778, 779, 780, 781, 782, 783, 784, 785, 786, 816, 817, 818, 819, 827, 828, 829, 830, 831, 820, 821, 822, 823, 824, 825, 826] rfl gw_wsX5_hiddenSites
set_option maxRecDepth 20000 in
theorem gL_law_X5_hiddenSites : GoodIn wsL_law (wsV RL 85 RX5 yX5_hiddenSites wsX5_hiddenSites) := goodIn_app (goodIn_r _ [524, 525, 526, 2] rfl (by decide +kernel)) ggL_law_X5_hiddenSites
theorem gw_wsX6_hiddenSites : wsX6_hiddenSites.all goodWord = true := by decide +kernel
set_option maxRecDepth 20000 in
theorem ggL_law_X6_hiddenSites : GoodIn wsL_law wsX6_hiddenSites := goodIn_r _ [537, 125, 97, 538, 539, 540, 5, 541, 423, 424, 425, 426, 427, 428, 429, 430, 431, 432, 433, 434, 435, 436, 105, 106, 107, 437, 438, 439, 440, 227, 228, 229, 441, 442, 443, 444, 445, 446, 447, 448, 109, 111, 110, 449, 450, 451, 452, 453, 454, 455, 456, 457, 458, 459, 460, 461, 462, 463, 464, 787, 788, 789, 790, 791, 792, 793, 794, 795, 796, 797, 798, 799, 800, 801, 802, 803, 804, 805, 806, 807, 808, 809, 810, 811, 812, 813] rfl gw_wsX6_hiddenSites
set_option maxRecDepth 20000 in
theorem gL_law_X6_hiddenSites : GoodIn wsL_law (wsV RL 88 RX6 yX6_hiddenSites wsX6_hiddenSites) := goodIn_app (goodIn_r _ [534, 535, 536, 5] rfl (by decide +kernel)) ggL_law_X6_hiddenSites
theorem gw_wsX5_neighbours : wsX5_neighbours.all goodWord = true := by decide +kernel
set_option maxRecDepth 20000 in
theorem ggL_law_X5_neighbours : GoodIn wsL_law wsX5_neighbours := goodIn_r _ [545, 20, 28, 176, 214, 215, 216, 19, 217, 58, 546, 525, 526, 2, 527, 528, 529, 530, 27, 531, 532, 365, 366, 367, 74, 78, 368, 369, 370, 371, 372, 373, 374, 23, 375, 66, 376, 377, 378, 379, 380, 381, 382, 383, 55, 56, 57, 384, 385, 386, 387, 388, 389, 390, 63, 64, 65, 391, 392, 393, 394, 395, 396, 397, 398, 67, 68, 69, 399, 400, 401, 402, 403, 404, 405, 406, 407, 408, 409, 410, 411, 412, 413, 414, 77, 75, 76, 533, 416, 417, 418, 364, 547, 548, 549, 550, 551, 552, 553, 554, 772, 773, 774, 775, 776, 777, 778, 779, 780, 781, 782, 783, 784, 785, 786, 816, 817, 818, 819, 827, 828, 829, 830, 831, 820, 821, 822, 823, 824, 825, 826] rfl gw_wsX5_neighbours
set_option maxRecDepth 20000 in
theorem gL_law_X5_neighbours : GoodIn wsL_law (wsV RL 89 RX5 yX5_neighbours wsX5_neighbours) := goodIn_app (goodIn_r _ [542, 543, 544, 2] rfl (by decide +kernel)) ggL_law_X5_neighbours
theorem gw_wsX6_neighbours : wsX6_neighbours.all goodWord = true := by decide +kernel
set_option maxRecDepth 20000 in
theorem ggL_law_X6_neighbours : GoodIn wsL_law wsX6_neighbours := goodIn_r _ [558, 125, 97, 223, 224, 225, 5, 226, 128, 129, 130, 559, 560, 561, 562, 427, 538, 539, 540, 541, 423, 424, 425, 426, 428, 429, 430, 431, 432, 433, 434, 435, 436, 105, 106, 107, 437, 438, 439, 440, 227, 228, 229, 441, 442, 443, 444, 445, 446, 447, 448, 109, 111, 110, 449, 450, 451, 452, 453, 454, 455, 456, 457, 458, 459, 460, 461, 462, 463, 464, 787, 788, 789, 790, 791, 792, 793, 794, 795, 796, 797, 798, 799, 800, 801, 802, 803, 804, 805, 806, 807, 808, 809, 810, 811, 812, 813] rfl gw_wsX6_neighbours
set_option maxRecDepth 20000 in
theorem gL_law_X6_neighbours : GoodIn wsL_law (wsV RL 92 RX6 yX6_neighbours wsX6_neighbours) := goodIn_app (goodIn_r _ [555, 556, 557, 5] rfl (by decide +kernel)) ggL_law_X6_neighbours
theorem gw_wsX5_isTriangle : wsX5_isTriangle.all goodWord = true := by decide +kernel
set_option maxRecDepth 20000 in
theorem ggL_law_X5_isTriangle : GoodIn wsL_law wsX5_isTriangle := goodIn_r _ [566, 20, 24, 214, 215, 216, 19, 217, 58, 567, 373, 374, 23, 375, 66, 376, 377, 378, 379, 380, 381, 382, 383, 55, 56, 57, 384, 385, 386, 387, 388, 389, 390, 63, 64, 65, 568, 569, 570, 2, 571, 572, 396, 397, 398, 67, 68, 69, 399, 400, 401, 402, 573, 404, 405, 406, 407, 408, 409, 410, 772, 773, 774, 775, 776, 777, 778, 779, 780, 781, 782, 783, 784, 785, 786, 816, 817, 818, 819, 820, 821, 822, 823, 824, 825, 826] rfl gw_wsX5_isTriangle
set_option maxRecDepth 20000 in
theorem gL_law_X5_isTriangle : GoodIn wsL_law (wsV RL 93 RX5 yX5_isTriangle wsX5_isTriangle) := goodIn_app (goodIn_r _ [563, 564, 565, 2] rfl (by decide +kernel)) ggL_law_X5_isTriangle
theorem gw_wsX6_isTriangle : wsX6_isTriangle.all goodWord = true := by decide +kernel
set_option maxRecDepth 20000 in
theorem ggL_law_X6_isTriangle : GoodIn wsL_law wsX6_isTriangle := goodIn_r _ [577, 125, 223, 224, 225, 5, 226, 97, 128, 129, 130, 578, 579, 580, 581, 582, 583, 584, 585, 432, 105, 106, 586, 107, 587, 588, 437, 438, 439, 440, 227, 228, 229, 433, 434, 435, 436, 589, 590, 591, 592, 787, 788, 789, 790, 791, 792, 793, 794, 795, 796, 797, 798, 799, 800, 801, 802, 803, 804, 805, 806, 807, 808, 809, 810, 811, 812, 813] rfl gw_wsX6_isTriangle
set_option maxRecDepth 20000 in
theorem gL_law_X6_isTriangle : GoodIn wsL_law (wsV RL 96 RX6 yX6_isTriangle wsX6_isTriangle) := goodIn_app (goodIn_r _ [574, 575, 576, 5] rfl (by decide +kernel)) ggL_law_X6_isTriangle
theorem gw_wsX5_triangleCount : wsX5_triangleCount.all goodWord = true := by decide +kernel
set_option maxRecDepth 20000 in
theorem ggL_law_X5_triangleCount : GoodIn wsL_law wsX5_triangleCount := goodIn_r _ [596, 20, 176, 24, 567, 373, 374, 23, 375, 66, 376, 377, 378, 379, 215, 216, 19, 217, 58, 380, 381, 382, 383, 55, 56, 57, 384, 385, 386, 387, 388, 389, 390, 63, 64, 65, 568, 569, 570, 2, 571, 572, 396, 397, 398, 67, 68, 69, 399, 400, 401, 402, 573, 404, 405, 406, 407, 408, 409, 410, 772, 773, 774, 775, 776, 777, 778, 779, 780, 781, 782, 783, 784, 785, 786, 816, 817, 818, 819, 820, 821, 822, 823, 824, 825, 826] rfl gw_wsX5_triangleCount
set_option maxRecDepth 20000 in
theorem gL_law_X5_triangleCount : GoodIn wsL_law (wsV RL 97 RX5 yX5_triangleCount wsX5_triangleCount) := goodIn_app (goodIn_r _ [593, 594, 595, 2] rfl (by decide +kernel)) ggL_law_X5_triangleCount
theorem gw_wsX6_triangleCount : wsX6_triangleCount.all goodWord = true := by decide +kernel
set_option maxRecDepth 20000 in
theorem ggL_law_X6_triangleCount : GoodIn wsL_law wsX6_triangleCount := goodIn_r _ [600, 125, 601, 602, 603, 5, 604, 97, 578, 579, 580, 581, 582, 583, 584, 585, 432, 105, 106, 586, 107, 587, 588, 437, 438, 439, 440, 227, 228, 229, 433, 434, 435, 436, 589, 590, 591, 592, 787, 788, 789, 790, 791, 792, 793, 794, 795, 796, 797, 798, 799, 800, 801, 802, 803, 804, 805, 806, 807, 808, 809, 810, 811, 812, 813] rfl gw_wsX6_triangleCount
set_option maxRecDepth 20000 in
theorem gL_law_X6_triangleCount : GoodIn wsL_law (wsV RL 100 RX6 yX6_triangleCount wsX6_triangleCount) := goodIn_app (goodIn_r _ [597, 598, 599, 5] rfl (by decide +kernel)) ggL_law_X6_triangleCount
theorem gw_wsX5_conflicts : wsX5_conflicts.all goodWord = true := by decide +kernel
set_option maxRecDepth 20000 in
theorem ggL_law_X5_conflicts : GoodIn wsL_law wsX5_conflicts := goodIn_r _ [608, 20, 176, 24, 234, 235, 2, 236, 296, 297, 298, 567, 373, 374, 23, 375, 66, 376, 377, 378, 379, 215, 216, 19, 217, 58, 380, 381, 382, 383, 55, 56, 57, 384, 385, 386, 387, 388, 389, 390, 63, 64, 65, 568, 569, 570, 571, 572, 396, 397, 398, 67, 68, 69, 399, 400, 401, 402, 573, 404, 405, 406, 407, 408, 409, 410, 609, 610, 611, 612, 211, 212, 613, 614, 615, 772, 773, 774, 775, 776, 777, 778, 779, 780, 781, 782, 783, 784, 785, 786, 816, 817, 818, 819, 820, 821, 822, 823, 824, 825, 826] rfl gw_wsX5_conflicts
set_option maxRecDepth 20000 in
theorem gL_law_X5_conflicts : GoodIn wsL_law (wsV RL 101 RX5 yX5_conflicts wsX5_conflicts) := goodIn_app (goodIn_r _ [605, 606, 607, 2] rfl (by decide +kernel)) ggL_law_X5_conflicts
theorem gw_wsX6_conflicts : wsX6_conflicts.all goodWord = true := by decide +kernel
set_option maxRecDepth 20000 in
theorem ggL_law_X6_conflicts : GoodIn wsL_law wsX6_conflicts := goodIn_r _ [619, 125, 315, 249, 250, 5, 251, 252, 128, 129, 130, 601, 602, 603, 604, 97, 578, 579, 580, 581, 582, 583, 584, 585, 432, 105, 106, 586, 107, 587, 588, 437, 438, 439, 440, 227, 228, 229, 433, 434, 435, 436, 589, 590, 591, 592, 787, 788, 789, 790, 791, 792, 793, 794, 795, 796, 797, 798, 799, 800, 801, 802, 803, 804, 805, 806, 807, 808, 809, 810, 811, 812, 813] rfl gw_wsX6_conflicts
set_option maxRecDepth 20000 in
theorem gL_law_X6_conflicts : GoodIn wsL_law (wsV RL 104 RX6 yX6_conflicts wsX6_conflicts) := goodIn_app (goodIn_r _ [616, 617, 618, 5] rfl (by decide +kernel)) ggL_law_X6_conflicts
theorem gw_wsX5_alongSegment : wsX5_alongSegment.all goodWord = true := by decide +kernel
set_option maxRecDepth 20000 in
theorem ggL_law_X5_alongSegment : GoodIn wsL_law wsX5_alongSegment := goodIn_r _ [623, 20, 176, 24, 234, 235, 2, 236, 567, 373, 374, 23, 375, 66, 376, 377, 378, 379, 215, 216, 19, 217, 58, 380, 381, 382, 383, 55, 56, 57, 384, 385, 386, 387, 388, 389, 390, 63, 64, 65, 624, 625, 626, 627, 772, 773, 774, 775, 776, 777, 778, 779, 780, 781, 782, 783, 784, 785, 786, 816, 817, 818, 819, 820, 821, 822, 823, 824, 825, 826] rfl gw_wsX5_alongSegment
set_option maxRecDepth 20000 in
theorem gL_law_X5_alongSegment : GoodIn wsL_law (wsV RL 105 RX5 yX5_alongSegment wsX5_alongSegment) := goodIn_app (goodIn_r _ [620, 621, 622, 2] rfl (by decide +kernel)) ggL_law_X5_alongSegment
theorem gw_wsX6_alongSegment : wsX6_alongSegment.all goodWord = true := by decide +kernel
set_option maxRecDepth 20000 in
theorem ggL_law_X6_alongSegment : GoodIn wsL_law wsX6_alongSegment := goodIn_r _ [631, 125, 97, 249, 250, 5, 251, 252, 128, 129, 130, 632, 633, 634, 635, 432, 105, 106, 107, 428, 429, 430, 431, 433, 434, 435, 436, 437, 438, 439, 440, 227, 228, 229, 787, 788, 789, 790, 791, 792, 793, 794, 795, 796, 797, 798, 799, 800, 801, 802, 803, 804, 805, 806, 807, 808, 809, 810, 811, 812, 813] rfl gw_wsX6_alongSegment
set_option maxRecDepth 20000 in
theorem gL_law_X6_alongSegment : GoodIn wsL_law (wsV RL 109 RX6 yX6_alongSegment wsX6_alongSegment) := goodIn_app (goodIn_r _ [628, 629, 630, 5] rfl (by decide +kernel)) ggL_law_X6_alongSegment
theorem gw_wsX5_weightForSize : wsX5_weightForSize.all goodWord = true := by decide +kernel
set_option maxRecDepth 20000 in
theorem ggL_law_X5_weightForSize : GoodIn wsL_law wsX5_weightForSize := goodIn_r _ [639, 20, 44, 214, 215, 216, 19, 217, 58, 640, 641, 642, 2, 643, 644, 645, 646, 647, 648, 501, 305, 502, 241, 242, 243, 244, 55, 56, 268, 238, 239, 240, 57, 772, 773, 774, 775, 776, 777, 778, 779, 780, 781, 782, 783, 784, 785, 786, 816, 817, 818, 819] rfl gw_wsX5_weightForSize
set_option maxRecDepth 20000 in
theorem gL_law_X5_weightForSize : GoodIn wsL_law (wsV RL 110 RX5 yX5_weightForSize wsX5_weightForSize) := goodIn_app (goodIn_r _ [636, 637, 638, 2] rfl (by decide +kernel)) ggL_law_X5_weightForSize
theorem gw_wsX6_weightForSize : wsX6_weightForSize.all goodWord = true := by decide +kernel
set_option maxRecDepth 20000 in
theorem ggL_law_X6_weightForSize : GoodIn wsL_law wsX6_weightForSize := goodIn_r _ [652, 125, 653, 97, 98, 223, 224, 225, 5, 226, 128, 129, 130, 196, 197, 198, 289, 290, 291, 273, 274, 275, 253, 254, 255, 227, 228, 229, 787, 788, 789, 790, 791, 792, 793, 794, 795, 796, 797, 798, 799, 800, 801, 802, 803, 804, 805, 806, 807, 808, 809, 810, 811, 812, 813] rfl gw_wsX6_weightForSize
set_option maxRecDepth 20000 in
theorem gL_law_X6_weightForSize : GoodIn wsL_law (wsV RL 113 RX6 yX6_weightForSize wsX6_weightForSize) := goodIn_app (goodIn_r _ [649, 650, 651, 5] rfl (by decide +kernel)) ggL_law_X6_weightForSize
theorem gw_wsX5_observe : wsX5_observe.all goodWord = true := by decide +kernel
set_option maxRecDepth 20000 in
theorem ggL_law_X5_observe : GoodIn wsL_law wsX5_observe := goodIn_r _ [657, 43, 40, 41, 42, 234, 235, 2, 236, 772, 773, 774, 775, 776, 777, 778, 779, 780, 781, 782, 783, 784, 785, 786] rfl gw_wsX5_observe
set_option maxRecDepth 20000 in
theorem gL_law_X5_observe : GoodIn wsL_law (wsV RL 114 RX5 yX5_observe wsX5_observe) := goodIn_app (goodIn_r _ [654, 655, 656, 2] rfl (by decide +kernel)) ggL_law_X5_observe
theorem gw_wsX6_observe : wsX6_observe.all goodWord = true := by decide +kernel
set_option maxRecDepth 20000 in
theorem ggL_law_X6_observe : GoodIn wsL_law wsX6_observe := goodIn_r _ [661, 125, 662, 663, 102, 103, 104, 249, 250, 5, 251, 252, 128, 129, 130, 787, 788, 789, 790, 791, 792, 793, 794, 795, 796, 797, 798, 799, 800, 801, 802, 803, 804, 805, 806, 807, 808, 809, 810, 811, 812, 813] rfl gw_wsX6_observe
set_option maxRecDepth 20000 in
theorem gL_law_X6_observe : GoodIn wsL_law (wsV RL 117 RX6 yX6_observe wsX6_observe) := goodIn_app (goodIn_r _ [658, 659, 660, 5] rfl (by decide +kernel)) ggL_law_X6_observe
theorem gw_wsX5_clearObservations : wsX5_clearObservations.all goodWord = true := by decide +kernel
set_option maxRecDepth 20000 in
theorem ggL_law_X5_clearObservations : GoodIn wsL_law wsX5_clearObservations := goodIn_r _ [667, 43, 772, 773, 774, 775, 776, 777, 778, 779, 780, 781, 782, 783, 784, 785, 786] rfl gw_wsX5_clearObservations
set_option maxRecDepth 20000 in
theorem gL_law_X5_clearObservations : GoodIn wsL_law (wsV RL 118 RX5 yX5_clearObservations wsX5_clearObservations) := goodIn_app (goodIn_r _ [664, 665, 666, 2] rfl (by decide +kernel)) ggL_law_X5_clearObservations
theorem gw_wsX6_clearObservations : wsX6_clearObservations.all goodWord = true := by decide +kernel
set_option maxRecDepth 20000 in
theorem ggL_law_X6_clearObservations : GoodIn wsL_law wsX6_clearObservations := goodIn_r _ [671, 125, 663, 787, 788, 789, 790, 791, 792, 793, 794, 795, 796, 797, 798, 799, 800, 801, 802, 803, 804, 805, 806, 807, 808, 809, 810, 811, 812, 813] rfl gw_wsX6_clearObservations
set_option maxRecDepth 20000 in
theorem gL_law_X6_clearObservations : GoodIn wsL_law (wsV RL 121 RX6 yX6_clearObservations wsX6_clearObservations) := goodIn_app (goodIn_r _ [668, 669, 670, 5] rfl (by decide +kernel)) ggL_law_X6_clearObservations
theorem gw_wsX5_possibleWeights : wsX5_possibleWeights.all goodWord = true := by decide +kernel
set_option maxRecDepth 20000 in
theorem ggL_law_X5_possibleWeights : GoodIn wsL_law wsX5_possibleWeights := goodIn_r _ [675, 20, 676, 501, 305, 502, 214, 215, 216, 19, 217, 58, 677, 678, 679, 2, 680, 43, 42, 40, 41, 644, 645, 646, 647, 648, 241, 242, 243, 244, 55, 56, 268, 238, 239, 240, 57, 681, 682, 683, 684, 303, 304, 306, 685, 265, 266, 267, 772, 773, 774, 775, 776, 777, 778, 779, 780, 781, 782, 783, 784, 785, 786, 816, 817, 818, 819] rfl gw_wsX5_possibleWeights
set_option maxRecDepth 20000 in
theorem gL_law_X5_possibleWeights : GoodIn wsL_law (wsV RL 122 RX5 yX5_possibleWeights wsX5_possibleWeights) := goodIn_app (goodIn_r _ [672, 673, 674, 2] rfl (by decide +kernel)) ggL_law_X5_possibleWeights
theorem gw_wsX6_possibleWeights : wsX6_possibleWeights.all goodWord = true := by decide +kernel
set_option maxRecDepth 20000 in
theorem ggL_law_X6_possibleWeights : GoodIn wsL_law wsX6_possibleWeights := goodIn_r _ [689, 125, 222, 97, 98, 663, 102, 103, 104, 223, 224, 225, 5, 226, 128, 129, 130, 196, 197, 198, 273, 274, 275, 253, 254, 255, 227, 228, 229, 787, 788, 789, 790, 791, 792, 793, 794, 795, 796, 797, 798, 799, 800, 801, 802, 803, 804, 805, 806, 807, 808, 809, 810, 811, 812, 813] rfl gw_wsX6_possibleWeights
set_option maxRecDepth 20000 in
theorem gL_law_X6_possibleWeights : GoodIn wsL_law (wsV RL 125 RX6 yX6_possibleWeights wsX6_possibleWeights) := goodIn_app (goodIn_r _ [686, 687, 688, 5] rfl (by decide +kernel)) ggL_law_X6_possibleWeights
theorem gw_wsX5_runScript : wsX5_runScript.all goodWord = true := by decide +kernel
set_option maxRecDepth 20000 in
theorem ggL_law_X5_runScript : GoodIn wsL_law wsX5_runScript := goodIn_r _ [693, 32, 20, 694, 695, 696, 2, 697, 698, 699, 700, 31, 701, 85, 86, 702, 308, 19, 309, 55, 56, 57, 58, 703, 704, 705, 706, 83, 707, 708, 709, 710, 711, 215, 216, 217, 712, 325, 326, 327, 328, 713, 714, 715, 716, 717, 297, 298, 718, 529, 530, 27, 531, 532, 365, 366, 367, 74, 78, 368, 369, 370, 371, 372, 373, 374, 23, 375, 66, 376, 377, 378, 379, 380, 381, 382, 383, 384, 385, 386, 387, 388, 389, 390, 63, 64, 65, 391, 392, 393, 394, 395, 396, 397, 398, 67, 68, 69, 399, 400, 401, 402, 403, 404, 405, 406, 407, 408, 409, 410, 411, 412, 413, 414, 77, 75, 76, 533, 416, 417, 418, 719, 720, 721, 722, 723, 235, 236, 724, 261, 262, 263, 264, 265, 266, 267, 268, 238, 239, 240, 241, 242, 243, 244, 725, 281, 282, 283, 284, 772, 773, 774, 775, 776, 777, 778, 779, 780, 781, 782, 783, 784, 785, 786, 832, 833, 834, 816, 817, 818, 819, 827, 828, 829, 830, 831, 820, 821, 822, 823, 824, 825, 826] rfl gw_wsX5_runScript
set_option maxRecDepth 20000 in
theorem gL_law_X5_runScript : GoodIn wsL_law (wsV RL 128 RX5 yX5_runScript wsX5_runScript) := goodIn_app (goodIn_r _ [690, 691, 692, 2] rfl (by decide +kernel)) ggL_law_X5_runScript
theorem gw_wsX6_runScript : wsX6_runScript.all goodWord = true := by decide +kernel
set_option maxRecDepth 20000 in
theorem ggL_law_X6_runScript : GoodIn wsL_law wsX6_runScript := goodIn_r _ [729, 125, 730, 97, 98, 731, 732, 128, 129, 5, 130, 733, 734, 735, 196, 197, 198, 736, 737, 738, 739, 333, 334, 335, 538, 539, 540, 541, 423, 424, 425, 426, 427, 428, 429, 430, 431, 432, 433, 434, 435, 436, 105, 106, 107, 437, 438, 439, 440, 227, 228, 229, 441, 442, 443, 444, 445, 446, 447, 448, 109, 111, 110, 449, 450, 451, 452, 453, 454, 455, 456, 457, 458, 459, 460, 461, 462, 463, 464, 249, 250, 251, 252, 273, 274, 275, 253, 254, 255, 289, 290, 291, 787, 788, 789, 790, 791, 792, 793, 794, 795, 796, 797, 798, 799, 800, 801, 802, 803, 804, 805, 806, 807, 808, 809, 810, 811, 812, 813] rfl gw_wsX6_runScript
set_option maxRecDepth 20000 in
theorem gL_law_X6_runScript : GoodIn wsL_law (wsV RL 132 RX6 yX6_runScript wsX6_runScript) := goodIn_app (goodIn_r _ [726, 727, 728, 5] rfl (by decide +kernel)) ggL_law_X6_runScript
theorem gw_wsX5_sample : wsX5_sample.all goodWord = true := by decide +kernel
set_option maxRecDepth 20000 in
theorem ggL_law_X5_sample : GoodIn wsL_law wsX5_sample := goodIn_r _ [743, 20, 744, 745, 214, 215, 216, 19, 217, 58, 260, 261, 262, 263, 264, 265, 266, 267, 268, 238, 239, 240, 57, 241, 242, 243, 244, 55, 56, 772, 773, 774, 775, 776, 777, 778, 779, 780, 781, 782, 783, 784, 785, 786, 816, 817, 818, 819] rfl gw_wsX5_sample
set_option maxRecDepth 20000 in
theorem gL_law_X5_sample : GoodIn wsL_law (wsV RL 133 RX5 yX5_sample wsX5_sample) := goodIn_app (goodIn_r _ [740, 741, 742, 2] rfl (by decide +kernel)) ggL_law_X5_sample
theorem gw_wsX6_sample : wsX6_sample.all goodWord = true := by decide +kernel
set_option maxRecDepth 20000 in
theorem ggL_law_X6_sample : GoodIn wsL_law wsX6_sample := goodIn_r _ [749, 125, 750, 751, 752, 97, 223, 224, 225, 5, 226, 128, 129, 130, 273, 274, 275, 253, 254, 255, 227, 228, 229, 787, 788, 789, 790, 791, 792, 793, 794, 795, 796, 797, 798, 799, 800, 801, 802, 803, 804, 805, 806, 807, 808, 809, 810, 811, 812, 813] rfl gw_wsX6_sample
set_option maxRecDepth 20000 in
theorem gL_law_X6_sample : GoodIn wsL_law (wsV RL 137 RX6 yX6_sample wsX6_sample) := goodIn_app (goodIn_r _ [746, 747, 748, 5] rfl (by decide +kernel)) ggL_law_X6_sample
theorem gw_wsX5_save : wsX5_save.all goodWord = true := by decide +kernel
set_option maxRecDepth 20000 in
theorem ggL_law_X5_save : GoodIn wsL_law wsX5_save := goodIn_r _ [756, 20, 36, 38, 176, 757, 758, 2, 759, 307, 308, 19, 309, 55, 56, 57, 58, 772, 773, 774, 775, 776, 777, 778, 779, 780, 781, 782, 783, 784, 785, 786, 816, 817, 818, 819] rfl gw_wsX5_save
set_option maxRecDepth 20000 in
theorem gL_law_X5_save : GoodIn wsL_law (wsV RL 138 RX5 yX5_save wsX5_save) := goodIn_app (goodIn_r _ [753, 754, 755, 2] rfl (by decide +kernel)) ggL_law_X5_save
theorem gw_wsX6_save : wsX6_save.all goodWord = true := by decide +kernel
set_option maxRecDepth 20000 in
theorem ggL_law_X6_save : GoodIn wsL_law wsX6_save := goodIn_r _ [763, 125, 101, 100, 97, 128, 129, 5, 130, 787, 788, 789, 790, 791, 792, 793, 794, 795, 796, 797, 798, 799, 800, 801, 802, 803, 804, 805, 806, 807, 808, 809, 810, 811, 812, 813] rfl gw_wsX6_save
set_option maxRecDepth 20000 in
theorem gL_law_X6_save : GoodIn wsL_law (wsV RL 141 RX6 yX6_save wsX6_save) := goodIn_app (goodIn_r _ [760, 761, 762, 5] rfl (by decide +kernel)) ggL_law_X6_save
theorem gw_wsX5_restore : wsX5_restore.all goodWord = true := by decide +kernel
set_option maxRecDepth 20000 in
theorem ggL_law_X5_restore : GoodIn wsL_law wsX5_restore := goodIn_r _ [767, 38, 36, 20, 35, 176, 757, 758, 2, 759, 307, 308, 19, 309, 55, 56, 57, 58, 772, 773, 774, 775, 776, 777, 778, 779, 780, 781, 782, 783, 784, 785, 786, 816, 817, 818, 819] rfl gw_wsX5_restore
set_option maxRecDepth 20000 in
theorem gL_law_X5_restore : GoodIn wsL_law (wsV RL 142 RX5 yX5_restore wsX5_restore) := goodIn_app (goodIn_r _ [764, 765, 766, 2] rfl (by decide +kernel)) ggL_law_X5_restore
theorem gw_wsX6_restore : wsX6_restore.all goodWord = true := by decide +kernel
set_option maxRecDepth 20000 in
theorem ggL_law_X6_restore : GoodIn wsL_law wsX6_restore := goodIn_r _ [771, 125, 101, 97, 100, 194, 128, 129, 5, 130, 787, 788, 789, 790, 791, 792, 793, 794, 795, 796, 797, 798, 799, 800, 801, 802, 803, 804, 805, 806, 807, 808, 809, 810, 811, 812, 813] rfl gw_wsX6_restore
set_option maxRecDepth 20000 in
theorem gL_law_X6_restore : GoodIn wsL_law (wsV RL 145 RX6 yX6_restore wsX6_restore) := goodIn_app (goodIn_r _ [768, 769, 770, 5] rfl (by decide +kernel)) ggL_law_X6_restore
