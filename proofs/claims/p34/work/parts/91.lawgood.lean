theorem gw_wsX5_siteCount : wsX5_siteCount.all goodWord = true := by decide +kernel
set_option maxRecDepth 20000 in
theorem ggL_rejects_X5_siteCount : GoodIn wsL_rejects wsX5_siteCount := goodIn_r _ [7, 8, 9, 385, 386, 387, 388, 389, 390, 391, 392, 393, 394, 395, 396, 397, 398, 399, 400, 401, 402, 403] rfl gw_wsX5_siteCount
set_option maxRecDepth 20000 in
theorem gL_rejects_X5_siteCount : GoodIn wsL_rejects (wsV RL 9 RX5 yX5_siteCount wsX5_siteCount) := goodIn_app (goodIn_r _ [3, 4, 5, 6] rfl (by decide +kernel)) ggL_rejects_X5_siteCount
theorem gw_wsX5_append : wsX5_append.all goodWord = true := by decide +kernel
set_option maxRecDepth 20000 in
theorem ggL_rejects_X5_append : GoodIn wsL_rejects wsX5_append := goodIn_r _ [13, 14, 15, 16, 17, 18, 19, 20, 21, 22, 385, 386, 387, 388, 389, 390, 391, 392, 393, 394, 395, 396, 397, 398, 399, 404, 405] rfl gw_wsX5_append
set_option maxRecDepth 20000 in
theorem gL_rejects_X5_append : GoodIn wsL_rejects (wsV RL 15 RX5 yX5_append wsX5_append) := goodIn_app (goodIn_r _ [10, 11, 12, 6] rfl (by decide +kernel)) ggL_rejects_X5_append
theorem gw_wsX5_site : wsX5_site.all goodWord = true := by decide +kernel
set_option maxRecDepth 20000 in
theorem ggL_rejects_X5_site : GoodIn wsL_rejects wsX5_site := goodIn_r _ [26, 8, 27, 28, 29, 30, 31, 32, 33, 34, 35, 385, 386, 387, 388, 389, 390, 391, 392, 393, 394, 395, 396, 397, 398, 399, 400, 401, 402, 403] rfl gw_wsX5_site
set_option maxRecDepth 20000 in
theorem gL_rejects_X5_site : GoodIn wsL_rejects (wsV RL 21 RX5 yX5_site wsX5_site) := goodIn_app (goodIn_r _ [23, 24, 25, 6] rfl (by decide +kernel)) ggL_rejects_X5_site
theorem gw_wsX5_powerDistance : wsX5_powerDistance.all goodWord = true := by decide +kernel
set_option maxRecDepth 20000 in
theorem ggL_rejects_X5_powerDistance : GoodIn wsL_rejects wsX5_powerDistance := goodIn_r _ [39, 8, 30, 31, 32, 33, 34, 35, 40, 41, 6, 42, 43, 44, 45, 46, 47, 48, 49, 50, 51, 52, 53, 385, 386, 387, 388, 389, 390, 391, 392, 393, 394, 395, 396, 397, 398, 399, 400, 401, 402, 403] rfl gw_wsX5_powerDistance
set_option maxRecDepth 20000 in
theorem gL_rejects_X5_powerDistance : GoodIn wsL_rejects (wsV RL 25 RX5 yX5_powerDistance wsX5_powerDistance) := goodIn_app (goodIn_r _ [36, 37, 38, 6] rfl (by decide +kernel)) ggL_rejects_X5_powerDistance
theorem gw_wsX5_owner : wsX5_owner.all goodWord = true := by decide +kernel
set_option maxRecDepth 20000 in
theorem ggL_rejects_X5_owner : GoodIn wsL_rejects wsX5_owner := goodIn_r _ [57, 8, 40, 41, 6, 42, 58, 59, 60, 33, 61, 62, 63, 64, 65, 35, 66, 44, 45, 46, 47, 48, 49, 50, 51, 52, 53, 385, 386, 387, 388, 389, 390, 391, 392, 393, 394, 395, 396, 397, 398, 399, 400, 401, 402, 403] rfl gw_wsX5_owner
set_option maxRecDepth 20000 in
theorem gL_rejects_X5_owner : GoodIn wsL_rejects (wsV RL 29 RX5 yX5_owner wsX5_owner) := goodIn_app (goodIn_r _ [54, 55, 56, 6] rfl (by decide +kernel)) ggL_rejects_X5_owner
theorem gw_wsX5_size : wsX5_size.all goodWord = true := by decide +kernel
set_option maxRecDepth 20000 in
theorem ggL_rejects_X5_size : GoodIn wsL_rejects wsX5_size := goodIn_r _ [70, 8, 30, 31, 32, 33, 34, 35, 71, 72, 73, 74, 75, 59, 60, 61, 62, 63, 64, 65, 66, 44, 45, 46, 47, 48, 49, 50, 51, 52, 53, 385, 386, 387, 388, 389, 390, 391, 392, 393, 394, 395, 396, 397, 398, 399, 400, 401, 402, 403] rfl gw_wsX5_size
set_option maxRecDepth 20000 in
theorem gL_rejects_X5_size : GoodIn wsL_rejects (wsV RL 32 RX5 yX5_size wsX5_size) := goodIn_app (goodIn_r _ [67, 68, 69, 6] rfl (by decide +kernel)) ggL_rejects_X5_size
theorem gw_wsX5_add : wsX5_add.all goodWord = true := by decide +kernel
set_option maxRecDepth 20000 in
theorem ggL_rejects_X5_add : GoodIn wsL_rejects wsX5_add := goodIn_r _ [79, 8, 9, 40, 41, 6, 42, 80, 81, 82, 83, 84, 85, 86, 87, 88, 89, 90, 91, 92, 93, 94, 95, 33, 96, 52, 53, 47, 35, 97, 98, 99, 100, 385, 386, 387, 388, 389, 390, 391, 392, 393, 394, 395, 396, 397, 398, 399, 400, 401, 402, 403] rfl gw_wsX5_add
set_option maxRecDepth 20000 in
theorem gL_rejects_X5_add : GoodIn wsL_rejects (wsV RL 35 RX5 yX5_add wsX5_add) := goodIn_app (goodIn_r _ [76, 77, 78, 6] rfl (by decide +kernel)) ggL_rejects_X5_add
theorem gw_wsX5_remove : wsX5_remove.all goodWord = true := by decide +kernel
set_option maxRecDepth 20000 in
theorem ggL_rejects_X5_remove : GoodIn wsL_rejects wsX5_remove := goodIn_r _ [104, 8, 9, 30, 31, 32, 33, 34, 35, 83, 84, 85, 6, 86, 87, 88, 89, 90, 91, 92, 93, 94, 95, 96, 52, 53, 47, 105, 106, 107, 108, 109, 385, 386, 387, 388, 389, 390, 391, 392, 393, 394, 395, 396, 397, 398, 399, 400, 401, 402, 403] rfl gw_wsX5_remove
set_option maxRecDepth 20000 in
theorem gL_rejects_X5_remove : GoodIn wsL_rejects (wsV RL 38 RX5 yX5_remove wsX5_remove) := goodIn_app (goodIn_r _ [101, 102, 103, 6] rfl (by decide +kernel)) ggL_rejects_X5_remove
theorem gw_wsX5_move : wsX5_move.all goodWord = true := by decide +kernel
set_option maxRecDepth 20000 in
theorem ggL_rejects_X5_move : GoodIn wsL_rejects wsX5_move := goodIn_r _ [113, 8, 27, 28, 30, 31, 32, 33, 34, 35, 40, 41, 6, 42, 83, 84, 85, 86, 87, 88, 89, 90, 91, 92, 93, 94, 95, 96, 52, 53, 47, 385, 386, 387, 388, 389, 390, 391, 392, 393, 394, 395, 396, 397, 398, 399, 400, 401, 402, 403] rfl gw_wsX5_move
set_option maxRecDepth 20000 in
theorem gL_rejects_X5_move : GoodIn wsL_rejects (wsV RL 41 RX5 yX5_move wsX5_move) := goodIn_app (goodIn_r _ [110, 111, 112, 6] rfl (by decide +kernel)) ggL_rejects_X5_move
theorem gw_wsX5_setWeight : wsX5_setWeight.all goodWord = true := by decide +kernel
set_option maxRecDepth 20000 in
theorem ggL_rejects_X5_setWeight : GoodIn wsL_rejects wsX5_setWeight := goodIn_r _ [117, 8, 29, 30, 31, 32, 33, 34, 35, 80, 81, 6, 82, 83, 84, 85, 86, 87, 88, 89, 90, 91, 92, 93, 94, 95, 96, 52, 53, 47, 385, 386, 387, 388, 389, 390, 391, 392, 393, 394, 395, 396, 397, 398, 399, 400, 401, 402, 403] rfl gw_wsX5_setWeight
set_option maxRecDepth 20000 in
theorem gL_rejects_X5_setWeight : GoodIn wsL_rejects (wsV RL 44 RX5 yX5_setWeight wsX5_setWeight) := goodIn_app (goodIn_r _ [114, 115, 116, 6] rfl (by decide +kernel)) ggL_rejects_X5_setWeight
theorem gw_wsX5_cornerCount : wsX5_cornerCount.all goodWord = true := by decide +kernel
set_option maxRecDepth 20000 in
theorem ggL_rejects_X5_cornerCount : GoodIn wsL_rejects wsX5_cornerCount := goodIn_r _ [121, 8, 122, 30, 31, 32, 33, 34, 35, 123, 124, 125, 126, 127, 128, 129, 130, 131, 132, 133, 134, 135, 136, 137, 138, 139, 140, 141, 142, 143, 144, 145, 146, 147, 52, 53, 47, 148, 149, 150, 151, 152, 153, 154, 155, 156, 157, 158, 159, 160, 161, 162, 163, 164, 165, 166, 167, 168, 169, 170, 171, 172, 173, 174, 175, 176, 177, 178, 179, 180, 181, 182, 183, 184, 185, 186, 187, 188, 189, 190, 191, 385, 386, 387, 388, 389, 390, 391, 392, 393, 394, 395, 396, 397, 398, 399, 400, 401, 402, 403, 406, 407, 408, 409, 410, 411, 412, 413, 414, 415, 416, 417] rfl gw_wsX5_cornerCount
set_option maxRecDepth 20000 in
theorem gL_rejects_X5_cornerCount : GoodIn wsL_rejects (wsV RL 47 RX5 yX5_cornerCount wsX5_cornerCount) := goodIn_app (goodIn_r _ [118, 119, 120, 6] rfl (by decide +kernel)) ggL_rejects_X5_cornerCount
theorem gw_wsX5_cornerNumerator : wsX5_cornerNumerator.all goodWord = true := by decide +kernel
set_option maxRecDepth 20000 in
theorem ggL_rejects_X5_cornerNumerator : GoodIn wsL_rejects wsX5_cornerNumerator := goodIn_r _ [195, 122, 196, 197, 198, 6, 199, 8, 30, 31, 32, 33, 34, 35, 123, 124, 125, 126, 127, 128, 129, 130, 131, 132, 133, 134, 135, 136, 137, 138, 139, 140, 141, 142, 143, 144, 145, 146, 147, 52, 53, 47, 148, 149, 150, 151, 152, 153, 154, 155, 156, 157, 158, 159, 160, 161, 162, 163, 164, 165, 166, 167, 168, 169, 170, 171, 172, 173, 174, 175, 176, 177, 178, 179, 180, 181, 182, 183, 184, 185, 186, 187, 188, 189, 190, 191, 200, 201, 202, 203, 204, 205, 206, 207, 208, 209, 210, 211, 212, 213, 214, 215, 216, 217, 218, 219, 220, 221, 222, 223, 224, 225, 226, 227, 228, 92, 229, 230, 385, 386, 387, 388, 389, 390, 391, 392, 393, 394, 395, 396, 397, 398, 399, 400, 401, 402, 403, 406, 407, 408, 409, 410, 411, 412, 413, 414, 415, 416, 417] rfl gw_wsX5_cornerNumerator
set_option maxRecDepth 20000 in
theorem gL_rejects_X5_cornerNumerator : GoodIn wsL_rejects (wsV RL 50 RX5 yX5_cornerNumerator wsX5_cornerNumerator) := goodIn_app (goodIn_r _ [192, 193, 194, 6] rfl (by decide +kernel)) ggL_rejects_X5_cornerNumerator
theorem gw_wsX5_neighbours : wsX5_neighbours.all goodWord = true := by decide +kernel
set_option maxRecDepth 20000 in
theorem ggL_rejects_X5_neighbours : GoodIn wsL_rejects wsX5_neighbours := goodIn_r _ [234, 8, 122, 9, 30, 31, 32, 33, 34, 35, 235, 236, 237, 6, 238, 239, 240, 241, 126, 242, 243, 124, 125, 127, 128, 129, 130, 131, 132, 133, 134, 135, 136, 137, 138, 139, 140, 141, 142, 143, 144, 145, 146, 147, 52, 53, 47, 148, 149, 150, 151, 152, 153, 154, 155, 156, 157, 158, 159, 160, 161, 162, 163, 164, 165, 166, 167, 168, 169, 170, 171, 172, 173, 174, 175, 176, 177, 178, 179, 180, 181, 182, 183, 184, 185, 186, 187, 244, 189, 190, 191, 123, 245, 246, 247, 248, 249, 250, 251, 252, 385, 386, 387, 388, 389, 390, 391, 392, 393, 394, 395, 396, 397, 398, 399, 400, 401, 402, 403, 406, 407, 408, 409, 410, 411, 412, 413, 414, 415, 416, 417] rfl gw_wsX5_neighbours
set_option maxRecDepth 20000 in
theorem gL_rejects_X5_neighbours : GoodIn wsL_rejects (wsV RL 53 RX5 yX5_neighbours wsX5_neighbours) := goodIn_app (goodIn_r _ [231, 232, 233, 6] rfl (by decide +kernel)) ggL_rejects_X5_neighbours
theorem gw_wsX5_isTriangle : wsX5_isTriangle.all goodWord = true := by decide +kernel
set_option maxRecDepth 20000 in
theorem ggL_rejects_X5_isTriangle : GoodIn wsL_rejects wsX5_isTriangle := goodIn_r _ [256, 8, 257, 30, 31, 32, 33, 34, 35, 258, 135, 136, 137, 138, 139, 140, 141, 142, 143, 144, 145, 146, 147, 52, 53, 47, 148, 149, 150, 151, 152, 153, 154, 155, 156, 157, 259, 260, 261, 6, 262, 263, 163, 164, 165, 166, 167, 168, 169, 170, 171, 172, 264, 174, 175, 176, 177, 178, 179, 180, 385, 386, 387, 388, 389, 390, 391, 392, 393, 394, 395, 396, 397, 398, 399, 400, 401, 402, 403, 411, 412, 413, 414, 415, 416, 417] rfl gw_wsX5_isTriangle
set_option maxRecDepth 20000 in
theorem gL_rejects_X5_isTriangle : GoodIn wsL_rejects (wsV RL 56 RX5 yX5_isTriangle wsX5_isTriangle) := goodIn_app (goodIn_r _ [253, 254, 255, 6] rfl (by decide +kernel)) ggL_rejects_X5_isTriangle
theorem gw_wsX5_conflicts : wsX5_conflicts.all goodWord = true := by decide +kernel
set_option maxRecDepth 20000 in
theorem ggL_rejects_X5_conflicts : GoodIn wsL_rejects wsX5_conflicts := goodIn_r _ [268, 8, 9, 257, 40, 41, 6, 42, 80, 81, 82, 258, 135, 136, 137, 138, 139, 140, 141, 142, 143, 31, 32, 33, 34, 35, 144, 145, 146, 147, 52, 53, 47, 148, 149, 150, 151, 152, 153, 154, 155, 156, 157, 259, 260, 261, 262, 263, 163, 164, 165, 166, 167, 168, 169, 170, 171, 172, 264, 174, 175, 176, 177, 178, 179, 180, 269, 270, 271, 272, 27, 28, 273, 274, 275, 385, 386, 387, 388, 389, 390, 391, 392, 393, 394, 395, 396, 397, 398, 399, 400, 401, 402, 403, 411, 412, 413, 414, 415, 416, 417] rfl gw_wsX5_conflicts
set_option maxRecDepth 20000 in
theorem gL_rejects_X5_conflicts : GoodIn wsL_rejects (wsV RL 59 RX5 yX5_conflicts wsX5_conflicts) := goodIn_app (goodIn_r _ [265, 266, 267, 6] rfl (by decide +kernel)) ggL_rejects_X5_conflicts
theorem gw_wsX5_alongSegment : wsX5_alongSegment.all goodWord = true := by decide +kernel
set_option maxRecDepth 20000 in
theorem ggL_rejects_X5_alongSegment : GoodIn wsL_rejects wsX5_alongSegment := goodIn_r _ [279, 8, 9, 257, 40, 41, 6, 42, 258, 135, 136, 137, 138, 139, 140, 141, 142, 143, 31, 32, 33, 34, 35, 144, 145, 146, 147, 52, 53, 47, 148, 149, 150, 151, 152, 153, 154, 155, 156, 157, 280, 281, 282, 283, 385, 386, 387, 388, 389, 390, 391, 392, 393, 394, 395, 396, 397, 398, 399, 400, 401, 402, 403, 411, 412, 413, 414, 415, 416, 417] rfl gw_wsX5_alongSegment
set_option maxRecDepth 20000 in
theorem gL_rejects_X5_alongSegment : GoodIn wsL_rejects (wsV RL 62 RX5 yX5_alongSegment wsX5_alongSegment) := goodIn_app (goodIn_r _ [276, 277, 278, 6] rfl (by decide +kernel)) ggL_rejects_X5_alongSegment
theorem gw_wsX5_weightForSize : wsX5_weightForSize.all goodWord = true := by decide +kernel
set_option maxRecDepth 20000 in
theorem ggL_rejects_X5_weightForSize : GoodIn wsL_rejects wsX5_weightForSize := goodIn_r _ [287, 8, 288, 30, 31, 32, 33, 34, 35, 289, 290, 291, 6, 292, 293, 294, 295, 296, 297, 228, 92, 229, 48, 49, 50, 51, 52, 53, 66, 44, 45, 46, 47, 385, 386, 387, 388, 389, 390, 391, 392, 393, 394, 395, 396, 397, 398, 399, 400, 401, 402, 403] rfl gw_wsX5_weightForSize
set_option maxRecDepth 20000 in
theorem gL_rejects_X5_weightForSize : GoodIn wsL_rejects (wsV RL 66 RX5 yX5_weightForSize wsX5_weightForSize) := goodIn_app (goodIn_r _ [284, 285, 286, 6] rfl (by decide +kernel)) ggL_rejects_X5_weightForSize
theorem gw_wsX5_observe : wsX5_observe.all goodWord = true := by decide +kernel
set_option maxRecDepth 20000 in
theorem ggL_rejects_X5_observe : GoodIn wsL_rejects wsX5_observe := goodIn_r _ [301, 302, 303, 304, 305, 40, 41, 6, 42, 385, 386, 387, 388, 389, 390, 391, 392, 393, 394, 395, 396, 397, 398, 399] rfl gw_wsX5_observe
set_option maxRecDepth 20000 in
theorem gL_rejects_X5_observe : GoodIn wsL_rejects (wsV RL 69 RX5 yX5_observe wsX5_observe) := goodIn_app (goodIn_r _ [298, 299, 300, 6] rfl (by decide +kernel)) ggL_rejects_X5_observe
theorem gw_wsX5_possibleWeights : wsX5_possibleWeights.all goodWord = true := by decide +kernel
set_option maxRecDepth 20000 in
theorem ggL_rejects_X5_possibleWeights : GoodIn wsL_rejects wsX5_possibleWeights := goodIn_r _ [309, 8, 310, 228, 92, 229, 30, 31, 32, 33, 34, 35, 311, 312, 313, 6, 314, 302, 305, 303, 304, 293, 294, 295, 296, 297, 48, 49, 50, 51, 52, 53, 66, 44, 45, 46, 47, 315, 316, 317, 318, 90, 91, 93, 319, 63, 64, 65, 385, 386, 387, 388, 389, 390, 391, 392, 393, 394, 395, 396, 397, 398, 399, 400, 401, 402, 403] rfl gw_wsX5_possibleWeights
set_option maxRecDepth 20000 in
theorem gL_rejects_X5_possibleWeights : GoodIn wsL_rejects (wsV RL 72 RX5 yX5_possibleWeights wsX5_possibleWeights) := goodIn_app (goodIn_r _ [306, 307, 308, 6] rfl (by decide +kernel)) ggL_rejects_X5_possibleWeights
theorem gw_wsX5_runScript : wsX5_runScript.all goodWord = true := by decide +kernel
set_option maxRecDepth 20000 in
theorem ggL_rejects_X5_runScript : GoodIn wsL_rejects wsX5_runScript := goodIn_r _ [323, 324, 8, 325, 326, 327, 6, 328, 329, 330, 331, 332, 333, 334, 335, 336, 95, 33, 96, 52, 53, 47, 35, 337, 338, 339, 340, 341, 342, 343, 344, 345, 346, 31, 32, 34, 347, 106, 107, 108, 109, 348, 349, 350, 351, 352, 81, 82, 353, 240, 241, 126, 242, 243, 124, 125, 127, 128, 129, 130, 131, 132, 133, 134, 135, 136, 137, 138, 139, 140, 141, 142, 143, 144, 145, 146, 147, 148, 149, 150, 151, 152, 153, 154, 155, 156, 157, 158, 159, 160, 161, 162, 163, 164, 165, 166, 167, 168, 169, 170, 171, 172, 173, 174, 175, 176, 177, 178, 179, 180, 181, 182, 183, 184, 185, 186, 187, 244, 189, 190, 191, 354, 355, 356, 357, 358, 41, 42, 359, 59, 60, 61, 62, 63, 64, 65, 66, 44, 45, 46, 48, 49, 50, 51, 360, 72, 73, 74, 75, 385, 386, 387, 388, 389, 390, 391, 392, 393, 394, 395, 396, 397, 398, 399, 418, 419, 420, 400, 401, 402, 403, 406, 407, 408, 409, 410, 411, 412, 413, 414, 415, 416, 417] rfl gw_wsX5_runScript
set_option maxRecDepth 20000 in
theorem gL_rejects_X5_runScript : GoodIn wsL_rejects (wsV RL 75 RX5 yX5_runScript wsX5_runScript) := goodIn_app (goodIn_r _ [320, 321, 322, 6] rfl (by decide +kernel)) ggL_rejects_X5_runScript
theorem gw_wsX5_sample : wsX5_sample.all goodWord = true := by decide +kernel
set_option maxRecDepth 20000 in
theorem ggL_rejects_X5_sample : GoodIn wsL_rejects wsX5_sample := goodIn_r _ [364, 8, 365, 366, 30, 31, 32, 33, 34, 35, 58, 59, 60, 61, 62, 63, 64, 65, 66, 44, 45, 46, 47, 48, 49, 50, 51, 52, 53, 385, 386, 387, 388, 389, 390, 391, 392, 393, 394, 395, 396, 397, 398, 399, 400, 401, 402, 403] rfl gw_wsX5_sample
set_option maxRecDepth 20000 in
theorem gL_rejects_X5_sample : GoodIn wsL_rejects (wsV RL 83 RX5 yX5_sample wsX5_sample) := goodIn_app (goodIn_r _ [361, 362, 363, 6] rfl (by decide +kernel)) ggL_rejects_X5_sample
theorem gw_wsX5_save : wsX5_save.all goodWord = true := by decide +kernel
set_option maxRecDepth 20000 in
theorem ggL_rejects_X5_save : GoodIn wsL_rejects wsX5_save := goodIn_r _ [370, 8, 371, 372, 9, 373, 374, 6, 375, 94, 95, 33, 96, 52, 53, 47, 35, 385, 386, 387, 388, 389, 390, 391, 392, 393, 394, 395, 396, 397, 398, 399, 400, 401, 402, 403] rfl gw_wsX5_save
set_option maxRecDepth 20000 in
theorem gL_rejects_X5_save : GoodIn wsL_rejects (wsV RL 87 RX5 yX5_save wsX5_save) := goodIn_app (goodIn_r _ [367, 368, 369, 6] rfl (by decide +kernel)) ggL_rejects_X5_save
theorem gw_wsX5_restore : wsX5_restore.all goodWord = true := by decide +kernel
set_option maxRecDepth 20000 in
theorem ggL_rejects_X5_restore : GoodIn wsL_rejects wsX5_restore := goodIn_r _ [379, 372, 371, 8, 89, 9, 373, 374, 6, 375, 94, 95, 33, 96, 52, 53, 47, 35, 385, 386, 387, 388, 389, 390, 391, 392, 393, 394, 395, 396, 397, 398, 399, 400, 401, 402, 403] rfl gw_wsX5_restore
set_option maxRecDepth 20000 in
theorem gL_rejects_X5_restore : GoodIn wsL_rejects (wsV RL 90 RX5 yX5_restore wsX5_restore) := goodIn_app (goodIn_r _ [376, 377, 378, 6] rfl (by decide +kernel)) ggL_rejects_X5_restore
theorem gw_wsX5_cornerDenominator : wsX5_cornerDenominator.all goodWord = true := by decide +kernel
set_option maxRecDepth 20000 in
theorem ggL_rejects_X5_cornerDenominator : GoodIn wsL_rejects wsX5_cornerDenominator := goodIn_r _ [383, 122, 384, 196, 197, 198, 6, 199, 8, 30, 31, 32, 33, 34, 35, 123, 124, 125, 126, 127, 128, 129, 130, 131, 132, 133, 134, 135, 136, 137, 138, 139, 140, 141, 142, 143, 144, 145, 146, 147, 52, 53, 47, 148, 149, 150, 151, 152, 153, 154, 155, 156, 157, 158, 159, 160, 161, 162, 163, 164, 165, 166, 167, 168, 169, 170, 171, 172, 173, 174, 175, 176, 177, 178, 179, 180, 181, 182, 183, 184, 185, 186, 187, 188, 189, 190, 191, 200, 201, 202, 203, 204, 205, 206, 207, 208, 209, 210, 211, 212, 213, 214, 215, 216, 217, 218, 223, 224, 225, 226, 227, 228, 92, 229, 230, 220, 221, 222, 385, 386, 387, 388, 389, 390, 391, 392, 393, 394, 395, 396, 397, 398, 399, 406, 407, 408, 409, 410, 400, 401, 402, 403, 411, 412, 413, 414, 415, 416, 417] rfl gw_wsX5_cornerDenominator
set_option maxRecDepth 20000 in
theorem gL_rejects_X5_cornerDenominator : GoodIn wsL_rejects (wsV RL 93 RX5 yX5_cornerDenominator wsX5_cornerDenominator) := goodIn_app (goodIn_r _ [380, 381, 382, 6] rfl (by decide +kernel)) ggL_rejects_X5_cornerDenominator
set_option maxRecDepth 20000 in
theorem ggL_digits_X5_append : GoodIn wsL_digits wsX5_append := goodIn_r _ [5, 6, 7, 8, 9, 10, 11, 12, 13, 14, 15, 16, 17, 18, 19, 20, 21, 22, 23, 24, 25, 26, 27, 28, 29, 30, 31] rfl gw_wsX5_append
set_option maxRecDepth 20000 in
theorem gL_digits_X5_append : GoodIn wsL_digits (wsV RL 15 RX5 yX5_append wsX5_append) := goodIn_app (goodIn_r _ [1, 2, 3, 4] rfl (by decide +kernel)) ggL_digits_X5_append
theorem gw_wsX5_clearText : wsX5_clearText.all goodWord = true := by decide +kernel
set_option maxRecDepth 20000 in
theorem ggL_load_X5_clearText : GoodIn wsL_load wsX5_clearText := goodIn_r _ [7, 8, 9, 67, 68, 69, 70, 71, 72, 73, 74, 75, 76, 77, 78, 79, 80, 81, 82, 83] rfl gw_wsX5_clearText
set_option maxRecDepth 20000 in
theorem gL_load_X5_clearText : GoodIn wsL_load (wsV RL 96 RX5 yX5_clearText wsX5_clearText) := goodIn_app (goodIn_r _ [3, 4, 5, 6] rfl (by decide +kernel)) ggL_load_X5_clearText
set_option maxRecDepth 20000 in
theorem ggL_load_X5_append : GoodIn wsL_load wsX5_append := goodIn_r _ [13, 8, 9, 14, 15, 16, 17, 18, 19, 20, 67, 68, 69, 70, 71, 72, 73, 74, 75, 76, 77, 78, 79, 80, 81, 82, 83] rfl gw_wsX5_append
set_option maxRecDepth 20000 in
theorem gL_load_X5_append : GoodIn wsL_load (wsV RL 15 RX5 yX5_append wsX5_append) := goodIn_app (goodIn_r _ [10, 11, 12, 6] rfl (by decide +kernel)) ggL_load_X5_append
theorem gw_wsL_digits : wsL_digits.all goodWord = true := by decide +kernel
set_option maxRecDepth 20000 in
theorem ggL_load_L_digits : GoodIn wsL_load wsL_digits := goodIn_r _ [24, 10, 11, 12, 6, 13, 8, 9, 14, 15, 16, 17, 18, 19, 20, 67, 68, 69, 70, 71, 72, 73, 74, 75, 76, 77, 78, 79, 80, 81, 82, 83] rfl gw_wsL_digits
set_option maxRecDepth 20000 in
theorem gL_load_L_digits : GoodIn wsL_load (va_wsS RL 99 yL_digits wsL_digits) := goodIn_app (goodIn_r _ [21, 22, 23] rfl (by decide +kernel)) ggL_load_L_digits
theorem gw_wsX5_load : wsX5_load.all goodWord = true := by decide +kernel
set_option maxRecDepth 20000 in
theorem ggL_load_X5_load : GoodIn wsL_load wsX5_load := goodIn_r _ [28, 8, 29, 30, 31, 32, 33, 34, 35, 17, 36, 19, 37, 38, 39, 40, 20, 41, 42, 43, 44, 45, 46, 47, 48, 49, 50, 51, 52, 53, 54, 55, 56, 57, 58, 59, 60, 61, 62, 63, 64, 65, 66, 67, 68, 69, 70, 71, 72, 73, 74, 75, 76, 77, 78, 79, 80, 81, 84, 85, 86, 87, 82, 83] rfl gw_wsX5_load
set_option maxRecDepth 20000 in
theorem gL_load_X5_load : GoodIn wsL_load (wsV RL 104 RX5 yX5_load wsX5_load) := goodIn_app (goodIn_r _ [25, 26, 27, 6] rfl (by decide +kernel)) ggL_load_X5_load
set_option maxRecDepth 20000 in
theorem ggL_act_X5_siteCount : GoodIn wsL_act wsX5_siteCount := goodIn_r _ [5, 6, 7, 170, 171, 172, 173, 174, 175, 176, 177, 178, 179, 180, 181, 182, 183, 184, 185, 186, 187, 188] rfl gw_wsX5_siteCount
set_option maxRecDepth 20000 in
theorem gL_act_X5_siteCount : GoodIn wsL_act (wsV RL 9 RX5 yX5_siteCount wsX5_siteCount) := goodIn_app (goodIn_r _ [1, 2, 3, 4] rfl (by decide +kernel)) ggL_act_X5_siteCount
theorem gw_wsL_load : wsL_load.all goodWord = true := by decide +kernel
set_option maxRecDepth 20000 in
theorem ggL_act_L_load : GoodIn wsL_act wsL_load := goodIn_r _ [11, 12, 13, 14, 15, 16, 4, 17, 18, 19, 20, 21, 22, 23, 24, 25, 26, 27, 28, 29, 30, 31, 32, 10, 33, 34, 35, 36, 37, 6, 38, 39, 7, 40, 41, 42, 43, 44, 45, 46, 47, 48, 49, 50, 51, 52, 53, 54, 55, 56, 57, 58, 59, 60, 61, 62, 63, 64, 65, 66, 67, 68, 69, 70, 71, 72, 73, 170, 171, 172, 173, 174, 175, 176, 177, 178, 179, 180, 181, 182, 183, 184, 189, 190, 185, 186, 187, 188] rfl gw_wsL_load
set_option maxRecDepth 20000 in
theorem gL_act_L_load : GoodIn wsL_act (va_wsS RL 107 yL_load wsL_load) := goodIn_app (goodIn_r _ [8, 9, 10] rfl (by decide +kernel)) ggL_act_L_load
set_option maxRecDepth 20000 in
theorem ggL_act_X5_add : GoodIn wsL_act wsX5_add := goodIn_r _ [77, 6, 7, 78, 79, 4, 80, 81, 82, 83, 84, 85, 86, 87, 88, 89, 38, 90, 91, 92, 93, 94, 95, 68, 96, 71, 72, 73, 70, 97, 66, 67, 69, 170, 171, 172, 173, 174, 175, 176, 177, 178, 179, 180, 181, 182, 183, 184, 185, 186, 187, 188] rfl gw_wsX5_add
set_option maxRecDepth 20000 in
theorem gL_act_X5_add : GoodIn wsL_act (wsV RL 35 RX5 yX5_add wsX5_add) := goodIn_app (goodIn_r _ [74, 75, 76, 4] rfl (by decide +kernel)) ggL_act_X5_add
set_option maxRecDepth 20000 in
theorem ggL_act_X5_remove : GoodIn wsL_act wsX5_remove := goodIn_r _ [101, 6, 7, 102, 103, 104, 68, 105, 70, 84, 85, 86, 4, 87, 88, 89, 38, 90, 91, 92, 93, 94, 95, 96, 71, 72, 73, 106, 107, 108, 109, 110, 170, 171, 172, 173, 174, 175, 176, 177, 178, 179, 180, 181, 182, 183, 184, 185, 186, 187, 188] rfl gw_wsX5_remove
set_option maxRecDepth 20000 in
theorem gL_act_X5_remove : GoodIn wsL_act (wsV RL 38 RX5 yX5_remove wsX5_remove) := goodIn_app (goodIn_r _ [98, 99, 100, 4] rfl (by decide +kernel)) ggL_act_X5_remove
set_option maxRecDepth 20000 in
theorem ggL_act_X5_move : GoodIn wsL_act wsX5_move := goodIn_r _ [114, 6, 115, 116, 102, 103, 104, 68, 105, 70, 78, 79, 4, 80, 84, 85, 86, 87, 88, 89, 38, 90, 91, 92, 93, 94, 95, 96, 71, 72, 73, 170, 171, 172, 173, 174, 175, 176, 177, 178, 179, 180, 181, 182, 183, 184, 185, 186, 187, 188] rfl gw_wsX5_move
set_option maxRecDepth 20000 in
theorem gL_act_X5_move : GoodIn wsL_act (wsV RL 41 RX5 yX5_move wsX5_move) := goodIn_app (goodIn_r _ [111, 112, 113, 4] rfl (by decide +kernel)) ggL_act_X5_move
set_option maxRecDepth 20000 in
theorem ggL_act_X5_setWeight : GoodIn wsL_act wsX5_setWeight := goodIn_r _ [120, 6, 121, 102, 103, 104, 68, 105, 70, 81, 82, 4, 83, 84, 85, 86, 87, 88, 89, 38, 90, 91, 92, 93, 94, 95, 96, 71, 72, 73, 170, 171, 172, 173, 174, 175, 176, 177, 178, 179, 180, 181, 182, 183, 184, 185, 186, 187, 188] rfl gw_wsX5_setWeight
set_option maxRecDepth 20000 in
theorem gL_act_X5_setWeight : GoodIn wsL_act (wsV RL 44 RX5 yX5_setWeight wsX5_setWeight) := goodIn_app (goodIn_r _ [117, 118, 119, 4] rfl (by decide +kernel)) ggL_act_X5_setWeight
theorem gw_wsX5_clearObservations : wsX5_clearObservations.all goodWord = true := by decide +kernel
set_option maxRecDepth 20000 in
theorem ggL_act_X5_clearObservations : GoodIn wsL_act wsX5_clearObservations := goodIn_r _ [125, 126, 170, 171, 172, 173, 174, 175, 176, 177, 178, 179, 180, 181, 182, 183, 184] rfl gw_wsX5_clearObservations
set_option maxRecDepth 20000 in
theorem gL_act_X5_clearObservations : GoodIn wsL_act (wsV RL 109 RX5 yX5_clearObservations wsX5_clearObservations) := goodIn_app (goodIn_r _ [122, 123, 124, 4] rfl (by decide +kernel)) ggL_act_X5_clearObservations
set_option maxRecDepth 20000 in
theorem ggL_act_X5_owner : GoodIn wsL_act wsX5_owner := goodIn_r _ [130, 6, 78, 79, 4, 80, 131, 132, 133, 68, 134, 135, 136, 137, 138, 70, 139, 140, 141, 142, 73, 143, 144, 145, 146, 71, 72, 170, 171, 172, 173, 174, 175, 176, 177, 178, 179, 180, 181, 182, 183, 184, 185, 186, 187, 188] rfl gw_wsX5_owner
set_option maxRecDepth 20000 in
theorem gL_act_X5_owner : GoodIn wsL_act (wsV RL 29 RX5 yX5_owner wsX5_owner) := goodIn_app (goodIn_r _ [127, 128, 129, 4] rfl (by decide +kernel)) ggL_act_X5_owner
set_option maxRecDepth 20000 in
theorem ggL_act_X5_observe : GoodIn wsL_act wsX5_observe := goodIn_r _ [150, 126, 151, 152, 153, 78, 79, 4, 80, 170, 171, 172, 173, 174, 175, 176, 177, 178, 179, 180, 181, 182, 183, 184] rfl gw_wsX5_observe
set_option maxRecDepth 20000 in
theorem gL_act_X5_observe : GoodIn wsL_act (wsV RL 69 RX5 yX5_observe wsX5_observe) := goodIn_app (goodIn_r _ [147, 148, 149, 4] rfl (by decide +kernel)) ggL_act_X5_observe
set_option maxRecDepth 20000 in
theorem ggL_act_X5_save : GoodIn wsL_act wsX5_save := goodIn_r _ [157, 6, 158, 39, 7, 159, 160, 4, 161, 94, 95, 68, 96, 71, 72, 73, 70, 170, 171, 172, 173, 174, 175, 176, 177, 178, 179, 180, 181, 182, 183, 184, 185, 186, 187, 188] rfl gw_wsX5_save
set_option maxRecDepth 20000 in
theorem gL_act_X5_save : GoodIn wsL_act (wsV RL 87 RX5 yX5_save wsX5_save) := goodIn_app (goodIn_r _ [154, 155, 156, 4] rfl (by decide +kernel)) ggL_act_X5_save
set_option maxRecDepth 20000 in
theorem ggL_act_X5_restore : GoodIn wsL_act wsX5_restore := goodIn_r _ [165, 39, 158, 6, 38, 7, 159, 160, 4, 161, 94, 95, 68, 96, 71, 72, 73, 70, 170, 171, 172, 173, 174, 175, 176, 177, 178, 179, 180, 181, 182, 183, 184, 185, 186, 187, 188] rfl gw_wsX5_restore
set_option maxRecDepth 20000 in
theorem gL_act_X5_restore : GoodIn wsL_act (wsV RL 90 RX5 yX5_restore wsX5_restore) := goodIn_app (goodIn_r _ [162, 163, 164, 4] rfl (by decide +kernel)) ggL_act_X5_restore
theorem gw_wsX5_undo : wsX5_undo.all goodWord = true := by decide +kernel
set_option maxRecDepth 20000 in
theorem ggL_act_X5_undo : GoodIn wsL_act wsX5_undo := goodIn_r _ [169, 38, 89, 88, 6, 94, 95, 68, 96, 71, 72, 73, 70, 170, 171, 172, 173, 174, 175, 176, 177, 178, 179, 180, 181, 182, 183, 184, 185, 186, 187, 188] rfl gw_wsX5_undo
set_option maxRecDepth 20000 in
theorem gL_act_X5_undo : GoodIn wsL_act (wsV RL 112 RX5 yX5_undo wsX5_undo) := goodIn_app (goodIn_r _ [166, 167, 168, 4] rfl (by decide +kernel)) ggL_act_X5_undo
set_option maxRecDepth 20000 in
theorem ggL_state_X5_siteCount : GoodIn wsL_state wsX5_siteCount := goodIn_r _ [6, 7, 8, 22, 23, 24, 25, 26, 27, 28, 29, 30, 31, 32, 33, 34, 35, 36, 37, 38, 39, 40] rfl gw_wsX5_siteCount
set_option maxRecDepth 20000 in
theorem gL_state_X5_siteCount : GoodIn wsL_state (wsV RL 9 RX5 yX5_siteCount wsX5_siteCount) := goodIn_app (goodIn_r _ [2, 3, 4, 5] rfl (by decide +kernel)) ggL_state_X5_siteCount
set_option maxRecDepth 20000 in
theorem ggL_state_X5_site : GoodIn wsL_state wsX5_site := goodIn_r _ [12, 7, 13, 14, 15, 16, 17, 18, 19, 20, 21, 22, 23, 24, 25, 26, 27, 28, 29, 30, 31, 32, 33, 34, 35, 36, 37, 38, 39, 40] rfl gw_wsX5_site
set_option maxRecDepth 20000 in
theorem gL_state_X5_site : GoodIn wsL_state (wsV RL 21 RX5 yX5_site wsX5_site) := goodIn_app (goodIn_r _ [9, 10, 11, 5] rfl (by decide +kernel)) ggL_state_X5_site
theorem gw_wsL_state : wsL_state.all goodWord = true := by decide +kernel
set_option maxRecDepth 20000 in
theorem ggL_alike_L_state : GoodIn wsL_alike wsL_state := goodIn_r _ [6, 7, 8, 9, 10, 11, 12, 13, 14, 15, 16, 17, 18, 19, 20, 21, 22, 23, 24, 25, 26, 27, 290, 291, 292, 293, 294, 295, 296, 297, 298, 299, 300, 301, 302, 303, 304, 305, 306, 307, 308] rfl gw_wsL_state
set_option maxRecDepth 20000 in
theorem gL_alike_L_state : GoodIn wsL_alike (va_wsS RL 117 yL_state wsL_state) := goodIn_app (goodIn_r _ [3, 4, 5] rfl (by decide +kernel)) ggL_alike_L_state
theorem gw_wsX5_errorPosition : wsX5_errorPosition.all goodWord = true := by decide +kernel
set_option maxRecDepth 20000 in
theorem ggL_alike_X5_errorPosition : GoodIn wsL_alike wsX5_errorPosition := goodIn_r _ [31, 32, 33, 34, 35, 36, 37, 38, 39, 40, 41, 42, 43, 44, 45, 46, 47, 48, 49, 50, 51, 290, 291, 292, 293, 294, 295, 296, 297, 298, 299, 300, 301, 302, 303, 304, 309, 310] rfl gw_wsX5_errorPosition
set_option maxRecDepth 20000 in
theorem gL_alike_X5_errorPosition : GoodIn wsL_alike (wsV RL 121 RX5 yX5_errorPosition wsX5_errorPosition) := goodIn_app (goodIn_r _ [28, 29, 30, 11] rfl (by decide +kernel)) ggL_alike_X5_errorPosition
set_option maxRecDepth 20000 in
theorem ggL_alike_X5_hiddenSites : GoodIn wsL_alike wsX5_hiddenSites := goodIn_r _ [55, 13, 14, 56, 57, 58, 59, 60, 61, 62, 63, 64, 65, 66, 67, 68, 69, 70, 71, 72, 73, 74, 75, 76, 77, 78, 79, 80, 81, 23, 24, 25, 26, 27, 82, 83, 84, 85, 86, 87, 88, 89, 90, 91, 92, 93, 94, 95, 96, 97, 98, 99, 100, 101, 102, 103, 104, 105, 106, 107, 108, 109, 110, 111, 112, 113, 114, 115, 116, 117, 118, 119, 120, 121, 122, 123, 124, 125, 126, 127, 128, 129, 130, 131, 132, 290, 291, 292, 293, 294, 295, 296, 297, 298, 299, 300, 301, 302, 303, 304, 305, 306, 307, 308, 311, 312, 313, 314, 315, 316, 317, 318, 319, 320, 321, 322] rfl gw_wsX5_hiddenSites
set_option maxRecDepth 20000 in
theorem gL_alike_X5_hiddenSites : GoodIn wsL_alike (wsV RL 124 RX5 yX5_hiddenSites wsX5_hiddenSites) := goodIn_app (goodIn_r _ [52, 53, 54, 11] rfl (by decide +kernel)) ggL_alike_X5_hiddenSites
theorem gw_wsX5_triangleCount : wsX5_triangleCount.all goodWord = true := by decide +kernel
set_option maxRecDepth 20000 in
theorem ggL_alike_X5_triangleCount : GoodIn wsL_alike wsX5_triangleCount := goodIn_r _ [136, 13, 14, 137, 138, 73, 74, 75, 76, 77, 78, 79, 80, 81, 23, 24, 25, 26, 27, 82, 83, 84, 85, 86, 87, 88, 89, 90, 91, 92, 93, 94, 95, 96, 97, 98, 139, 140, 141, 11, 142, 143, 104, 105, 106, 107, 108, 109, 110, 111, 112, 113, 144, 115, 116, 117, 118, 119, 120, 121, 290, 291, 292, 293, 294, 295, 296, 297, 298, 299, 300, 301, 302, 303, 304, 305, 306, 307, 308, 316, 317, 318, 319, 320, 321, 322] rfl gw_wsX5_triangleCount
set_option maxRecDepth 20000 in
theorem gL_alike_X5_triangleCount : GoodIn wsL_alike (wsV RL 127 RX5 yX5_triangleCount wsX5_triangleCount) := goodIn_app (goodIn_r _ [133, 134, 135, 11] rfl (by decide +kernel)) ggL_alike_X5_triangleCount
set_option maxRecDepth 20000 in
theorem ggL_alike_X5_possibleWeights : GoodIn wsL_alike wsX5_possibleWeights := goodIn_r _ [148, 13, 149, 150, 151, 152, 22, 23, 24, 25, 26, 27, 153, 154, 155, 11, 156, 157, 158, 159, 160, 161, 162, 163, 164, 165, 166, 167, 168, 169, 86, 87, 170, 171, 172, 173, 88, 174, 175, 176, 177, 178, 179, 180, 181, 182, 183, 184, 290, 291, 292, 293, 294, 295, 296, 297, 298, 299, 300, 301, 302, 303, 304, 305, 306, 307, 308] rfl gw_wsX5_possibleWeights
set_option maxRecDepth 20000 in
theorem gL_alike_X5_possibleWeights : GoodIn wsL_alike (wsV RL 72 RX5 yX5_possibleWeights wsX5_possibleWeights) := goodIn_app (goodIn_r _ [145, 146, 147, 11] rfl (by decide +kernel)) ggL_alike_X5_possibleWeights
set_option maxRecDepth 20000 in
theorem ggL_alike_X5_weightForSize : GoodIn wsL_alike wsX5_weightForSize := goodIn_r _ [188, 13, 189, 22, 23, 24, 25, 26, 27, 190, 191, 192, 11, 193, 161, 162, 163, 164, 165, 150, 151, 152, 166, 167, 168, 169, 86, 87, 170, 171, 172, 173, 88, 290, 291, 292, 293, 294, 295, 296, 297, 298, 299, 300, 301, 302, 303, 304, 305, 306, 307, 308] rfl gw_wsX5_weightForSize
set_option maxRecDepth 20000 in
theorem gL_alike_X5_weightForSize : GoodIn wsL_alike (wsV RL 66 RX5 yX5_weightForSize wsX5_weightForSize) := goodIn_app (goodIn_r _ [185, 186, 187, 11] rfl (by decide +kernel)) ggL_alike_X5_weightForSize
set_option maxRecDepth 20000 in
theorem ggL_alike_X5_conflicts : GoodIn wsL_alike wsX5_conflicts := goodIn_r _ [197, 13, 14, 137, 198, 199, 11, 200, 201, 202, 203, 138, 73, 74, 75, 76, 77, 78, 79, 80, 81, 23, 24, 25, 26, 27, 82, 83, 84, 85, 86, 87, 88, 89, 90, 91, 92, 93, 94, 95, 96, 97, 98, 139, 140, 141, 142, 143, 104, 105, 106, 107, 108, 109, 110, 111, 112, 113, 144, 115, 116, 117, 118, 119, 120, 121, 204, 205, 206, 207, 19, 20, 208, 209, 210, 290, 291, 292, 293, 294, 295, 296, 297, 298, 299, 300, 301, 302, 303, 304, 305, 306, 307, 308, 316, 317, 318, 319, 320, 321, 322] rfl gw_wsX5_conflicts
set_option maxRecDepth 20000 in
theorem gL_alike_X5_conflicts : GoodIn wsL_alike (wsV RL 59 RX5 yX5_conflicts wsX5_conflicts) := goodIn_app (goodIn_r _ [194, 195, 196, 11] rfl (by decide +kernel)) ggL_alike_X5_conflicts
set_option maxRecDepth 20000 in
theorem ggL_alike_X5_runScript : GoodIn wsL_alike wsX5_runScript := goodIn_r _ [214, 215, 13, 216, 217, 218, 11, 219, 220, 221, 222, 223, 224, 225, 226, 227, 228, 25, 229, 86, 87, 88, 27, 230, 231, 232, 233, 234, 235, 236, 237, 238, 239, 23, 24, 26, 240, 241, 242, 243, 244, 245, 246, 247, 248, 249, 202, 203, 250, 58, 59, 60, 61, 62, 63, 64, 65, 66, 67, 68, 69, 70, 71, 72, 73, 74, 75, 76, 77, 78, 79, 80, 81, 82, 83, 84, 85, 89, 90, 91, 92, 93, 94, 95, 96, 97, 98, 99, 100, 101, 102, 103, 104, 105, 106, 107, 108, 109, 110, 111, 112, 113, 114, 115, 116, 117, 118, 119, 120, 121, 122, 123, 124, 125, 126, 127, 128, 129, 130, 131, 132, 251, 252, 253, 254, 255, 199, 200, 256, 257, 258, 259, 260, 182, 183, 184, 170, 171, 172, 173, 166, 167, 168, 169, 261, 262, 263, 264, 265, 290, 291, 292, 293, 294, 295, 296, 297, 298, 299, 300, 301, 302, 303, 304, 323, 324, 325, 305, 306, 307, 308, 311, 312, 313, 314, 315, 316, 317, 318, 319, 320, 321, 322] rfl gw_wsX5_runScript
set_option maxRecDepth 20000 in
theorem gL_alike_X5_runScript : GoodIn wsL_alike (wsV RL 75 RX5 yX5_runScript wsX5_runScript) := goodIn_app (goodIn_r _ [211, 212, 213, 11] rfl (by decide +kernel)) ggL_alike_X5_runScript
set_option maxRecDepth 20000 in
theorem ggL_alike_X5_cornerCount : GoodIn wsL_alike wsX5_cornerCount := goodIn_r _ [269, 13, 56, 22, 23, 24, 25, 26, 27, 270, 63, 64, 60, 65, 66, 67, 68, 69, 70, 71, 72, 73, 74, 75, 76, 77, 78, 79, 80, 81, 82, 83, 84, 85, 86, 87, 88, 89, 90, 91, 92, 93, 94, 95, 96, 97, 98, 99, 100, 101, 102, 103, 104, 105, 106, 107, 108, 109, 110, 111, 112, 113, 114, 115, 116, 117, 118, 119, 120, 121, 122, 123, 124, 125, 126, 127, 128, 271, 130, 131, 132, 290, 291, 292, 293, 294, 295, 296, 297, 298, 299, 300, 301, 302, 303, 304, 305, 306, 307, 308, 311, 312, 313, 314, 315, 316, 317, 318, 319, 320, 321, 322] rfl gw_wsX5_cornerCount
set_option maxRecDepth 20000 in
theorem gL_alike_X5_cornerCount : GoodIn wsL_alike (wsV RL 47 RX5 yX5_cornerCount wsX5_cornerCount) := goodIn_app (goodIn_r _ [266, 267, 268, 11] rfl (by decide +kernel)) ggL_alike_X5_cornerCount
set_option maxRecDepth 20000 in
theorem ggL_alike_X5_neighbours : GoodIn wsL_alike wsX5_neighbours := goodIn_r _ [275, 13, 56, 14, 22, 23, 24, 25, 26, 27, 276, 53, 54, 11, 55, 57, 58, 59, 60, 61, 62, 63, 64, 65, 66, 67, 68, 69, 70, 71, 72, 73, 74, 75, 76, 77, 78, 79, 80, 81, 82, 83, 84, 85, 86, 87, 88, 89, 90, 91, 92, 93, 94, 95, 96, 97, 98, 99, 100, 101, 102, 103, 104, 105, 106, 107, 108, 109, 110, 111, 112, 113, 114, 115, 116, 117, 118, 119, 120, 121, 122, 123, 124, 125, 126, 127, 128, 129, 130, 131, 132, 270, 277, 278, 279, 280, 281, 282, 283, 284, 290, 291, 292, 293, 294, 295, 296, 297, 298, 299, 300, 301, 302, 303, 304, 305, 306, 307, 308, 311, 312, 313, 314, 315, 316, 317, 318, 319, 320, 321, 322] rfl gw_wsX5_neighbours
set_option maxRecDepth 20000 in
theorem gL_alike_X5_neighbours : GoodIn wsL_alike (wsV RL 53 RX5 yX5_neighbours wsX5_neighbours) := goodIn_app (goodIn_r _ [272, 273, 274, 11] rfl (by decide +kernel)) ggL_alike_X5_neighbours
set_option maxRecDepth 20000 in
theorem ggL_alike_X5_size : GoodIn wsL_alike wsX5_size := goodIn_r _ [288, 13, 22, 23, 24, 25, 26, 27, 289, 262, 263, 264, 265, 257, 258, 259, 260, 182, 183, 184, 170, 171, 172, 173, 88, 166, 167, 168, 169, 86, 87, 290, 291, 292, 293, 294, 295, 296, 297, 298, 299, 300, 301, 302, 303, 304, 305, 306, 307, 308] rfl gw_wsX5_size
set_option maxRecDepth 20000 in
theorem gL_alike_X5_size : GoodIn wsL_alike (wsV RL 32 RX5 yX5_size wsX5_size) := goodIn_app (goodIn_r _ [285, 286, 287, 11] rfl (by decide +kernel)) ggL_alike_X5_size
set_option maxRecDepth 20000 in
theorem ggL_owners_X5_siteCount : GoodIn wsL_owners wsX5_siteCount := goodIn_r _ [8, 9, 10, 201, 202, 203, 204, 205, 206, 207, 208, 209, 210, 211, 212, 213, 214, 215, 216, 217, 218, 219] rfl gw_wsX5_siteCount
set_option maxRecDepth 20000 in
theorem gL_owners_X5_siteCount : GoodIn wsL_owners (wsV RL 9 RX5 yX5_siteCount wsX5_siteCount) := goodIn_app (goodIn_r _ [4, 5, 6, 7] rfl (by decide +kernel)) ggL_owners_X5_siteCount
set_option maxRecDepth 20000 in
theorem ggL_owners_X5_size : GoodIn wsL_owners wsX5_size := goodIn_r _ [14, 9, 15, 16, 17, 18, 19, 20, 21, 22, 23, 24, 25, 26, 27, 28, 29, 30, 31, 32, 33, 34, 35, 36, 37, 38, 39, 40, 41, 42, 43, 201, 202, 203, 204, 205, 206, 207, 208, 209, 210, 211, 212, 213, 214, 215, 216, 217, 218, 219] rfl gw_wsX5_size
set_option maxRecDepth 20000 in
theorem gL_owners_X5_size : GoodIn wsL_owners (wsV RL 32 RX5 yX5_size wsX5_size) := goodIn_app (goodIn_r _ [11, 12, 13, 7] rfl (by decide +kernel)) ggL_owners_X5_size
set_option maxRecDepth 20000 in
theorem ggL_owners_X5_sample : GoodIn wsL_owners wsX5_sample := goodIn_r _ [47, 9, 48, 49, 15, 16, 17, 18, 19, 20, 50, 26, 27, 28, 29, 30, 31, 32, 33, 34, 35, 36, 37, 38, 39, 40, 41, 42, 43, 201, 202, 203, 204, 205, 206, 207, 208, 209, 210, 211, 212, 213, 214, 215, 216, 217, 218, 219] rfl gw_wsX5_sample
set_option maxRecDepth 20000 in
theorem gL_owners_X5_sample : GoodIn wsL_owners (wsV RL 83 RX5 yX5_sample wsX5_sample) := goodIn_app (goodIn_r _ [44, 45, 46, 7] rfl (by decide +kernel)) ggL_owners_X5_sample
set_option maxRecDepth 20000 in
theorem ggL_owners_X5_site : GoodIn wsL_owners wsX5_site := goodIn_r _ [54, 9, 55, 56, 57, 15, 16, 17, 18, 19, 20, 201, 202, 203, 204, 205, 206, 207, 208, 209, 210, 211, 212, 213, 214, 215, 216, 217, 218, 219] rfl gw_wsX5_site
set_option maxRecDepth 20000 in
theorem gL_owners_X5_site : GoodIn wsL_owners (wsV RL 21 RX5 yX5_site wsX5_site) := goodIn_app (goodIn_r _ [51, 52, 53, 7] rfl (by decide +kernel)) ggL_owners_X5_site
set_option maxRecDepth 20000 in
theorem ggL_owners_X5_powerDistance : GoodIn wsL_owners wsX5_powerDistance := goodIn_r _ [61, 9, 15, 16, 17, 18, 19, 20, 62, 63, 7, 64, 65, 34, 35, 36, 37, 38, 39, 40, 41, 42, 43, 201, 202, 203, 204, 205, 206, 207, 208, 209, 210, 211, 212, 213, 214, 215, 216, 217, 218, 219] rfl gw_wsX5_powerDistance
set_option maxRecDepth 20000 in
theorem gL_owners_X5_powerDistance : GoodIn wsL_owners (wsV RL 25 RX5 yX5_powerDistance wsX5_powerDistance) := goodIn_app (goodIn_r _ [58, 59, 60, 7] rfl (by decide +kernel)) ggL_owners_X5_powerDistance
set_option maxRecDepth 20000 in
theorem ggL_owners_X5_owner : GoodIn wsL_owners wsX5_owner := goodIn_r _ [69, 9, 62, 63, 7, 64, 50, 26, 27, 18, 28, 29, 30, 31, 32, 20, 33, 34, 35, 36, 37, 38, 39, 40, 41, 42, 43, 201, 202, 203, 204, 205, 206, 207, 208, 209, 210, 211, 212, 213, 214, 215, 216, 217, 218, 219] rfl gw_wsX5_owner
set_option maxRecDepth 20000 in
theorem gL_owners_X5_owner : GoodIn wsL_owners (wsV RL 29 RX5 yX5_owner wsX5_owner) := goodIn_app (goodIn_r _ [66, 67, 68, 7] rfl (by decide +kernel)) ggL_owners_X5_owner
set_option maxRecDepth 20000 in
theorem ggL_owners_X5_alongSegment : GoodIn wsL_owners wsX5_alongSegment := goodIn_r _ [73, 9, 10, 74, 62, 63, 7, 64, 75, 76, 77, 78, 79, 80, 81, 82, 83, 84, 16, 17, 18, 19, 20, 85, 86, 87, 88, 42, 43, 37, 89, 90, 91, 92, 93, 94, 95, 96, 97, 98, 99, 100, 101, 102, 201, 202, 203, 204, 205, 206, 207, 208, 209, 210, 211, 212, 213, 214, 215, 216, 217, 218, 219, 220, 221, 222, 223, 224, 225, 226] rfl gw_wsX5_alongSegment
set_option maxRecDepth 20000 in
theorem gL_owners_X5_alongSegment : GoodIn wsL_owners (wsV RL 62 RX5 yX5_alongSegment wsX5_alongSegment) := goodIn_app (goodIn_r _ [70, 71, 72, 7] rfl (by decide +kernel)) ggL_owners_X5_alongSegment
set_option maxRecDepth 20000 in
theorem ggL_owners_X5_runScript : GoodIn wsL_owners wsX5_runScript := goodIn_r _ [106, 107, 9, 108, 109, 110, 7, 111, 112, 113, 114, 115, 116, 117, 118, 119, 120, 18, 121, 42, 43, 37, 20, 122, 123, 124, 125, 126, 127, 128, 129, 130, 131, 16, 17, 19, 132, 133, 134, 135, 136, 137, 138, 139, 140, 141, 142, 143, 144, 145, 146, 147, 148, 149, 150, 151, 152, 153, 154, 155, 156, 157, 158, 159, 76, 77, 78, 79, 80, 81, 82, 83, 84, 85, 86, 87, 88, 89, 90, 91, 92, 93, 94, 95, 96, 97, 98, 160, 161, 162, 163, 164, 165, 166, 167, 168, 169, 170, 171, 172, 173, 174, 175, 176, 177, 178, 179, 180, 181, 182, 183, 184, 185, 186, 187, 188, 189, 190, 191, 192, 193, 194, 195, 196, 197, 198, 63, 64, 199, 26, 27, 28, 29, 30, 31, 32, 33, 34, 35, 36, 38, 39, 40, 41, 200, 22, 23, 24, 25, 201, 202, 203, 204, 205, 206, 207, 208, 209, 210, 211, 212, 213, 214, 215, 227, 228, 229, 216, 217, 218, 219, 230, 231, 232, 233, 234, 220, 221, 222, 223, 224, 225, 226] rfl gw_wsX5_runScript
set_option maxRecDepth 20000 in
theorem gL_owners_X5_runScript : GoodIn wsL_owners (wsV RL 75 RX5 yX5_runScript wsX5_runScript) := goodIn_app (goodIn_r _ [103, 104, 105, 7] rfl (by decide +kernel)) ggL_owners_X5_runScript
set_option maxRecDepth 20000 in
theorem ggL_cells_X5_siteCount : GoodIn wsL_cells wsX5_siteCount := goodIn_r _ [7, 8, 9, 244, 245, 246, 247, 248, 249, 250, 251, 252, 253, 254, 255, 256, 257, 258, 259, 260, 261, 262] rfl gw_wsX5_siteCount
set_option maxRecDepth 20000 in
theorem gL_cells_X5_siteCount : GoodIn wsL_cells (wsV RL 9 RX5 yX5_siteCount wsX5_siteCount) := goodIn_app (goodIn_r _ [3, 4, 5, 6] rfl (by decide +kernel)) ggL_cells_X5_siteCount
set_option maxRecDepth 20000 in
theorem ggL_cells_X5_cornerCount : GoodIn wsL_cells wsX5_cornerCount := goodIn_r _ [13, 8, 14, 15, 16, 17, 18, 19, 20, 21, 22, 23, 24, 25, 26, 27, 28, 29, 30, 31, 32, 33, 34, 35, 36, 37, 38, 39, 40, 41, 42, 43, 44, 45, 46, 47, 48, 49, 50, 51, 52, 53, 54, 55, 56, 57, 58, 59, 60, 61, 62, 63, 64, 65, 66, 67, 68, 69, 70, 71, 72, 73, 74, 75, 76, 77, 78, 79, 80, 81, 82, 83, 84, 85, 86, 87, 88, 89, 90, 91, 92, 244, 245, 246, 247, 248, 249, 250, 251, 252, 253, 254, 255, 256, 257, 258, 259, 260, 261, 262, 263, 264, 265, 266, 267, 268, 269, 270, 271, 272, 273, 274] rfl gw_wsX5_cornerCount
set_option maxRecDepth 20000 in
theorem gL_cells_X5_cornerCount : GoodIn wsL_cells (wsV RL 47 RX5 yX5_cornerCount wsX5_cornerCount) := goodIn_app (goodIn_r _ [10, 11, 12, 6] rfl (by decide +kernel)) ggL_cells_X5_cornerCount
set_option maxRecDepth 20000 in
theorem ggL_cells_X5_neighbours : GoodIn wsL_cells wsX5_neighbours := goodIn_r _ [96, 8, 14, 9, 15, 16, 17, 18, 19, 20, 97, 98, 99, 6, 100, 101, 102, 103, 24, 104, 105, 22, 23, 25, 26, 27, 28, 29, 30, 31, 32, 33, 34, 35, 36, 37, 38, 39, 40, 41, 42, 43, 44, 45, 46, 47, 48, 49, 50, 51, 52, 53, 54, 55, 56, 57, 58, 59, 60, 61, 62, 63, 64, 65, 66, 67, 68, 69, 70, 71, 72, 73, 74, 75, 76, 77, 78, 79, 80, 81, 82, 83, 84, 85, 86, 87, 88, 106, 90, 91, 92, 21, 107, 108, 109, 110, 111, 112, 113, 114, 244, 245, 246, 247, 248, 249, 250, 251, 252, 253, 254, 255, 256, 257, 258, 259, 260, 261, 262, 263, 264, 265, 266, 267, 268, 269, 270, 271, 272, 273, 274] rfl gw_wsX5_neighbours
set_option maxRecDepth 20000 in
theorem gL_cells_X5_neighbours : GoodIn wsL_cells (wsV RL 53 RX5 yX5_neighbours wsX5_neighbours) := goodIn_app (goodIn_r _ [93, 94, 95, 6] rfl (by decide +kernel)) ggL_cells_X5_neighbours
set_option maxRecDepth 20000 in
theorem ggL_cells_X5_hiddenSites : GoodIn wsL_cells wsX5_hiddenSites := goodIn_r _ [100, 8, 9, 14, 101, 102, 103, 24, 104, 105, 22, 23, 25, 26, 27, 28, 29, 30, 31, 32, 33, 34, 35, 36, 37, 38, 39, 40, 41, 16, 17, 18, 19, 20, 42, 43, 44, 45, 46, 47, 48, 49, 50, 51, 52, 53, 54, 55, 56, 57, 58, 59, 60, 61, 62, 63, 64, 65, 66, 67, 68, 69, 70, 71, 72, 73, 74, 75, 76, 77, 78, 79, 80, 81, 82, 83, 84, 85, 86, 87, 88, 106, 90, 91, 92, 244, 245, 246, 247, 248, 249, 250, 251, 252, 253, 254, 255, 256, 257, 258, 259, 260, 261, 262, 263, 264, 265, 266, 267, 268, 269, 270, 271, 272, 273, 274] rfl gw_wsX5_hiddenSites
set_option maxRecDepth 20000 in
theorem gL_cells_X5_hiddenSites : GoodIn wsL_cells (wsV RL 124 RX5 yX5_hiddenSites wsX5_hiddenSites) := goodIn_app (goodIn_r _ [115, 98, 99, 6] rfl (by decide +kernel)) ggL_cells_X5_hiddenSites
set_option maxRecDepth 20000 in
theorem ggL_cells_X5_runScript : GoodIn wsL_cells wsX5_runScript := goodIn_r _ [119, 120, 8, 121, 122, 123, 6, 124, 125, 126, 127, 128, 129, 130, 131, 132, 133, 18, 134, 46, 47, 48, 20, 135, 136, 137, 138, 139, 140, 141, 142, 143, 144, 16, 17, 19, 145, 146, 147, 148, 149, 150, 151, 152, 153, 154, 155, 156, 157, 102, 103, 24, 104, 105, 22, 23, 25, 26, 27, 28, 29, 30, 31, 32, 33, 34, 35, 36, 37, 38, 39, 40, 41, 42, 43, 44, 45, 49, 50, 51, 52, 53, 54, 55, 56, 57, 58, 59, 60, 61, 62, 63, 64, 65, 66, 67, 68, 69, 70, 71, 72, 73, 74, 75, 76, 77, 78, 79, 80, 81, 82, 83, 84, 85, 86, 87, 88, 106, 90, 91, 92, 158, 159, 160, 161, 162, 163, 164, 165, 166, 167, 168, 169, 170, 171, 172, 173, 174, 175, 176, 177, 178, 179, 180, 181, 182, 183, 184, 185, 244, 245, 246, 247, 248, 249, 250, 251, 252, 253, 254, 255, 256, 257, 258, 275, 276, 277, 259, 260, 261, 262, 263, 264, 265, 266, 267, 268, 269, 270, 271, 272, 273, 274] rfl gw_wsX5_runScript
set_option maxRecDepth 20000 in
theorem gL_cells_X5_runScript : GoodIn wsL_cells (wsV RL 75 RX5 yX5_runScript wsX5_runScript) := goodIn_app (goodIn_r _ [116, 117, 118, 6] rfl (by decide +kernel)) ggL_cells_X5_runScript
set_option maxRecDepth 20000 in
theorem ggL_cells_X5_cornerNumerator : GoodIn wsL_cells wsX5_cornerNumerator := goodIn_r _ [189, 14, 190, 191, 192, 6, 193, 8, 15, 16, 17, 18, 19, 20, 21, 22, 23, 24, 25, 26, 27, 28, 29, 30, 31, 32, 33, 34, 35, 36, 37, 38, 39, 40, 41, 42, 43, 44, 45, 46, 47, 48, 49, 50, 51, 52, 53, 54, 55, 56, 57, 58, 59, 60, 61, 62, 63, 64, 65, 66, 67, 68, 69, 70, 71, 72, 73, 74, 75, 76, 77, 78, 79, 80, 81, 82, 83, 84, 85, 86, 87, 88, 89, 90, 91, 92, 194, 195, 196, 197, 198, 199, 200, 201, 202, 203, 204, 205, 206, 207, 208, 209, 210, 211, 212, 213, 214, 215, 216, 217, 218, 219, 220, 221, 222, 223, 224, 225, 244, 245, 246, 247, 248, 249, 250, 251, 252, 253, 254, 255, 256, 257, 258, 259, 260, 261, 262, 263, 264, 265, 266, 267, 268, 269, 270, 271, 272, 273, 274] rfl gw_wsX5_cornerNumerator
set_option maxRecDepth 20000 in
theorem gL_cells_X5_cornerNumerator : GoodIn wsL_cells (wsV RL 50 RX5 yX5_cornerNumerator wsX5_cornerNumerator) := goodIn_app (goodIn_r _ [186, 187, 188, 6] rfl (by decide +kernel)) ggL_cells_X5_cornerNumerator
set_option maxRecDepth 20000 in
theorem ggL_cells_X5_cornerDenominator : GoodIn wsL_cells wsX5_cornerDenominator := goodIn_r _ [229, 14, 230, 190, 191, 192, 6, 193, 8, 15, 16, 17, 18, 19, 20, 21, 22, 23, 24, 25, 26, 27, 28, 29, 30, 31, 32, 33, 34, 35, 36, 37, 38, 39, 40, 41, 42, 43, 44, 45, 46, 47, 48, 49, 50, 51, 52, 53, 54, 55, 56, 57, 58, 59, 60, 61, 62, 63, 64, 65, 66, 67, 68, 69, 70, 71, 72, 73, 74, 75, 76, 77, 78, 79, 80, 81, 82, 83, 84, 85, 86, 87, 88, 89, 90, 91, 92, 194, 195, 196, 197, 198, 199, 200, 201, 202, 203, 204, 205, 206, 207, 208, 209, 210, 211, 212, 217, 218, 219, 220, 221, 222, 223, 224, 225, 214, 215, 216, 244, 245, 246, 247, 248, 249, 250, 251, 252, 253, 254, 255, 256, 257, 258, 263, 264, 265, 266, 267, 259, 260, 261, 262, 268, 269, 270, 271, 272, 273, 274] rfl gw_wsX5_cornerDenominator
set_option maxRecDepth 20000 in
theorem gL_cells_X5_cornerDenominator : GoodIn wsL_cells (wsV RL 93 RX5 yX5_cornerDenominator wsX5_cornerDenominator) := goodIn_app (goodIn_r _ [226, 227, 228, 6] rfl (by decide +kernel)) ggL_cells_X5_cornerDenominator
set_option maxRecDepth 20000 in
theorem ggL_cells_X5_site : GoodIn wsL_cells wsX5_site := goodIn_r _ [234, 8, 235, 236, 237, 15, 16, 17, 18, 19, 20, 244, 245, 246, 247, 248, 249, 250, 251, 252, 253, 254, 255, 256, 257, 258, 259, 260, 261, 262] rfl gw_wsX5_site
set_option maxRecDepth 20000 in
theorem gL_cells_X5_site : GoodIn wsL_cells (wsV RL 21 RX5 yX5_site wsX5_site) := goodIn_app (goodIn_r _ [231, 232, 233, 6] rfl (by decide +kernel)) ggL_cells_X5_site
set_option maxRecDepth 20000 in
theorem ggL_cells_X5_powerDistance : GoodIn wsL_cells wsX5_powerDistance := goodIn_r _ [241, 8, 15, 16, 17, 18, 19, 20, 242, 163, 6, 164, 243, 174, 175, 176, 48, 177, 178, 179, 180, 46, 47, 244, 245, 246, 247, 248, 249, 250, 251, 252, 253, 254, 255, 256, 257, 258, 259, 260, 261, 262] rfl gw_wsX5_powerDistance
set_option maxRecDepth 20000 in
theorem gL_cells_X5_powerDistance : GoodIn wsL_cells (wsV RL 25 RX5 yX5_powerDistance wsX5_powerDistance) := goodIn_app (goodIn_r _ [238, 239, 240, 6] rfl (by decide +kernel)) ggL_cells_X5_powerDistance
set_option maxRecDepth 20000 in
theorem ggL_triangles_X5_siteCount : GoodIn wsL_triangles wsX5_siteCount := goodIn_r _ [5, 6, 7, 137, 138, 139, 140, 141, 142, 143, 144, 145, 146, 147, 148, 149, 150, 151, 152, 153, 154, 155] rfl gw_wsX5_siteCount
set_option maxRecDepth 20000 in
theorem gL_triangles_X5_siteCount : GoodIn wsL_triangles (wsV RL 9 RX5 yX5_siteCount wsX5_siteCount) := goodIn_app (goodIn_r _ [1, 2, 3, 4] rfl (by decide +kernel)) ggL_triangles_X5_siteCount
set_option maxRecDepth 20000 in
theorem ggL_triangles_L_state : GoodIn wsL_triangles wsL_state := goodIn_r _ [11, 12, 1, 2, 3, 4, 5, 6, 7, 13, 14, 15, 16, 17, 18, 19, 20, 21, 22, 23, 24, 25, 137, 138, 139, 140, 141, 142, 143, 144, 145, 146, 147, 148, 149, 150, 151, 152, 153, 154, 155] rfl gw_wsL_state
set_option maxRecDepth 20000 in
theorem gL_triangles_L_state : GoodIn wsL_triangles (va_wsS RL 117 yL_state wsL_state) := goodIn_app (goodIn_r _ [8, 9, 10] rfl (by decide +kernel)) ggL_triangles_L_state
set_option maxRecDepth 20000 in
theorem ggL_triangles_X5_isTriangle : GoodIn wsL_triangles wsX5_isTriangle := goodIn_r _ [29, 6, 30, 20, 21, 22, 23, 24, 25, 31, 32, 33, 34, 35, 36, 37, 38, 39, 40, 41, 42, 43, 44, 45, 46, 47, 48, 49, 50, 51, 52, 53, 54, 55, 56, 57, 58, 59, 60, 4, 61, 62, 63, 64, 65, 66, 67, 68, 69, 70, 71, 72, 73, 74, 75, 76, 77, 78, 79, 80, 137, 138, 139, 140, 141, 142, 143, 144, 145, 146, 147, 148, 149, 150, 151, 152, 153, 154, 155, 156, 157, 158, 159, 160, 161, 162] rfl gw_wsX5_isTriangle
set_option maxRecDepth 20000 in
theorem gL_triangles_X5_isTriangle : GoodIn wsL_triangles (wsV RL 56 RX5 yX5_isTriangle wsX5_isTriangle) := goodIn_app (goodIn_r _ [26, 27, 28, 4] rfl (by decide +kernel)) ggL_triangles_X5_isTriangle
set_option maxRecDepth 20000 in
theorem ggL_triangles_X5_triangleCount : GoodIn wsL_triangles wsX5_triangleCount := goodIn_r _ [84, 6, 7, 30, 31, 32, 33, 34, 35, 36, 37, 38, 39, 40, 21, 22, 23, 24, 25, 41, 42, 43, 44, 45, 46, 47, 48, 49, 50, 51, 52, 53, 54, 55, 56, 57, 58, 59, 60, 4, 61, 62, 63, 64, 65, 66, 67, 68, 69, 70, 71, 72, 73, 74, 75, 76, 77, 78, 79, 80, 137, 138, 139, 140, 141, 142, 143, 144, 145, 146, 147, 148, 149, 150, 151, 152, 153, 154, 155, 156, 157, 158, 159, 160, 161, 162] rfl gw_wsX5_triangleCount
set_option maxRecDepth 20000 in
theorem gL_triangles_X5_triangleCount : GoodIn wsL_triangles (wsV RL 127 RX5 yX5_triangleCount wsX5_triangleCount) := goodIn_app (goodIn_r _ [81, 82, 83, 4] rfl (by decide +kernel)) ggL_triangles_X5_triangleCount
set_option maxRecDepth 20000 in
theorem ggL_triangles_X5_conflicts : GoodIn wsL_triangles wsX5_conflicts := goodIn_r _ [88, 6, 7, 30, 89, 90, 4, 91, 92, 93, 94, 31, 32, 33, 34, 35, 36, 37, 38, 39, 40, 21, 22, 23, 24, 25, 41, 42, 43, 44, 45, 46, 47, 48, 49, 50, 51, 52, 53, 54, 55, 56, 57, 58, 59, 60, 61, 62, 63, 64, 65, 66, 67, 68, 69, 70, 71, 72, 73, 74, 75, 76, 77, 78, 79, 80, 95, 96, 97, 98, 17, 18, 99, 100, 101, 137, 138, 139, 140, 141, 142, 143, 144, 145, 146, 147, 148, 149, 150, 151, 152, 153, 154, 155, 156, 157, 158, 159, 160, 161, 162] rfl gw_wsX5_conflicts
set_option maxRecDepth 20000 in
theorem gL_triangles_X5_conflicts : GoodIn wsL_triangles (wsV RL 59 RX5 yX5_conflicts wsX5_conflicts) := goodIn_app (goodIn_r _ [85, 86, 87, 4] rfl (by decide +kernel)) ggL_triangles_X5_conflicts
set_option maxRecDepth 20000 in
theorem ggL_triangles_X5_add : GoodIn wsL_triangles wsX5_add := goodIn_r _ [105, 6, 7, 89, 90, 4, 91, 92, 93, 94, 106, 107, 108, 109, 110, 111, 112, 113, 114, 115, 116, 117, 118, 23, 119, 45, 46, 47, 25, 120, 121, 122, 123, 137, 138, 139, 140, 141, 142, 143, 144, 145, 146, 147, 148, 149, 150, 151, 152, 153, 154, 155] rfl gw_wsX5_add
set_option maxRecDepth 20000 in
theorem gL_triangles_X5_add : GoodIn wsL_triangles (wsV RL 35 RX5 yX5_add wsX5_add) := goodIn_app (goodIn_r _ [102, 103, 104, 4] rfl (by decide +kernel)) ggL_triangles_X5_add
set_option maxRecDepth 20000 in
theorem ggL_triangles_X5_remove : GoodIn wsL_triangles wsX5_remove := goodIn_r _ [127, 6, 7, 20, 21, 22, 23, 24, 25, 106, 107, 108, 4, 109, 110, 111, 112, 113, 114, 115, 116, 117, 118, 119, 45, 46, 47, 128, 129, 130, 131, 132, 137, 138, 139, 140, 141, 142, 143, 144, 145, 146, 147, 148, 149, 150, 151, 152, 153, 154, 155] rfl gw_wsX5_remove
set_option maxRecDepth 20000 in
theorem gL_triangles_X5_remove : GoodIn wsL_triangles (wsV RL 38 RX5 yX5_remove wsX5_remove) := goodIn_app (goodIn_r _ [124, 125, 126, 4] rfl (by decide +kernel)) ggL_triangles_X5_remove
set_option maxRecDepth 20000 in
theorem ggL_triangles_X5_undo : GoodIn wsL_triangles wsX5_undo := goodIn_r _ [136, 112, 111, 110, 6, 117, 118, 23, 119, 45, 46, 47, 25, 137, 138, 139, 140, 141, 142, 143, 144, 145, 146, 147, 148, 149, 150, 151, 152, 153, 154, 155] rfl gw_wsX5_undo
set_option maxRecDepth 20000 in
theorem gL_triangles_X5_undo : GoodIn wsL_triangles (wsV RL 112 RX5 yX5_undo wsX5_undo) := goodIn_app (goodIn_r _ [133, 134, 135, 4] rfl (by decide +kernel)) ggL_triangles_X5_undo
set_option maxRecDepth 20000 in
theorem ggL_weights_X5_siteCount : GoodIn wsL_weights wsX5_siteCount := goodIn_r _ [6, 7, 8, 246, 247, 248, 249, 250, 251, 252, 253, 254, 255, 256, 257, 258, 259, 260, 261, 262, 263, 264] rfl gw_wsX5_siteCount
set_option maxRecDepth 20000 in
theorem gL_weights_X5_siteCount : GoodIn wsL_weights (wsV RL 9 RX5 yX5_siteCount wsX5_siteCount) := goodIn_app (goodIn_r _ [2, 3, 4, 5] rfl (by decide +kernel)) ggL_weights_X5_siteCount
set_option maxRecDepth 20000 in
theorem ggL_weights_L_state : GoodIn wsL_weights wsL_state := goodIn_r _ [12, 13, 2, 3, 4, 5, 6, 7, 8, 14, 15, 16, 17, 18, 19, 20, 21, 22, 23, 24, 25, 26, 246, 247, 248, 249, 250, 251, 252, 253, 254, 255, 256, 257, 258, 259, 260, 261, 262, 263, 264] rfl gw_wsL_state
set_option maxRecDepth 20000 in
theorem gL_weights_L_state : GoodIn wsL_weights (va_wsS RL 117 yL_state wsL_state) := goodIn_app (goodIn_r _ [9, 10, 11] rfl (by decide +kernel)) ggL_weights_L_state
set_option maxRecDepth 20000 in
theorem ggL_weights_X5_weightForSize : GoodIn wsL_weights wsX5_weightForSize := goodIn_r _ [30, 7, 31, 21, 22, 23, 24, 25, 26, 32, 33, 34, 5, 35, 36, 37, 38, 39, 40, 41, 42, 43, 44, 45, 46, 47, 48, 49, 50, 51, 52, 53, 54, 246, 247, 248, 249, 250, 251, 252, 253, 254, 255, 256, 257, 258, 259, 260, 261, 262, 263, 264] rfl gw_wsX5_weightForSize
set_option maxRecDepth 20000 in
theorem gL_weights_X5_weightForSize : GoodIn wsL_weights (wsV RL 66 RX5 yX5_weightForSize wsX5_weightForSize) := goodIn_app (goodIn_r _ [27, 28, 29, 5] rfl (by decide +kernel)) ggL_weights_X5_weightForSize
set_option maxRecDepth 20000 in
theorem ggL_weights_X5_setWeight : GoodIn wsL_weights wsX5_setWeight := goodIn_r _ [58, 7, 20, 21, 22, 23, 24, 25, 26, 59, 60, 5, 61, 62, 63, 64, 65, 66, 67, 68, 69, 70, 42, 71, 72, 73, 74, 48, 49, 54, 246, 247, 248, 249, 250, 251, 252, 253, 254, 255, 256, 257, 258, 259, 260, 261, 262, 263, 264] rfl gw_wsX5_setWeight
set_option maxRecDepth 20000 in
theorem gL_weights_X5_setWeight : GoodIn wsL_weights (wsV RL 44 RX5 yX5_setWeight wsX5_setWeight) := goodIn_app (goodIn_r _ [55, 56, 57, 5] rfl (by decide +kernel)) ggL_weights_X5_setWeight
set_option maxRecDepth 20000 in
theorem ggL_weights_X5_size : GoodIn wsL_weights wsX5_size := goodIn_r _ [78, 7, 21, 22, 23, 24, 25, 26, 79, 80, 81, 82, 83, 84, 85, 86, 87, 88, 89, 90, 50, 51, 52, 53, 54, 44, 45, 46, 47, 48, 49, 246, 247, 248, 249, 250, 251, 252, 253, 254, 255, 256, 257, 258, 259, 260, 261, 262, 263, 264] rfl gw_wsX5_size
set_option maxRecDepth 20000 in
theorem gL_weights_X5_size : GoodIn wsL_weights (wsV RL 32 RX5 yX5_size wsX5_size) := goodIn_app (goodIn_r _ [75, 76, 77, 5] rfl (by decide +kernel)) ggL_weights_X5_size
set_option maxRecDepth 20000 in
theorem ggL_weights_X5_undo : GoodIn wsL_weights wsX5_undo := goodIn_r _ [94, 68, 67, 66, 7, 72, 73, 24, 74, 48, 49, 54, 26, 246, 247, 248, 249, 250, 251, 252, 253, 254, 255, 256, 257, 258, 259, 260, 261, 262, 263, 264] rfl gw_wsX5_undo
set_option maxRecDepth 20000 in
theorem gL_weights_X5_undo : GoodIn wsL_weights (wsV RL 112 RX5 yX5_undo wsX5_undo) := goodIn_app (goodIn_r _ [91, 92, 93, 5] rfl (by decide +kernel)) ggL_weights_X5_undo
set_option maxRecDepth 20000 in
theorem ggL_weights_X5_runScript : GoodIn wsL_weights wsX5_runScript := goodIn_r _ [98, 99, 7, 100, 101, 102, 5, 103, 104, 105, 106, 107, 108, 109, 110, 111, 73, 24, 74, 48, 49, 54, 26, 112, 113, 114, 115, 116, 117, 118, 119, 120, 121, 22, 23, 25, 122, 123, 124, 125, 126, 127, 128, 129, 130, 131, 60, 61, 132, 133, 134, 135, 136, 137, 138, 139, 140, 141, 142, 143, 144, 145, 146, 147, 148, 149, 150, 151, 152, 153, 154, 155, 156, 157, 158, 159, 160, 161, 162, 163, 164, 165, 166, 167, 168, 169, 170, 171, 172, 173, 174, 175, 176, 177, 178, 179, 180, 181, 182, 183, 184, 185, 186, 187, 188, 189, 190, 191, 192, 193, 194, 195, 196, 197, 198, 199, 200, 201, 202, 203, 204, 205, 206, 207, 208, 209, 210, 211, 212, 84, 85, 86, 87, 88, 89, 90, 50, 51, 52, 53, 44, 45, 46, 47, 213, 80, 81, 82, 83, 246, 247, 248, 249, 250, 251, 252, 253, 254, 255, 256, 257, 258, 259, 260, 265, 266, 267, 261, 262, 263, 264, 268, 269, 270, 271, 272, 273, 274, 275, 276, 277, 278, 279] rfl gw_wsX5_runScript
set_option maxRecDepth 20000 in
theorem gL_weights_X5_runScript : GoodIn wsL_weights (wsV RL 75 RX5 yX5_runScript wsX5_runScript) := goodIn_app (goodIn_r _ [95, 96, 97, 5] rfl (by decide +kernel)) ggL_weights_X5_runScript
set_option maxRecDepth 20000 in
theorem ggL_weights_X5_possibleWeights : GoodIn wsL_weights wsX5_possibleWeights := goodIn_r _ [217, 7, 218, 41, 42, 43, 21, 22, 23, 24, 25, 26, 219, 220, 221, 5, 222, 223, 224, 225, 226, 36, 37, 38, 39, 40, 44, 45, 46, 47, 48, 49, 50, 51, 52, 53, 54, 227, 228, 229, 230, 69, 70, 71, 231, 88, 89, 90, 246, 247, 248, 249, 250, 251, 252, 253, 254, 255, 256, 257, 258, 259, 260, 261, 262, 263, 264] rfl gw_wsX5_possibleWeights
set_option maxRecDepth 20000 in
theorem gL_weights_X5_possibleWeights : GoodIn wsL_weights (wsV RL 72 RX5 yX5_possibleWeights wsX5_possibleWeights) := goodIn_app (goodIn_r _ [214, 215, 216, 5] rfl (by decide +kernel)) ggL_weights_X5_possibleWeights
set_option maxRecDepth 20000 in
theorem ggL_weights_X5_clearObservations : GoodIn wsL_weights wsX5_clearObservations := goodIn_r _ [235, 223, 246, 247, 248, 249, 250, 251, 252, 253, 254, 255, 256, 257, 258, 259, 260] rfl gw_wsX5_clearObservations
set_option maxRecDepth 20000 in
theorem gL_weights_X5_clearObservations : GoodIn wsL_weights (wsV RL 109 RX5 yX5_clearObservations wsX5_clearObservations) := goodIn_app (goodIn_r _ [232, 233, 234, 5] rfl (by decide +kernel)) ggL_weights_X5_clearObservations
set_option maxRecDepth 20000 in
theorem ggL_weights_X5_owner : GoodIn wsL_weights wsX5_owner := goodIn_r _ [239, 7, 240, 210, 5, 211, 241, 84, 85, 24, 86, 87, 88, 89, 90, 26, 50, 51, 52, 53, 54, 44, 45, 46, 47, 48, 49, 246, 247, 248, 249, 250, 251, 252, 253, 254, 255, 256, 257, 258, 259, 260, 261, 262, 263, 264] rfl gw_wsX5_owner
set_option maxRecDepth 20000 in
theorem gL_weights_X5_owner : GoodIn wsL_weights (wsV RL 29 RX5 yX5_owner wsX5_owner) := goodIn_app (goodIn_r _ [236, 237, 238, 5] rfl (by decide +kernel)) ggL_weights_X5_owner
set_option maxRecDepth 20000 in
theorem ggL_weights_X5_observe : GoodIn wsL_weights wsX5_observe := goodIn_r _ [245, 223, 225, 226, 224, 240, 210, 5, 211, 246, 247, 248, 249, 250, 251, 252, 253, 254, 255, 256, 257, 258, 259, 260] rfl gw_wsX5_observe
set_option maxRecDepth 20000 in
theorem gL_weights_X5_observe : GoodIn wsL_weights (wsV RL 69 RX5 yX5_observe wsX5_observe) := goodIn_app (goodIn_r _ [242, 243, 244, 5] rfl (by decide +kernel)) ggL_weights_X5_observe
set_option maxRecDepth 20000 in
theorem ggL_weights_X5_site : GoodIn wsL_weights wsX5_site := goodIn_r _ [17, 7, 18, 19, 20, 21, 22, 23, 24, 25, 26, 246, 247, 248, 249, 250, 251, 252, 253, 254, 255, 256, 257, 258, 259, 260, 261, 262, 263, 264] rfl gw_wsX5_site
set_option maxRecDepth 20000 in
theorem gL_weights_X5_site : GoodIn wsL_weights (wsV RL 21 RX5 yX5_site wsX5_site) := goodIn_app (goodIn_r _ [14, 15, 16, 5] rfl (by decide +kernel)) ggL_weights_X5_site
theorem gw_wsX5_init : wsX5_init.all goodWord = true := by decide +kernel
set_option maxRecDepth 20000 in
theorem ggL_law_X5_init : GoodIn wsL_law wsX5_init := goodIn_r _ [5, 6, 7, 8, 9, 10, 11, 12, 13, 14, 15, 16, 17, 18, 19, 20, 21, 22, 23, 24, 25, 26, 27, 28, 29, 30, 31, 32, 33, 34, 35, 36, 37, 38, 39, 40, 41, 42, 43, 44, 45, 46, 47, 48, 49, 50, 51, 52, 53, 54, 55, 56, 57, 58, 59, 60, 61, 62, 63, 64, 65, 66, 67, 68, 69, 70, 71, 72, 73, 74, 75, 76, 77, 78, 79, 80, 81, 82, 83, 84, 85, 2, 86, 540, 541, 525, 526, 527, 528, 529, 530, 531, 532, 533, 534, 535, 536, 537, 538, 539, 542, 543, 544, 545, 546, 547, 548, 549, 550, 551, 552, 553, 554, 555, 556, 557, 558, 559, 560] rfl gw_wsX5_init
set_option maxRecDepth 20000 in
theorem gL_law_X5_init : GoodIn wsL_law (wsX5_init) := ggL_law_X5_init
theorem gw_wsL_rejects : wsL_rejects.all goodWord = true := by decide +kernel
set_option maxRecDepth 20000 in
theorem ggL_law_L_rejects : GoodIn wsL_law wsL_rejects := goodIn_r _ [90, 91, 92, 93, 94, 95, 2, 96, 16, 97, 98, 99, 100, 101, 12, 102, 103, 104, 105, 11, 106, 46, 45, 107, 108, 109, 110, 111, 112, 113, 114, 115, 116, 15, 117, 54, 118, 119, 120, 121, 122, 123, 124, 125, 126, 127, 128, 53, 129, 130, 131, 132, 51, 52, 133, 134, 135, 136, 137, 138, 139, 140, 141, 142, 143, 144, 145, 146, 147, 148, 149, 150, 151, 152, 153, 154, 155, 156, 157, 158, 159, 160, 161, 162, 163, 164, 165, 30, 29, 31, 166, 167, 168, 169, 170, 171, 172, 173, 174, 175, 176, 177, 178, 179, 180, 181, 182, 183, 184, 185, 186, 187, 188, 189, 190, 191, 192, 193, 194, 195, 196, 197, 24, 198, 199, 200, 23, 201, 70, 74, 202, 203, 204, 205, 206, 207, 208, 19, 209, 62, 210, 211, 212, 213, 214, 215, 216, 217, 218, 219, 220, 221, 222, 223, 224, 59, 60, 61, 225, 226, 227, 228, 229, 230, 231, 232, 63, 64, 65, 233, 234, 235, 236, 237, 238, 239, 240, 241, 242, 243, 244, 245, 246, 247, 248, 73, 71, 72, 249, 250, 251, 252, 253, 254, 255, 256, 257, 258, 259, 260, 261, 262, 263, 264, 265, 266, 267, 268, 269, 270, 271, 272, 273, 274, 275, 276, 277, 278, 279, 280, 281, 282, 283, 284, 285, 286, 287, 288, 289, 290, 291, 292, 293, 294, 295, 296, 297, 298, 299, 300, 301, 302, 303, 304, 305, 306, 307, 308, 309, 310, 311, 312, 313, 314, 315, 316, 317, 20, 318, 319, 320, 321, 322, 323, 324, 325, 326, 327, 328, 329, 330, 331, 332, 333, 334, 335, 336, 337, 338, 339, 340, 341, 342, 343, 344, 345, 346, 347, 40, 348, 349, 350, 351, 352, 353, 354, 355, 356, 357, 358, 359, 360, 39, 36, 37, 38, 361, 362, 363, 364, 365, 366, 367, 368, 369, 370, 371, 372, 373, 374, 375, 376, 377, 378, 28, 379, 380, 381, 382, 383, 384, 385, 27, 386, 81, 82, 387, 388, 389, 390, 391, 79, 392, 393, 394, 395, 396, 397, 398, 399, 400, 401, 402, 403, 404, 405, 406, 407, 408, 409, 410, 411, 412, 413, 414, 415, 416, 417, 418, 419, 420, 32, 34, 421, 422, 423, 424, 425, 426, 427, 428, 429, 430, 431, 432, 525, 526, 527, 528, 529, 530, 531, 532, 533, 534, 535, 536, 537, 538, 539, 542, 543, 544, 545, 540, 541, 553, 554, 555, 556, 557, 546, 547, 548, 549, 550, 551, 552, 558, 559, 560] rfl gw_wsL_rejects
set_option maxRecDepth 20000 in
theorem gL_law_L_rejects : GoodIn wsL_law (va_wsS RL 144 yL_rejects wsL_rejects) := goodIn_app (goodIn_r _ [87, 88, 89] rfl (by decide +kernel)) ggL_law_L_rejects
theorem gw_wsL_cell : wsL_cell.all goodWord = true := by decide +kernel
set_option maxRecDepth 20000 in
theorem ggL_law_L_cell : GoodIn wsL_law wsL_cell := goodIn_r _ [435, 436, 437] rfl gw_wsL_cell
set_option maxRecDepth 20000 in
theorem gL_law_L_cell : GoodIn wsL_law (va_wsS RL 148 yL_cell wsL_cell) := goodIn_app (goodIn_r _ [433, 434, 89] rfl (by decide +kernel)) ggL_law_L_cell
theorem gw_wsL_act : wsL_act.all goodWord = true := by decide +kernel
set_option maxRecDepth 20000 in
theorem ggL_law_L_act : GoodIn wsL_law wsL_act := goodIn_r _ [440, 93, 94, 95, 2, 96, 16, 97, 441, 442, 89, 443, 444, 437, 445, 446, 447, 448, 12, 102, 98, 99, 100, 101, 103, 104, 105, 11, 106, 46, 45, 449, 450, 451, 452, 453, 454, 455, 31, 34, 456, 457, 458, 459, 460, 461, 462, 463, 464, 465, 466, 467, 468, 469, 470, 471, 472, 473, 474, 475, 476, 477, 478, 479, 480, 481, 174, 175, 15, 176, 54, 51, 52, 53, 155, 156, 157, 158, 122, 123, 124, 159, 160, 161, 162, 163, 164, 165, 30, 29, 166, 167, 168, 169, 170, 171, 172, 173, 177, 178, 179, 180, 114, 115, 116, 117, 181, 182, 183, 184, 185, 186, 187, 188, 189, 111, 112, 190, 191, 192, 193, 113, 482, 483, 484, 485, 39, 133, 134, 135, 136, 137, 138, 139, 140, 141, 142, 143, 144, 145, 126, 127, 128, 129, 130, 131, 132, 357, 358, 359, 360, 36, 37, 38, 417, 418, 419, 420, 32, 421, 422, 423, 424, 425, 426, 427, 486, 487, 488, 489, 525, 526, 527, 528, 529, 530, 531, 532, 533, 534, 535, 536, 537, 538, 539, 542, 543, 544, 545, 540, 541] rfl gw_wsL_act
set_option maxRecDepth 20000 in
theorem gL_law_L_act : GoodIn wsL_law (va_wsS RL 152 yL_act wsL_act) := goodIn_app (goodIn_r _ [438, 439, 89] rfl (by decide +kernel)) ggL_law_L_act
theorem gw_wsL_alike : wsL_alike.all goodWord = true := by decide +kernel
set_option maxRecDepth 20000 in
theorem ggL_law_L_alike : GoodIn wsL_law wsL_alike := goodIn_r _ [492, 493, 494, 495, 496, 89, 497, 498, 93, 94, 95, 2, 96, 16, 97, 107, 108, 109, 110, 111, 112, 113, 114, 115, 116, 15, 117, 54, 499, 500, 501, 502, 12, 456, 457, 458, 11, 459, 46, 460, 461, 462, 463, 45, 464, 465, 466, 467, 468, 469, 470, 471, 503, 297, 298, 299, 24, 300, 301, 302, 23, 303, 304, 199, 200, 201, 70, 74, 202, 203, 204, 205, 206, 207, 208, 19, 209, 62, 210, 211, 212, 213, 214, 215, 216, 217, 51, 52, 53, 218, 219, 220, 221, 222, 223, 224, 59, 60, 61, 225, 226, 227, 228, 229, 230, 231, 232, 63, 64, 65, 233, 234, 235, 236, 237, 238, 239, 240, 241, 242, 243, 244, 245, 246, 247, 248, 73, 71, 72, 305, 250, 251, 252, 504, 505, 506, 507, 20, 318, 319, 320, 321, 322, 323, 324, 361, 362, 363, 364, 365, 289, 168, 290, 366, 367, 368, 369, 39, 38, 36, 37, 352, 353, 354, 355, 356, 129, 130, 131, 132, 145, 126, 127, 128, 370, 371, 372, 373, 166, 167, 169, 374, 142, 143, 144, 344, 345, 346, 347, 40, 348, 349, 350, 351, 325, 326, 327, 328, 122, 123, 124, 159, 160, 161, 329, 330, 331, 332, 333, 334, 335, 375, 376, 377, 378, 28, 379, 380, 381, 382, 383, 384, 385, 27, 386, 81, 82, 387, 171, 172, 388, 389, 390, 391, 79, 392, 393, 394, 395, 396, 397, 182, 183, 184, 185, 398, 399, 400, 401, 402, 403, 404, 405, 406, 407, 408, 409, 138, 139, 140, 141, 410, 151, 152, 153, 154, 194, 195, 196, 197, 198, 249, 292, 293, 294, 295, 296, 306, 307, 308, 309, 310, 311, 312, 313, 146, 147, 148, 149, 150, 525, 526, 527, 528, 529, 530, 531, 532, 533, 534, 535, 536, 537, 538, 539, 542, 543, 544, 545, 540, 541, 553, 554, 555, 556, 557, 546, 547, 548, 549, 550, 551, 552, 558, 559, 560] rfl gw_wsL_alike
set_option maxRecDepth 20000 in
theorem gL_law_L_alike : GoodIn wsL_law (va_wsS RL 155 yL_alike wsL_alike) := goodIn_app (goodIn_r _ [490, 491, 89] rfl (by decide +kernel)) ggL_law_L_alike
theorem gw_wsL_owners : wsL_owners.all goodWord = true := by decide +kernel
set_option maxRecDepth 20000 in
theorem ggL_law_L_owners : GoodIn wsL_law wsL_owners := goodIn_r _ [510, 511, 91, 512, 93, 94, 95, 2, 96, 16, 97, 146, 147, 148, 149, 114, 115, 116, 15, 117, 54, 150, 151, 152, 153, 154, 138, 139, 140, 141, 142, 143, 144, 145, 126, 127, 128, 53, 129, 130, 131, 132, 51, 52, 411, 412, 413, 414, 415, 416, 137, 107, 108, 109, 110, 111, 112, 113, 118, 119, 120, 121, 122, 123, 124, 125, 133, 134, 135, 136, 336, 337, 338, 339, 20, 318, 207, 208, 19, 209, 62, 210, 211, 212, 213, 214, 215, 216, 217, 218, 219, 220, 221, 222, 223, 224, 59, 60, 61, 340, 341, 342, 343, 375, 376, 377, 378, 28, 379, 380, 381, 382, 383, 384, 385, 27, 386, 81, 82, 387, 171, 172, 388, 389, 390, 391, 79, 392, 393, 394, 395, 396, 397, 182, 183, 184, 185, 398, 399, 400, 401, 402, 160, 161, 403, 301, 302, 23, 303, 304, 199, 200, 201, 70, 74, 202, 203, 204, 205, 206, 225, 226, 227, 228, 229, 230, 231, 232, 63, 64, 65, 233, 234, 235, 236, 237, 238, 239, 240, 241, 242, 243, 244, 245, 246, 247, 248, 73, 71, 72, 305, 250, 251, 252, 404, 405, 406, 407, 408, 409, 410, 525, 526, 527, 528, 529, 530, 531, 532, 533, 534, 535, 536, 537, 538, 539, 542, 543, 544, 545, 546, 547, 548, 549, 550, 551, 552, 558, 559, 560, 553, 554, 555, 556, 557] rfl gw_wsL_owners
set_option maxRecDepth 20000 in
theorem gL_law_L_owners : GoodIn wsL_law (va_wsS RL 159 yL_owners wsL_owners) := goodIn_app (goodIn_r _ [508, 509, 89] rfl (by decide +kernel)) ggL_law_L_owners
theorem gw_wsL_cells : wsL_cells.all goodWord = true := by decide +kernel
set_option maxRecDepth 20000 in
theorem ggL_law_L_cells : GoodIn wsL_law wsL_cells := goodIn_r _ [515, 516, 517, 93, 94, 95, 2, 96, 16, 97, 194, 195, 196, 197, 24, 114, 115, 116, 15, 117, 54, 198, 199, 200, 23, 201, 70, 74, 202, 203, 204, 205, 206, 207, 208, 19, 209, 62, 210, 211, 212, 213, 214, 215, 216, 217, 51, 52, 53, 218, 219, 220, 221, 222, 223, 224, 59, 60, 61, 225, 226, 227, 228, 229, 230, 231, 232, 63, 64, 65, 233, 234, 235, 236, 237, 238, 239, 240, 241, 242, 243, 244, 245, 246, 247, 248, 73, 71, 72, 249, 250, 251, 252, 292, 293, 294, 295, 296, 297, 298, 299, 300, 301, 302, 303, 304, 305, 306, 307, 308, 309, 310, 311, 312, 313, 503, 375, 376, 377, 378, 28, 379, 380, 381, 382, 383, 384, 385, 27, 386, 81, 82, 387, 171, 172, 388, 389, 390, 391, 79, 392, 393, 394, 395, 396, 397, 182, 183, 184, 185, 398, 399, 400, 401, 402, 160, 161, 403, 404, 405, 406, 407, 408, 123, 124, 409, 138, 139, 140, 141, 142, 143, 144, 145, 126, 127, 128, 129, 130, 131, 132, 410, 151, 152, 153, 154, 253, 254, 255, 256, 257, 258, 259, 260, 261, 262, 263, 264, 265, 266, 267, 268, 269, 270, 271, 272, 273, 274, 275, 276, 277, 278, 279, 280, 281, 282, 283, 284, 285, 286, 287, 288, 289, 168, 290, 291, 428, 429, 430, 431, 432, 107, 108, 109, 110, 111, 112, 113, 118, 119, 120, 121, 122, 125, 525, 526, 527, 528, 529, 530, 531, 532, 533, 534, 535, 536, 537, 538, 539, 542, 543, 544, 545, 553, 554, 555, 556, 557, 546, 547, 548, 549, 550, 551, 552, 558, 559, 560] rfl gw_wsL_cells
set_option maxRecDepth 20000 in
theorem gL_law_L_cells : GoodIn wsL_law (va_wsS RL 163 yL_cells wsL_cells) := goodIn_app (goodIn_r _ [513, 514, 89] rfl (by decide +kernel)) ggL_law_L_cells
theorem gw_wsL_triangles : wsL_triangles.all goodWord = true := by decide +kernel
set_option maxRecDepth 20000 in
theorem ggL_law_L_triangles : GoodIn wsL_law wsL_triangles := goodIn_r _ [520, 93, 94, 95, 2, 96, 16, 97, 495, 496, 89, 497, 498, 107, 108, 109, 110, 111, 112, 113, 114, 115, 116, 15, 117, 54, 314, 315, 316, 317, 20, 318, 207, 208, 19, 209, 62, 210, 211, 212, 213, 214, 215, 216, 217, 51, 52, 53, 218, 219, 220, 221, 222, 223, 224, 59, 60, 61, 319, 320, 321, 322, 323, 230, 231, 232, 63, 64, 65, 233, 234, 235, 236, 324, 238, 239, 240, 241, 242, 243, 244, 504, 505, 506, 507, 325, 326, 327, 328, 122, 123, 124, 159, 160, 161, 329, 330, 331, 332, 333, 334, 335, 155, 156, 157, 158, 162, 163, 164, 165, 30, 29, 31, 166, 167, 168, 169, 170, 171, 172, 173, 174, 175, 176, 177, 178, 179, 180, 181, 182, 183, 184, 185, 486, 487, 488, 489, 525, 526, 527, 528, 529, 530, 531, 532, 533, 534, 535, 536, 537, 538, 539, 542, 543, 544, 545, 546, 547, 548, 549, 550, 551, 552] rfl gw_wsL_triangles
set_option maxRecDepth 20000 in
theorem gL_law_L_triangles : GoodIn wsL_law (va_wsS RL 166 yL_triangles wsL_triangles) := goodIn_app (goodIn_r _ [518, 519, 89] rfl (by decide +kernel)) ggL_law_L_triangles
theorem gw_wsL_weights : wsL_weights.all goodWord = true := by decide +kernel
set_option maxRecDepth 20000 in
theorem ggL_law_L_weights : GoodIn wsL_law wsL_weights := goodIn_r _ [523, 524, 93, 94, 95, 2, 96, 16, 97, 495, 496, 89, 497, 498, 107, 108, 109, 110, 111, 112, 113, 114, 115, 116, 15, 117, 54, 344, 345, 346, 347, 40, 348, 349, 350, 351, 352, 353, 354, 355, 356, 289, 168, 290, 129, 130, 131, 132, 51, 52, 145, 126, 127, 128, 53, 190, 191, 192, 193, 159, 160, 161, 162, 163, 164, 165, 30, 29, 31, 166, 167, 169, 170, 171, 172, 146, 147, 148, 149, 150, 151, 152, 153, 154, 138, 139, 140, 141, 142, 143, 144, 486, 487, 488, 489, 375, 376, 377, 378, 28, 379, 380, 381, 382, 383, 384, 385, 27, 386, 81, 82, 387, 388, 389, 390, 391, 79, 392, 393, 394, 395, 396, 397, 182, 183, 184, 185, 398, 399, 400, 401, 402, 403, 301, 302, 23, 303, 304, 199, 200, 201, 70, 74, 202, 203, 204, 205, 206, 207, 208, 19, 209, 62, 210, 211, 212, 213, 214, 215, 216, 217, 218, 219, 220, 221, 222, 223, 224, 59, 60, 61, 225, 226, 227, 228, 229, 230, 231, 232, 63, 64, 65, 233, 234, 235, 236, 237, 238, 239, 240, 241, 242, 243, 244, 245, 246, 247, 248, 73, 71, 72, 305, 250, 251, 252, 404, 405, 406, 407, 408, 123, 124, 409, 410, 361, 362, 363, 364, 365, 366, 367, 368, 369, 39, 38, 36, 37, 370, 371, 372, 373, 374, 482, 483, 484, 485, 133, 134, 135, 136, 122, 137, 357, 358, 359, 360, 525, 526, 527, 528, 529, 530, 531, 532, 533, 534, 535, 536, 537, 538, 539, 542, 543, 544, 545, 558, 559, 560, 553, 554, 555, 556, 557, 546, 547, 548, 549, 550, 551, 552] rfl gw_wsL_weights
set_option maxRecDepth 20000 in
theorem gL_law_L_weights : GoodIn wsL_law (va_wsS RL 169 yL_weights wsL_weights) := goodIn_app (goodIn_r _ [521, 522, 89] rfl (by decide +kernel)) ggL_law_L_weights
