set_option maxRecDepth 20000 in
theorem ggL_law_X4_fold : GoodIn wsL_law9 wsX4_fold := goodIn_r _ [481, 252, 53, 58, 51, 57, 253, 254, 255, 5, 256, 87, 50, 97, 257, 258, 259, 260, 88, 261, 262, 263, 264, 265, 266, 267, 268, 269, 98, 115, 270, 271, 272, 273, 54, 55, 56, 274, 275, 276, 277, 278, 279, 280, 281, 282, 283, 284, 285, 286, 287, 288, 289, 290, 60, 291, 292, 293, 294, 62, 64, 65, 66, 67, 68, 482, 483, 484, 761, 762, 763, 764, 765, 766, 767, 768, 769, 770, 771, 772, 773, 774, 775, 776, 777, 778, 779, 780, 781, 782, 783] (by decide +kernel) (by decide +kernel)
set_option maxRecDepth 20000 in
theorem gL_law_X4_fold : GoodIn wsL_law9 (wsV RL 145 RX4 yX4_fold wsX4_fold) := goodIn_app (goodIn_of _ (by decide +kernel)) ggL_law_X4_fold
set_option maxRecDepth 20000 in
theorem ggL_law_L_size : GoodIn wsL_law9 wsL_size := goodIn_ca (goodIn_ca (goodIn_r _ [487, 120, 122, 488, 489, 490, 2, 491, 19, 74, 464, 309, 133, 134, 135, 136, 137, 138, 73, 144, 145, 146, 147, 148, 149, 24, 150, 151, 152, 153, 25, 26, 154, 155, 156, 18, 157, 32, 158, 159, 160, 161, 162, 163, 164, 165, 166, 38, 167, 43, 168, 169, 170, 171, 172, 173, 174, 175, 176, 177, 178, 12, 13, 179, 180, 181, 752, 753, 754, 755, 756, 757, 758, 759, 760, 784, 785, 786, 787, 788, 791, 792, 793, 794, 795, 796, 789, 790] (by decide +kernel) (by decide +kernel)) (goodIn_sub (fun _ h => List.mem_append_left _ (List.mem_append_left _ (List.mem_append_right _ h))) (by decide +kernel))) (goodIn_sub (fun _ h => List.mem_append_left _ (List.mem_append_right _ h)) (by decide +kernel))
set_option maxRecDepth 20000 in
theorem gL_law_L_size : GoodIn wsL_law9 (va_wsS RL 146 yL_size wsL_size) := goodIn_app (goodIn_of _ (by decide +kernel)) ggL_law_L_size
set_option maxRecDepth 20000 in
theorem ggL_law_X4_size : GoodIn wsL_law9 wsX4_size := goodIn_r _ [495, 252, 57, 496, 497, 498, 5, 499, 97, 87, 257, 258, 259, 260, 88, 266, 267, 268, 269, 98, 115, 270, 271, 272, 273, 53, 54, 55, 56, 761, 762, 763, 764, 765, 766, 767, 768, 769, 770, 771, 772, 773, 774, 775, 776, 777, 778, 779, 780, 781, 782, 783] (by decide +kernel) (by decide +kernel)
set_option maxRecDepth 20000 in
theorem gL_law_X4_size : GoodIn wsL_law9 (wsV RL 148 RX4 yX4_size wsX4_size) := goodIn_app (goodIn_of _ (by decide +kernel)) ggL_law_X4_size
set_option maxRecDepth 20000 in
theorem ggL_law_L_clear : GoodIn wsL_law9 wsL_clear := goodIn_ca (goodIn_ca (goodIn_r _ [502, 120, 122, 503, 504, 505, 2, 506, 133, 134, 135, 136, 137, 138, 19, 73, 144, 145, 146, 147, 148, 149, 24, 150, 151, 152, 153, 25, 26, 154, 155, 156, 18, 157, 32, 158, 159, 160, 161, 162, 163, 164, 165, 166, 38, 167, 43, 168, 169, 170, 171, 172, 173, 174, 175, 176, 177, 178, 12, 13, 179, 180, 181, 186, 187, 188, 189, 507, 508, 509, 510, 202, 203, 204, 205, 206, 207, 208, 209, 210, 211, 212, 213, 214, 215, 216, 217, 218, 23, 219, 220, 221, 222, 44, 223, 224, 225, 226, 227, 37, 228, 229, 230, 231, 232, 233, 234, 39, 40, 41, 42, 235, 236, 237, 238, 239, 240, 241, 242, 243, 244, 245, 246, 247, 752, 753, 754, 755, 756, 757, 758, 759, 760, 784, 785, 786, 787, 788, 791, 792, 793, 794, 795, 796, 789, 790] (by decide +kernel) (by decide +kernel)) (goodIn_sub (fun _ h => List.mem_append_left _ (List.mem_append_left _ (List.mem_append_right _ h))) (by decide +kernel))) (goodIn_sub (fun _ h => List.mem_append_left _ (List.mem_append_right _ h)) (by decide +kernel))
set_option maxRecDepth 20000 in
theorem gL_law_L_clear : GoodIn wsL_law9 (va_wsS RL 149 yL_clear wsL_clear) := goodIn_app (goodIn_of _ (by decide +kernel)) ggL_law_L_clear
set_option maxRecDepth 20000 in
theorem ggL_law_X4_clear : GoodIn wsL_law9 wsX4_clear := goodIn_r _ [514, 252, 496, 497, 498, 5, 499, 97, 87, 257, 258, 259, 260, 88, 266, 267, 268, 269, 98, 115, 270, 271, 272, 273, 53, 54, 55, 56, 449, 450, 451, 452, 278, 279, 280, 281, 282, 283, 284, 285, 286, 287, 288, 289, 290, 60, 291, 292, 293, 294, 62, 64, 65, 66, 67, 68, 453, 454, 455, 456, 57, 58, 59, 761, 762, 763, 764, 765, 766, 767, 768, 769, 770, 771, 772, 773, 774, 775, 776, 777, 778, 779, 780, 781, 782, 783] (by decide +kernel) (by decide +kernel)
set_option maxRecDepth 20000 in
theorem gL_law_X4_clear : GoodIn wsL_law9 (wsV RL 151 RX4 yX4_clear wsX4_clear) := goodIn_app (goodIn_of _ (by decide +kernel)) ggL_law_X4_clear
set_option maxRecDepth 20000 in
theorem ggL_law_X3_clearSpan : GoodIn wsL_law9 wsX3_clearSpan := goodIn_r _ [518, 19, 218, 26, 519, 520, 521, 38, 522, 43, 241, 214, 215, 216, 2, 217, 23, 219, 220, 221, 222, 44, 223, 224, 225, 226, 227, 37, 228, 229, 230, 231, 232, 233, 234, 39, 40, 41, 12, 13, 42, 523, 524, 525, 526, 752, 753, 754, 755, 756, 757, 758, 759, 760, 784, 785, 786, 787, 788, 789, 790, 791, 792, 793, 794, 795, 796] (by decide +kernel) (by decide +kernel)
set_option maxRecDepth 20000 in
theorem gL_law_X3_clearSpan : GoodIn wsL_law9 (wsV RL 152 RX3 yX3_clearSpan wsX3_clearSpan) := goodIn_app (goodIn_of _ (by decide +kernel)) ggL_law_X3_clearSpan
set_option maxRecDepth 20000 in
theorem ggL_law_X4_clearSpan : GoodIn wsL_law9 wsX4_clearSpan := goodIn_r _ [530, 87, 53, 56, 115, 449, 450, 451, 5, 452, 278, 279, 280, 281, 54, 55, 282, 283, 284, 285, 286, 287, 288, 289, 290, 60, 291, 292, 293, 294, 62, 64, 65, 66, 67, 68, 453, 454, 455, 456, 57, 58, 59, 761, 762, 763, 764, 765, 766, 767, 768, 769, 770, 771, 772, 773, 774, 775, 776, 777, 778, 779, 780, 781, 782, 783] (by decide +kernel) (by decide +kernel)
set_option maxRecDepth 20000 in
theorem gL_law_X4_clearSpan : GoodIn wsL_law9 (wsV RL 155 RX4 yX4_clearSpan wsX4_clearSpan) := goodIn_app (goodIn_of _ (by decide +kernel)) ggL_law_X4_clearSpan
set_option maxRecDepth 20000 in
theorem ggL_law_L_keys : GoodIn wsL_law9 wsL_keys := goodIn_ca (goodIn_r _ [533, 120, 534, 535, 536, 2, 537, 133, 134, 135, 136, 137, 138, 19, 73, 538, 539, 540, 541, 218, 21, 26, 542, 543, 544, 38, 545, 43, 239, 241, 240, 546, 337, 338, 339, 370, 371, 752, 753, 754, 755, 756, 757, 758, 759, 760, 784, 785, 786, 787, 788, 789, 790, 791, 792, 793, 794, 795, 796] (by decide +kernel) (by decide +kernel)) (goodIn_sub (fun _ h => List.mem_append_left _ (List.mem_append_left _ (List.mem_append_right _ h))) (by decide +kernel))
set_option maxRecDepth 20000 in
theorem gL_law_L_keys : GoodIn wsL_law9 (va_wsS RL 156 yL_keys wsL_keys) := goodIn_app (goodIn_of _ (by decide +kernel)) ggL_law_L_keys
set_option maxRecDepth 20000 in
theorem ggL_law_X4_keys : GoodIn wsL_law9 wsX4_keys := goodIn_r _ [550, 87, 53, 54, 56, 115, 257, 258, 259, 5, 260, 88, 318, 319, 320, 321, 761, 762, 763, 764, 765, 766, 767, 768, 769, 770, 771, 772, 773, 774, 775, 776, 777, 778, 779, 780, 781, 782, 783] (by decide +kernel) (by decide +kernel)
set_option maxRecDepth 20000 in
theorem gL_law_X4_keys : GoodIn wsL_law9 (wsV RL 158 RX4 yX4_keys wsX4_keys) := goodIn_app (goodIn_of _ (by decide +kernel)) ggL_law_X4_keys
set_option maxRecDepth 20000 in
theorem ggL_law_L_keyAt : GoodIn wsL_law9 wsL_keyAt := goodIn_ca (goodIn_r _ [553, 120, 554, 555, 556, 2, 557, 137, 138, 21, 133, 134, 135, 136, 19, 73, 538, 539, 540, 541, 218, 26, 542, 543, 544, 38, 545, 43, 239, 241, 240, 546, 337, 338, 339, 370, 371, 752, 753, 754, 755, 756, 757, 758, 759, 760, 784, 785, 786, 787, 788, 789, 790, 791, 792, 793, 794, 795, 796] (by decide +kernel) (by decide +kernel)) (goodIn_sub (fun _ h => List.mem_append_left _ (List.mem_append_left _ (List.mem_append_right _ h))) (by decide +kernel))
set_option maxRecDepth 20000 in
theorem gL_law_L_keyAt : GoodIn wsL_law9 (va_wsS RL 159 yL_keyAt wsL_keyAt) := goodIn_app (goodIn_of _ (by decide +kernel)) ggL_law_L_keyAt
set_option maxRecDepth 20000 in
theorem ggL_law_X4_keyAt : GoodIn wsL_law9 wsX4_keyAt := goodIn_r _ [561, 87, 53, 54, 56, 115, 55, 257, 258, 259, 5, 260, 88, 318, 319, 320, 321, 761, 762, 763, 764, 765, 766, 767, 768, 769, 770, 771, 772, 773, 774, 775, 776, 777, 778, 779, 780, 781, 782, 783] (by decide +kernel) (by decide +kernel)
set_option maxRecDepth 20000 in
theorem gL_law_X4_keyAt : GoodIn wsL_law9 (wsV RL 161 RX4 yX4_keyAt wsX4_keyAt) := goodIn_app (goodIn_of _ (by decide +kernel)) ggL_law_X4_keyAt
set_option maxRecDepth 20000 in
theorem ggL_law_X3_snapshot : GoodIn wsL_law9 wsX3_snapshot := goodIn_r _ [565, 20, 19, 22, 566, 567, 568, 569, 18, 570, 571, 17, 32, 572, 573, 574, 575, 30, 12, 13, 31, 14, 33, 34, 35, 36, 752, 753, 754, 755, 756, 757, 758, 759, 760, 784, 785, 786, 787, 788, 789, 790] (by decide +kernel) (by decide +kernel)
set_option maxRecDepth 20000 in
theorem gL_law_X3_snapshot : GoodIn wsL_law9 (wsV RL 162 RX3 yX3_snapshot wsX3_snapshot) := goodIn_app (goodIn_of _ (by decide +kernel)) ggL_law_X3_snapshot
set_option maxRecDepth 20000 in
theorem ggL_law_X4_snapshot : GoodIn wsL_law9 wsX4_snapshot := goodIn_r _ [579, 87, 62, 88, 50, 51, 52, 63, 580, 581, 582, 583, 5, 584, 53, 60, 453, 454, 455, 456, 54, 55, 56, 57, 58, 59, 761, 762, 763, 764, 765, 766, 767, 768, 769, 770, 771, 772, 773, 774, 775, 776, 777, 778, 779, 780, 781, 782, 783] (by decide +kernel) (by decide +kernel)
set_option maxRecDepth 20000 in
theorem gL_law_X4_snapshot : GoodIn wsL_law9 (wsV RL 165 RX4 yX4_snapshot wsX4_snapshot) := goodIn_app (goodIn_of _ (by decide +kernel)) ggL_law_X4_snapshot
set_option maxRecDepth 20000 in
theorem ggL_law_L_drop : GoodIn wsL_law9 wsL_drop := goodIn_ca (goodIn_r _ [587, 120, 588, 589, 590, 2, 591, 20, 19, 592, 593, 594, 595, 566, 596, 597, 598, 599, 137, 138, 600, 601, 602, 18, 603, 32, 572, 604, 605, 606, 607, 608, 220, 221, 38, 222, 44, 752, 753, 754, 755, 756, 757, 758, 759, 760, 784, 785, 786, 787, 788, 789, 790] (by decide +kernel) (by decide +kernel)) (goodIn_sub (fun _ h => List.mem_append_left _ (List.mem_append_left _ (List.mem_append_right _ h))) (by decide +kernel))
set_option maxRecDepth 20000 in
theorem gL_law_L_drop : GoodIn wsL_law9 (va_wsS RL 166 yL_drop wsL_drop) := goodIn_app (goodIn_of _ (by decide +kernel)) ggL_law_L_drop
