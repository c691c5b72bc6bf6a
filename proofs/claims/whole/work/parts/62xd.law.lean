set_option maxRecDepth 20000 in
theorem ggL_law_X3_init : GoodIn wsL_law9 wsX3_init := goodIn_r _ [10, 11, 12, 13, 14, 15, 16, 17, 18, 19, 20, 6, 21, 22, 23, 24, 25, 26, 27, 28, 29, 30, 31, 32, 33, 34, 35, 36, 37, 38, 39, 40, 41, 42, 43, 44, 752, 753, 754, 755, 756, 757, 758, 759, 760, 784, 785, 786, 787, 788, 789, 790] (by decide +kernel) (by decide +kernel)
set_option maxRecDepth 20000 in
theorem gL_law_X3_init : GoodIn wsL_law9 (wsX3_init) := ggL_law_X3_init
set_option maxRecDepth 20000 in
theorem ggL_law_X4_init : GoodIn wsL_law9 wsX4_init := goodIn_r _ [47, 48, 12, 13, 14, 49, 50, 51, 52, 53, 54, 6, 55, 56, 57, 58, 59, 60, 61, 62, 63, 64, 65, 66, 5, 67, 68, 761, 762, 763, 764, 765, 766, 767, 768, 769, 770, 771, 772, 773, 774, 775, 776, 777, 778, 779, 780, 781, 782, 783] (by decide +kernel) (by decide +kernel)
set_option maxRecDepth 20000 in
theorem gL_law_X4_init : GoodIn wsL_law9 (wsX4_init) := ggL_law_X4_init
set_option maxRecDepth 20000 in
theorem ggL_law_X3_state : GoodIn wsL_law9 wsX3_state := goodIn_r _ [72, 19, 73, 15, 74, 75, 76, 77, 2, 78, 79, 80, 81, 18, 82, 35, 33, 34, 752, 753, 754, 755, 756, 757, 758, 759, 760, 784, 785, 786, 787, 788] (by decide +kernel) (by decide +kernel)
set_option maxRecDepth 20000 in
theorem gL_law_X3_state : GoodIn wsL_law9 (wsV RL 89 RX3 yX3_state wsX3_state) := goodIn_app (goodIn_of _ (by decide +kernel)) ggL_law_X3_state
set_option maxRecDepth 20000 in
theorem ggL_law_X4_state : GoodIn wsL_law9 wsX4_state := goodIn_r _ [86, 87, 88, 49, 50, 51, 761, 762, 763, 764, 765, 766, 767, 768, 769, 770, 771, 772, 773, 774, 775, 776, 777, 778, 779, 780, 781, 782, 783] (by decide +kernel) (by decide +kernel)
set_option maxRecDepth 20000 in
theorem gL_law_X4_state : GoodIn wsL_law9 (wsV RL 92 RX4 yX4_state wsX4_state) := goodIn_app (goodIn_of _ (by decide +kernel)) ggL_law_X4_state
set_option maxRecDepth 20000 in
theorem ggL_law_X3_key : GoodIn wsL_law9 wsX3_key := goodIn_r _ [92, 24, 25, 752, 753, 754, 755, 756, 757, 758, 759, 760] (by decide +kernel) (by decide +kernel)
set_option maxRecDepth 20000 in
theorem gL_law_X3_key : GoodIn wsL_law9 (wsV RL 95 RX3 yX3_key wsX3_key) := goodIn_app (goodIn_of _ (by decide +kernel)) ggL_law_X3_key
set_option maxRecDepth 20000 in
theorem ggL_law_X4_key : GoodIn wsL_law9 wsX4_key := goodIn_r _ [96, 87, 97, 98, 761, 762, 763, 764, 765, 766, 767, 768, 769, 770, 771, 772, 773, 774, 775, 776, 777, 778, 779, 780, 781, 782, 783] (by decide +kernel) (by decide +kernel)
set_option maxRecDepth 20000 in
theorem gL_law_X4_key : GoodIn wsL_law9 (wsV RL 99 RX4 yX4_key wsX4_key) := goodIn_app (goodIn_of _ (by decide +kernel)) ggL_law_X4_key
set_option maxRecDepth 20000 in
theorem ggL_law_X3_leave : GoodIn wsL_law9 wsX3_leave := goodIn_r _ [102, 24, 752, 753, 754, 755, 756, 757, 758, 759, 760] (by decide +kernel) (by decide +kernel)
set_option maxRecDepth 20000 in
theorem gL_law_X3_leave : GoodIn wsL_law9 (wsV RL 100 RX3 yX3_leave wsX3_leave) := goodIn_app (goodIn_of _ (by decide +kernel)) ggL_law_X3_leave
set_option maxRecDepth 20000 in
theorem ggL_law_X4_leave : GoodIn wsL_law9 wsX4_leave := goodIn_r _ [106, 87, 97, 761, 762, 763, 764, 765, 766, 767, 768, 769, 770, 771, 772, 773, 774, 775, 776, 777, 778, 779, 780, 781, 782, 783] (by decide +kernel) (by decide +kernel)
set_option maxRecDepth 20000 in
theorem gL_law_X4_leave : GoodIn wsL_law9 (wsV RL 104 RX4 yX4_leave wsX4_leave) := goodIn_app (goodIn_of _ (by decide +kernel)) ggL_law_X4_leave
set_option maxRecDepth 20000 in
theorem ggL_law_X3_span : GoodIn wsL_law9 wsX3_span := goodIn_r _ [110, 26, 752, 753, 754, 755, 756, 757, 758, 759, 760] (by decide +kernel) (by decide +kernel)
set_option maxRecDepth 20000 in
theorem gL_law_X3_span : GoodIn wsL_law9 (wsV RL 105 RX3 yX3_span wsX3_span) := goodIn_app (goodIn_of _ (by decide +kernel)) ggL_law_X3_span
set_option maxRecDepth 20000 in
theorem ggL_law_X4_span : GoodIn wsL_law9 wsX4_span := goodIn_r _ [114, 87, 115, 761, 762, 763, 764, 765, 766, 767, 768, 769, 770, 771, 772, 773, 774, 775, 776, 777, 778, 779, 780, 781, 782, 783] (by decide +kernel) (by decide +kernel)
set_option maxRecDepth 20000 in
theorem gL_law_X4_span : GoodIn wsL_law9 (wsV RL 108 RX4 yX4_span wsX4_span) := goodIn_app (goodIn_of _ (by decide +kernel)) ggL_law_X4_span
set_option maxRecDepth 20000 in
theorem ggL_law_L_put : GoodIn wsL_law9 wsL_put := goodIn_ca (goodIn_ca (goodIn_ca (goodIn_r _ [119, 120, 121, 122, 123, 124, 125, 2, 126, 127, 128, 129, 130, 131, 132, 19, 74, 75, 133, 134, 135, 136, 137, 138, 73, 139, 140, 141, 142, 143, 144, 145, 146, 147, 148, 149, 24, 150, 151, 152, 153, 25, 26, 154, 155, 156, 18, 157, 32, 158, 159, 160, 161, 162, 163, 164, 165, 166, 38, 167, 43, 168, 169, 170, 171, 172, 173, 174, 175, 176, 177, 178, 12, 13, 179, 180, 181, 182, 183, 184, 185, 186, 187, 188, 189, 190, 191, 192, 193, 194, 195, 196, 197, 198, 199, 200, 201, 202, 6, 203, 204, 205, 206, 207, 208, 209, 210, 211, 212, 213, 214, 215, 216, 217, 218, 23, 219, 220, 221, 222, 44, 223, 224, 225, 226, 227, 37, 228, 229, 230, 231, 232, 233, 234, 39, 40, 41, 42, 235, 236, 237, 238, 239, 240, 241, 242, 243, 244, 245, 246, 247, 752, 753, 754, 755, 756, 757, 758, 759, 760, 784, 785, 786, 787, 788, 791, 792, 793, 794, 795, 796, 789, 790] (by decide +kernel) (by decide +kernel)) (goodIn_sub (fun _ h => List.mem_append_left _ (List.mem_append_left _ (List.mem_append_left _ (List.mem_append_right _ h)))) (by decide +kernel))) (goodIn_sub (fun _ h => List.mem_append_left _ (List.mem_append_left _ (List.mem_append_right _ h))) (by decide +kernel))) (goodIn_sub (fun _ h => List.mem_append_left _ (List.mem_append_right _ h)) (by decide +kernel))
set_option maxRecDepth 20000 in
theorem gL_law_L_put : GoodIn wsL_law9 (va_wsS RL 109 yL_put wsL_put) := goodIn_app (goodIn_of _ (by decide +kernel)) ggL_law_L_put
set_option maxRecDepth 20000 in
theorem ggL_law_X4_put : GoodIn wsL_law9 wsX4_put := goodIn_r _ [251, 252, 53, 58, 57, 253, 254, 255, 5, 256, 87, 50, 51, 97, 257, 258, 259, 260, 88, 261, 262, 263, 264, 265, 266, 267, 268, 269, 98, 115, 270, 271, 272, 273, 54, 55, 56, 274, 275, 276, 277, 278, 279, 280, 281, 282, 283, 284, 285, 286, 287, 288, 289, 290, 60, 291, 292, 293, 294, 62, 64, 65, 66, 67, 68, 761, 762, 763, 764, 765, 766, 767, 768, 769, 770, 771, 772, 773, 774, 775, 776, 777, 778, 779, 780, 781, 782, 783] (by decide +kernel) (by decide +kernel)
set_option maxRecDepth 20000 in
theorem gL_law_X4_put : GoodIn wsL_law9 (wsV RL 114 RX4 yX4_put wsX4_put) := goodIn_app (goodIn_of _ (by decide +kernel)) ggL_law_X4_put
set_option maxRecDepth 20000 in
theorem ggL_law_X4_thrown : GoodIn wsL_law9 wsX4_thrown := goodIn_r _ [298, 87, 761, 762, 763, 764, 765, 766, 767, 768, 769, 770, 771, 772, 773, 774, 775, 776, 777, 778, 779, 780, 781, 782, 783] (by decide +kernel) (by decide +kernel)
set_option maxRecDepth 20000 in
theorem gL_law_X4_thrown : GoodIn wsL_law9 (wsV RL 115 RX4 yX4_thrown wsX4_thrown) := goodIn_app (goodIn_of _ (by decide +kernel)) ggL_law_X4_thrown
set_option maxRecDepth 20000 in
theorem ggL_law_L_value : GoodIn wsL_law9 wsL_value9 := goodIn_ca (goodIn_ca (goodIn_ca (goodIn_ca (goodIn_r _ [301, 120, 121, 122, 302, 303, 304, 305, 2, 306, 307, 308, 309, 310, 311, 312, 313, 131, 132, 19, 74, 133, 134, 135, 136, 137, 138, 73, 144, 145, 146, 147, 148, 149, 24, 150, 151, 152, 153, 25, 26, 154, 155, 156, 18, 157, 32, 158, 159, 160, 161, 162, 163, 164, 165, 166, 38, 167, 43, 168, 169, 170, 171, 172, 173, 174, 175, 176, 177, 178, 12, 13, 179, 180, 181, 186, 187, 188, 189, 791, 792, 793, 794, 795, 796, 752, 753, 754, 755, 756, 757, 758, 759, 760, 784, 785, 786, 787, 788, 789, 790] (by decide +kernel) (by decide +kernel)) (goodIn_sub (fun _ h => List.mem_append_right _ h) (by decide +kernel))) (goodIn_sub (fun _ h => List.mem_append_left _ (List.mem_append_left _ (List.mem_append_left _ (List.mem_append_right _ h)))) (by decide +kernel))) (goodIn_sub (fun _ h => List.mem_append_left _ (List.mem_append_left _ (List.mem_append_right _ h))) (by decide +kernel))) (goodIn_sub (fun _ h => List.mem_append_left _ (List.mem_append_right _ h)) (by decide +kernel))
set_option maxRecDepth 20000 in
theorem gL_law_L_value : GoodIn wsL_law9 (va_wsS RL 119 yL_value wsL_value9) := goodIn_app (goodIn_of _ (by decide +kernel)) ggL_law_L_value
