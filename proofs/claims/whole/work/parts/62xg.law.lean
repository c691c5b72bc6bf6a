set_option maxRecDepth 20000 in
theorem ggL_law_X4_drop : GoodIn wsL_law9 wsX4_drop := goodIn_r _ [612, 87, 62, 613, 614, 615, 5, 616, 63, 318, 319, 320, 321, 617, 618, 619, 620, 291, 292, 293, 294, 60, 761, 762, 763, 764, 765, 766, 767, 768, 769, 770, 771, 772, 773, 774, 775, 776, 777, 778, 779, 780, 781, 782, 783] (by decide +kernel) (by decide +kernel)
set_option maxRecDepth 20000 in
theorem gL_law_X4_drop : GoodIn wsL_law9 (wsV RL 168 RX4 yX4_drop wsX4_drop) := goodIn_app (goodIn_of _ (by decide +kernel)) ggL_law_X4_drop
set_option maxRecDepth 20000 in
theorem ggL_law_L_ask : GoodIn wsL_law9 wsL_ask9 := goodIn_ca (goodIn_ca (goodIn_r _ [623, 120, 302, 624, 625, 626, 2, 627, 307, 308, 309, 628, 629, 630, 631, 19, 592, 593, 594, 595, 20, 566, 596, 597, 598, 599, 137, 138, 133, 134, 135, 136, 73, 154, 155, 156, 18, 157, 32, 158, 159, 160, 161, 162, 163, 164, 165, 166, 38, 167, 43, 168, 169, 170, 171, 172, 173, 174, 175, 176, 177, 178, 12, 13, 179, 180, 181, 791, 792, 793, 794, 795, 796, 752, 753, 754, 755, 756, 757, 758, 759, 760, 784, 785, 786, 787, 788, 789, 790] (by decide +kernel) (by decide +kernel)) (goodIn_sub (fun _ h => List.mem_append_right _ h) (by decide +kernel))) (goodIn_sub (fun _ h => List.mem_append_left _ (List.mem_append_left _ (List.mem_append_right _ h))) (by decide +kernel))
set_option maxRecDepth 20000 in
theorem gL_law_L_ask : GoodIn wsL_law9 (va_wsS RL 169 yL_ask wsL_ask9) := goodIn_app (goodIn_of _ (by decide +kernel)) ggL_law_L_ask
set_option maxRecDepth 20000 in
theorem ggL_law_X4_ask : GoodIn wsL_law9 wsX4_ask := goodIn_r _ [635, 87, 58, 613, 614, 615, 5, 616, 62, 63, 257, 258, 259, 260, 88, 318, 319, 320, 321, 270, 271, 272, 273, 53, 54, 55, 56, 636, 637, 638, 639, 50, 57, 761, 762, 763, 764, 765, 766, 767, 768, 769, 770, 771, 772, 773, 774, 775, 776, 777, 778, 779, 780, 781, 782, 783] (by decide +kernel) (by decide +kernel)
set_option maxRecDepth 20000 in
theorem gL_law_X4_ask : GoodIn wsL_law9 (wsV RL 172 RX4 yX4_ask wsX4_ask) := goodIn_app (goodIn_of _ (by decide +kernel)) ggL_law_X4_ask
set_option maxRecDepth 20000 in
theorem ggL_law_L_entries : GoodIn wsL_law9 wsL_entries := goodIn_ca (goodIn_r _ [642, 120, 643, 644, 645, 2, 646, 628, 629, 630, 631, 19, 592, 593, 594, 595, 20, 566, 596, 597, 598, 599, 137, 138, 133, 134, 135, 136, 73, 647, 648, 649, 18, 650, 32, 651, 652, 653, 38, 654, 43, 239, 752, 753, 754, 755, 756, 757, 758, 759, 760, 784, 785, 786, 787, 788, 789, 790, 791, 792, 793, 794, 795, 796] (by decide +kernel) (by decide +kernel)) (goodIn_sub (fun _ h => List.mem_append_left _ (List.mem_append_left _ (List.mem_append_right _ h))) (by decide +kernel))
set_option maxRecDepth 20000 in
theorem gL_law_L_entries : GoodIn wsL_law9 (va_wsS RL 173 yL_entries wsL_entries) := goodIn_app (goodIn_of _ (by decide +kernel)) ggL_law_L_entries
set_option maxRecDepth 20000 in
theorem ggL_law_X4_entries : GoodIn wsL_law9 wsX4_entries := goodIn_r _ [658, 87, 53, 54, 613, 614, 615, 5, 616, 62, 63, 257, 258, 259, 260, 88, 318, 319, 320, 321, 761, 762, 763, 764, 765, 766, 767, 768, 769, 770, 771, 772, 773, 774, 775, 776, 777, 778, 779, 780, 781, 782, 783] (by decide +kernel) (by decide +kernel)
set_option maxRecDepth 20000 in
theorem gL_law_X4_entries : GoodIn wsL_law9 (wsV RL 175 RX4 yX4_entries wsX4_entries) := goodIn_app (goodIn_of _ (by decide +kernel)) ggL_law_X4_entries
set_option maxRecDepth 20000 in
theorem ggL_law_L_restore : GoodIn wsL_law9 wsL_restore := goodIn_ca (goodIn_r _ [661, 120, 662, 663, 664, 2, 665, 19, 592, 593, 594, 595, 20, 566, 596, 597, 598, 599, 137, 138, 666, 667, 668, 18, 669, 32, 35, 33, 34, 190, 191, 192, 193, 194, 195, 196, 38, 197, 43, 752, 753, 754, 755, 756, 757, 758, 759, 760, 784, 785, 786, 787, 788, 789, 790] (by decide +kernel) (by decide +kernel)) (goodIn_sub (fun _ h => List.mem_append_left _ (List.mem_append_left _ (List.mem_append_right _ h))) (by decide +kernel))
set_option maxRecDepth 20000 in
theorem gL_law_L_restore : GoodIn wsL_law9 (va_wsS RL 176 yL_restore wsL_restore) := goodIn_app (goodIn_of _ (by decide +kernel)) ggL_law_L_restore
set_option maxRecDepth 20000 in
theorem ggL_law_X4_restore : GoodIn wsL_law9 wsX4_restore := goodIn_r _ [673, 87, 52, 50, 51, 53, 613, 614, 615, 5, 616, 62, 63, 318, 319, 320, 321, 581, 582, 583, 584, 60, 453, 454, 455, 456, 54, 55, 56, 57, 58, 59, 761, 762, 763, 764, 765, 766, 767, 768, 769, 770, 771, 772, 773, 774, 775, 776, 777, 778, 779, 780, 781, 782, 783] (by decide +kernel) (by decide +kernel)
set_option maxRecDepth 20000 in
theorem gL_law_X4_restore : GoodIn wsL_law9 (wsV RL 178 RX4 yX4_restore wsX4_restore) := goodIn_app (goodIn_of _ (by decide +kernel)) ggL_law_X4_restore
set_option maxRecDepth 20000 in
theorem ggL_law_L_move : GoodIn wsL_law9 wsL_move := goodIn_ca (goodIn_r _ [676, 120, 677, 678, 679, 2, 680, 19, 74, 218, 75, 133, 134, 135, 136, 137, 138, 73, 76, 77, 78, 681, 682, 683, 684, 685, 686, 18, 687, 32, 688, 689, 690, 38, 691, 43, 239, 692, 693, 694, 160, 695, 179, 140, 141, 142, 143, 696, 652, 653, 654, 214, 215, 216, 217, 23, 219, 220, 221, 222, 44, 223, 224, 225, 226, 227, 37, 228, 229, 230, 231, 232, 233, 234, 39, 40, 41, 12, 13, 42, 697, 698, 699, 700, 701, 702, 703, 704, 180, 181, 202, 159, 705, 706, 707, 708, 6, 469, 187, 188, 189, 470, 471, 472, 473, 390, 474, 475, 476, 477, 203, 204, 205, 178, 172, 173, 174, 752, 753, 754, 755, 756, 757, 758, 759, 760, 784, 785, 786, 787, 788, 789, 790, 791, 792, 793, 794, 795, 796] (by decide +kernel) (by decide +kernel)) (goodIn_sub (fun _ h => List.mem_append_left _ (List.mem_append_left _ (List.mem_append_right _ h))) (by decide +kernel))
set_option maxRecDepth 20000 in
theorem gL_law_L_move : GoodIn wsL_law9 (va_wsS RL 179 yL_move wsL_move) := goodIn_app (goodIn_of _ (by decide +kernel)) ggL_law_L_move
set_option maxRecDepth 20000 in
theorem ggL_law_X4_move : GoodIn wsL_law9 wsX4_move := goodIn_r _ [712, 87, 50, 53, 54, 58, 57, 51, 257, 258, 259, 5, 260, 88, 318, 319, 320, 321, 713, 714, 715, 636, 637, 638, 639, 261, 262, 263, 264, 265, 278, 279, 280, 281, 55, 56, 282, 283, 284, 285, 286, 287, 288, 289, 290, 60, 291, 292, 293, 294, 62, 64, 65, 66, 67, 68, 482, 483, 484, 761, 762, 763, 764, 765, 766, 767, 768, 769, 770, 771, 772, 773, 774, 775, 776, 777, 778, 779, 780, 781, 782, 783] (by decide +kernel) (by decide +kernel)
set_option maxRecDepth 20000 in
theorem gL_law_X4_move : GoodIn wsL_law9 (wsV RL 182 RX4 yX4_move wsX4_move) := goodIn_app (goodIn_of _ (by decide +kernel)) ggL_law_X4_move
set_option maxRecDepth 20000 in
theorem ggL_law_L_of : GoodIn wsL_law9 wsL_of := goodIn_ca (goodIn_r _ [718, 120, 719, 720, 721, 2, 722, 137, 138, 15, 19, 74, 75, 133, 134, 135, 136, 73, 752, 753, 754, 755, 756, 757, 758, 759, 760, 784, 785, 786, 787, 788] (by decide +kernel) (by decide +kernel)) (goodIn_sub (fun _ h => List.mem_append_left _ (List.mem_append_left _ (List.mem_append_right _ h))) (by decide +kernel))
set_option maxRecDepth 20000 in
theorem gL_law_L_of : GoodIn wsL_law9 (va_wsS RL 183 yL_of wsL_of) := goodIn_app (goodIn_of _ (by decide +kernel)) ggL_law_L_of
set_option maxRecDepth 20000 in
theorem ggL_law_X4_of : GoodIn wsL_law9 wsX4_of := goodIn_r _ [726, 87, 49, 50, 51, 257, 258, 259, 5, 260, 88, 318, 319, 320, 321, 761, 762, 763, 764, 765, 766, 767, 768, 769, 770, 771, 772, 773, 774, 775, 776, 777, 778, 779, 780, 781, 782, 783] (by decide +kernel) (by decide +kernel)
set_option maxRecDepth 20000 in
theorem gL_law_X4_of : GoodIn wsL_law9 (wsV RL 185 RX4 yX4_of wsX4_of) := goodIn_app (goodIn_of _ (by decide +kernel)) ggL_law_X4_of
set_option maxRecDepth 20000 in
theorem ggL_law_X3_told : GoodIn wsL_law9 wsX3_told := goodIn_r _ [730, 19, 73, 23, 190, 191, 192, 18, 193, 32, 194, 195, 196, 38, 197, 43, 731, 732, 733, 2, 734, 20, 604, 605, 606, 607, 608, 220, 221, 222, 44, 735, 736, 737, 738, 739, 740, 741, 742, 743, 744, 745, 746, 747, 752, 753, 754, 755, 756, 757, 758, 759, 760, 784, 785, 786, 787, 788, 789, 790, 791, 792, 793, 794, 795, 796] (by decide +kernel) (by decide +kernel)
set_option maxRecDepth 20000 in
theorem gL_law_X3_told : GoodIn wsL_law9 (wsV RL 186 RX3 yX3_told wsX3_told) := goodIn_app (goodIn_of _ (by decide +kernel)) ggL_law_X3_told
set_option maxRecDepth 20000 in
theorem ggL_law_X4_told : GoodIn wsL_law9 wsX4_told := goodIn_r _ [751, 87, 53, 54, 55, 56, 62, 88, 290, 282, 283, 284, 5, 285, 636, 637, 638, 639, 50, 57, 617, 618, 619, 620, 291, 292, 293, 294, 60, 761, 762, 763, 764, 765, 766, 767, 768, 769, 770, 771, 772, 773, 774, 775, 776, 777, 778, 779, 780, 781, 782, 783] (by decide +kernel) (by decide +kernel)
set_option maxRecDepth 20000 in
theorem gL_law_X4_told : GoodIn wsL_law9 (wsV RL 189 RX4 yX4_told wsX4_told) := goodIn_app (goodIn_of _ (by decide +kernel)) ggL_law_X4_told
