set_option maxRecDepth 20000 in
theorem ggX3_init_X2_init : GoodIn wsX3_init wsX2_init := goodIn_r _ [20, 21, 2, 3, 22, 23, 4, 24, 25, 26, 27, 28, 29, 30, 31, 32, 33, 34, 35, 45, 46, 47, 48, 49, 50, 51] (by decide +kernel) (by decide +kernel)
set_option maxRecDepth 20000 in
theorem gX3_init_X2_init : GoodIn wsX3_init (wsX2_init) := ggX3_init_X2_init
set_option maxRecDepth 20000 in
theorem ggX3_state_X3_isKindAndType : GoodIn wsX3_state wsX3_isKindAndType := goodIn_r _ [9] (by decide +kernel) (by decide +kernel)
set_option maxRecDepth 20000 in
theorem gX3_state_X3_isKindAndType : GoodIn wsX3_state (va_wsS RX3 46 yX3_isKindAndType wsX3_isKindAndType) := goodIn_app (goodIn_of _ (by decide +kernel)) ggX3_state_X3_isKindAndType
set_option maxRecDepth 20000 in
theorem ggX3_state_X2_tellState : GoodIn wsX3_state wsX2_tellState := goodIn_r _ [14, 15, 16, 17, 27, 28, 29, 30, 31] (by decide +kernel) (by decide +kernel)
set_option maxRecDepth 20000 in
theorem gX3_state_X2_tellState : GoodIn wsX3_state (wsV RX3 59 RX2 yX2_tellState wsX2_tellState) := goodIn_app (goodIn_of _ (by decide +kernel)) ggX3_state_X2_tellState
set_option maxRecDepth 20000 in
theorem ggX3_put_X3_needToWrite : GoodIn wsX3_put wsX3_needToWrite := goodIn_ca (goodIn_ca (goodIn_ca (goodIn_r _ [5, 6, 7, 8, 9, 10, 11, 12, 13, 4, 14, 15, 16, 17, 18, 19, 20, 21, 22, 23, 24, 25, 26, 27, 28, 29, 144, 145, 146, 147, 148, 149, 150, 151, 152, 153, 154, 155, 156, 157] (by decide +kernel) (by decide +kernel)) (goodIn_sub (fun _ h => List.mem_cons_of_mem _ (List.mem_append_left _ (List.mem_append_left _ (List.mem_append_right _ h)))) (by decide +kernel))) (goodIn_sub (fun _ h => List.mem_cons_of_mem _ (List.mem_append_left _ (List.mem_append_right _ h))) (by decide +kernel))) (goodIn_sub (fun _ h => List.mem_cons_of_mem _ (List.mem_append_right _ h)) (by decide +kernel))
set_option maxRecDepth 20000 in
theorem gX3_put_X3_needToWrite : GoodIn wsX3_put (wsV RX3 63 RX3 yX3_needToWrite wsX3_needToWrite) := goodIn_app (goodIn_of _ (by decide +kernel)) ggX3_put_X3_needToWrite
set_option maxRecDepth 20000 in
theorem ggX3_put_X3_entryAtHand : GoodIn wsX3_put wsX3_entryAtHand := goodIn_r _ [33, 8, 34, 35, 36, 37, 38, 39, 40, 41, 42, 43, 44, 45, 46, 4, 47, 48, 49, 50, 51, 52, 53, 54, 55, 56, 57, 58, 59, 60, 61, 62, 63, 64, 65, 66, 67, 68, 69, 144, 145, 146, 147, 148, 149, 150, 151, 152, 153, 154, 155, 156, 157, 158, 159, 160, 161, 162, 163, 164, 165] (by decide +kernel) (by decide +kernel)
set_option maxRecDepth 20000 in
theorem gX3_put_X3_entryAtHand : GoodIn wsX3_put (wsV RX3 67 RX3 yX3_entryAtHand wsX3_entryAtHand) := goodIn_app (goodIn_of _ (by decide +kernel)) ggX3_put_X3_entryAtHand
set_option maxRecDepth 20000 in
theorem ggX3_put_X3_hasNoRoomFor : GoodIn wsX3_put wsX3_hasNoRoomFor := goodIn_r _ [73, 8, 74, 75, 76, 44, 77, 67, 78, 79, 80, 39, 81, 41, 82, 83, 84, 51, 85, 53, 144, 145, 146, 147, 148, 149, 150, 151, 152, 158, 159, 160, 161, 162, 163, 153, 154, 155, 156, 157, 164, 165] (by decide +kernel) (by decide +kernel)
set_option maxRecDepth 20000 in
theorem gX3_put_X3_hasNoRoomFor : GoodIn wsX3_put (wsV RX3 71 RX3 yX3_hasNoRoomFor wsX3_hasNoRoomFor) := goodIn_app (goodIn_of _ (by decide +kernel)) ggX3_put_X3_hasNoRoomFor
set_option maxRecDepth 20000 in
theorem ggX3_put_X0_withOnly : GoodIn wsX3_put wsX0_withOnly := goodIn_r _ [89, 90, 43, 44, 91, 92, 93, 94, 64, 65, 66, 58, 59, 60, 67, 68, 69, 158, 159, 160, 161, 162, 163] (by decide +kernel) (by decide +kernel)
set_option maxRecDepth 20000 in
theorem gX3_put_X0_withOnly : GoodIn wsX3_put (wsV RX3 75 RX0 yX0_withOnly wsX0_withOnly) := goodIn_app (goodIn_of _ (by decide +kernel)) ggX3_put_X0_withOnly
set_option maxRecDepth 20000 in
theorem ggX3_put_X3_keep : GoodIn wsX3_put wsX3_keep := goodIn_r _ [98, 99, 100, 101, 102, 46, 4, 47, 103, 104, 105, 106, 8, 107, 108, 109, 110, 111, 51, 112, 113, 114, 115, 116, 117, 118, 119, 53, 120, 121, 122, 123, 124, 125, 126, 127, 128, 129, 65, 66, 130, 131, 132, 133, 134, 135, 136, 137, 138, 49, 50, 52, 54, 55, 56, 44, 57, 58, 59, 60, 139, 140, 141, 142, 143, 75, 76, 77, 67, 158, 159, 160, 161, 162, 163, 144, 145, 146, 147, 148, 149, 150, 151, 152, 153, 154, 155, 156, 157, 164, 165] (by decide +kernel) (by decide +kernel)
set_option maxRecDepth 20000 in
theorem gX3_put_X3_keep : GoodIn wsX3_put (wsV RX3 81 RX3 yX3_keep wsX3_keep) := goodIn_app (goodIn_of _ (by decide +kernel)) ggX3_put_X3_keep
set_option maxRecDepth 20000 in
theorem ggX3_put_X0_isNone : GoodIn wsX3_put wsX0_isNone := goodIn_r _ [77, 67, 158, 159, 160, 161, 162, 163] (by decide +kernel) (by decide +kernel)
set_option maxRecDepth 20000 in
theorem gX3_put_X0_isNone : GoodIn wsX3_put (wsV RX3 85 RX0 yX0_isNone wsX0_isNone) := goodIn_app (goodIn_of _ (by decide +kernel)) ggX3_put_X0_isNone
set_option maxRecDepth 20000 in
theorem ggX3_value_X3_needToRead : GoodIn wsX3_value wsX3_needToRead := goodIn_ca (goodIn_ca (goodIn_ca (goodIn_r _ [8, 9, 10, 11, 12, 13, 14, 15, 7, 16, 17, 18, 19, 20, 21, 22, 23, 24, 25, 26, 77, 78, 79, 80, 81, 82, 83, 84, 85, 86, 87, 88, 89, 90] (by decide +kernel) (by decide +kernel)) (goodIn_sub (fun _ h => List.mem_cons_of_mem _ (List.mem_append_left _ (List.mem_append_left _ (List.mem_append_right _ h)))) (by decide +kernel))) (goodIn_sub (fun _ h => List.mem_cons_of_mem _ (List.mem_append_left _ (List.mem_append_right _ h))) (by decide +kernel))) (goodIn_sub (fun _ h => List.mem_cons_of_mem _ (List.mem_append_right _ h)) (by decide +kernel))
set_option maxRecDepth 20000 in
theorem gX3_value_X3_needToRead : GoodIn wsX3_value (wsV RX3 89 RX3 yX3_needToRead wsX3_needToRead) := goodIn_app (goodIn_of _ (by decide +kernel)) ggX3_value_X3_needToRead
set_option maxRecDepth 20000 in
theorem ggX3_value_X3_entryAtHand : GoodIn wsX3_value wsX3_entryAtHand := goodIn_r _ [30, 11, 31, 32, 33, 34, 35, 36, 37, 38, 39, 40, 41, 42, 43, 7, 44, 45, 46, 47, 48, 49, 50, 51, 52, 53, 54, 55, 56, 57, 58, 59, 60, 61, 62, 63, 64, 65, 66, 77, 78, 79, 80, 81, 82, 83, 84, 85, 86, 87, 88, 89, 90, 71, 72, 73, 74, 75, 76, 91, 92] (by decide +kernel) (by decide +kernel)
set_option maxRecDepth 20000 in
theorem gX3_value_X3_entryAtHand : GoodIn wsX3_value (wsV RX3 67 RX3 yX3_entryAtHand wsX3_entryAtHand) := goodIn_app (goodIn_of _ (by decide +kernel)) ggX3_value_X3_entryAtHand
set_option maxRecDepth 20000 in
theorem ggX3_value_X0_isNone : GoodIn wsX3_value wsX0_isNone := goodIn_r _ [70, 64, 71, 72, 73, 74, 75, 76] (by decide +kernel) (by decide +kernel)
set_option maxRecDepth 20000 in
theorem gX3_value_X0_isNone : GoodIn wsX3_value (wsV RX3 85 RX0 yX0_isNone wsX0_isNone) := goodIn_app (goodIn_of _ (by decide +kernel)) ggX3_value_X0_isNone
set_option maxRecDepth 20000 in
theorem ggX3_add_X3_needToWrite : GoodIn wsX3_add wsX3_needToWrite := goodIn_ca (goodIn_ca (goodIn_ca (goodIn_r _ [6, 7, 8, 9, 10, 11, 12, 13, 14, 5, 15, 16, 17, 18, 19, 20, 21, 22, 23, 24, 25, 26, 27, 28, 29, 30, 158, 159, 160, 161, 162, 163, 164, 165, 166, 167, 168, 169, 170, 171] (by decide +kernel) (by decide +kernel)) (goodIn_sub (fun _ h => List.mem_cons_of_mem _ (List.mem_append_left _ (List.mem_append_left _ (List.mem_append_right _ h)))) (by decide +kernel))) (goodIn_sub (fun _ h => List.mem_cons_of_mem _ (List.mem_append_left _ (List.mem_append_right _ h))) (by decide +kernel))) (goodIn_sub (fun _ h => List.mem_cons_of_mem _ (List.mem_append_right _ h)) (by decide +kernel))
set_option maxRecDepth 20000 in
theorem gX3_add_X3_needToWrite : GoodIn wsX3_add (wsV RX3 63 RX3 yX3_needToWrite wsX3_needToWrite) := goodIn_app (goodIn_of _ (by decide +kernel)) ggX3_add_X3_needToWrite
set_option maxRecDepth 20000 in
theorem ggX3_add_X3_entryAtHand : GoodIn wsX3_add wsX3_entryAtHand := goodIn_r _ [34, 9, 35, 36, 37, 38, 39, 40, 41, 42, 43, 44, 45, 46, 47, 5, 48, 49, 50, 51, 52, 53, 54, 55, 56, 57, 58, 59, 60, 61, 62, 63, 64, 65, 66, 67, 68, 69, 70, 158, 159, 160, 161, 162, 163, 164, 165, 166, 167, 168, 169, 170, 171, 152, 153, 154, 155, 156, 157, 172, 173] (by decide +kernel) (by decide +kernel)
set_option maxRecDepth 20000 in
theorem gX3_add_X3_entryAtHand : GoodIn wsX3_add (wsV RX3 67 RX3 yX3_entryAtHand wsX3_entryAtHand) := goodIn_app (goodIn_of _ (by decide +kernel)) ggX3_add_X3_entryAtHand
set_option maxRecDepth 20000 in
theorem ggX3_add_X3_hasNoRoomFor : GoodIn wsX3_add wsX3_hasNoRoomFor := goodIn_r _ [74, 9, 75, 76, 77, 45, 78, 68, 79, 80, 81, 40, 82, 42, 83, 84, 85, 52, 86, 54, 158, 159, 160, 161, 162, 163, 164, 165, 166, 152, 153, 154, 155, 156, 157, 167, 168, 169, 170, 171, 172, 173] (by decide +kernel) (by decide +kernel)
set_option maxRecDepth 20000 in
theorem gX3_add_X3_hasNoRoomFor : GoodIn wsX3_add (wsV RX3 71 RX3 yX3_hasNoRoomFor wsX3_hasNoRoomFor) := goodIn_app (goodIn_of _ (by decide +kernel)) ggX3_add_X3_hasNoRoomFor
set_option maxRecDepth 20000 in
theorem ggX3_add_X0_withOneMore : GoodIn wsX3_add wsX0_withOneMore := goodIn_r _ [90, 91, 44, 45, 68, 92, 93, 94, 95, 96, 97, 98, 99, 100, 101, 102, 65, 66, 67, 59, 60, 61, 69, 70, 152, 153, 154, 155, 156, 157] (by decide +kernel) (by decide +kernel)
set_option maxRecDepth 20000 in
theorem gX3_add_X0_withOneMore : GoodIn wsX3_add (wsV RX3 103 RX0 yX0_withOneMore wsX0_withOneMore) := goodIn_app (goodIn_of _ (by decide +kernel)) ggX3_add_X0_withOneMore
set_option maxRecDepth 20000 in
theorem ggX3_add_X3_keep : GoodIn wsX3_add wsX3_keep := goodIn_r _ [106, 107, 108, 109, 110, 47, 5, 48, 111, 112, 113, 114, 9, 115, 116, 117, 118, 119, 52, 120, 121, 122, 123, 124, 125, 126, 127, 54, 128, 129, 130, 131, 132, 133, 134, 135, 136, 137, 66, 67, 138, 139, 140, 141, 142, 143, 144, 145, 146, 50, 51, 53, 55, 56, 57, 45, 58, 59, 60, 61, 147, 148, 149, 150, 151, 76, 77, 78, 68, 152, 153, 154, 155, 156, 157, 158, 159, 160, 161, 162, 163, 164, 165, 166, 167, 168, 169, 170, 171, 172, 173] (by decide +kernel) (by decide +kernel)
set_option maxRecDepth 20000 in
theorem gX3_add_X3_keep : GoodIn wsX3_add (wsV RX3 81 RX3 yX3_keep wsX3_keep) := goodIn_app (goodIn_of _ (by decide +kernel)) ggX3_add_X3_keep
set_option maxRecDepth 20000 in
theorem ggX3_item_X3_needToRead : GoodIn wsX3_item wsX3_needToRead := goodIn_ca (goodIn_ca (goodIn_ca (goodIn_r _ [6, 7, 8, 9, 10, 11, 12, 13, 5, 14, 15, 16, 17, 18, 19, 20, 21, 22, 23, 24, 74, 75, 76, 77, 78, 79, 80, 81, 82, 83, 84, 85, 86, 87] (by decide +kernel) (by decide +kernel)) (goodIn_sub (fun _ h => List.mem_cons_of_mem _ (List.mem_append_left _ (List.mem_append_left _ (List.mem_append_right _ h)))) (by decide +kernel))) (goodIn_sub (fun _ h => List.mem_cons_of_mem _ (List.mem_append_left _ (List.mem_append_right _ h))) (by decide +kernel))) (goodIn_sub (fun _ h => List.mem_cons_of_mem _ (List.mem_append_right _ h)) (by decide +kernel))
set_option maxRecDepth 20000 in
theorem gX3_item_X3_needToRead : GoodIn wsX3_item (wsV RX3 89 RX3 yX3_needToRead wsX3_needToRead) := goodIn_app (goodIn_of _ (by decide +kernel)) ggX3_item_X3_needToRead
set_option maxRecDepth 20000 in
theorem ggX3_item_X3_entryAtHand : GoodIn wsX3_item wsX3_entryAtHand := goodIn_r _ [28, 9, 29, 30, 31, 32, 33, 34, 35, 36, 37, 38, 39, 40, 41, 5, 42, 43, 44, 45, 46, 47, 48, 49, 50, 51, 52, 53, 54, 55, 56, 57, 58, 59, 60, 61, 62, 63, 64, 74, 75, 76, 77, 78, 79, 80, 81, 82, 83, 84, 85, 86, 87, 68, 69, 70, 71, 72, 73, 88, 89] (by decide +kernel) (by decide +kernel)
set_option maxRecDepth 20000 in
theorem gX3_item_X3_entryAtHand : GoodIn wsX3_item (wsV RX3 67 RX3 yX3_entryAtHand wsX3_entryAtHand) := goodIn_app (goodIn_of _ (by decide +kernel)) ggX3_item_X3_entryAtHand
set_option maxRecDepth 20000 in
theorem ggX3_item_X3_numberAt : GoodIn wsX3_item wsX3_numberAt := goodIn_ca (goodIn_r _ [67, 15, 16] (by decide +kernel) (by decide +kernel)) (goodIn_sub (fun _ h => List.mem_cons_of_mem _ (List.mem_append_left _ (List.mem_append_right _ h))) (by decide +kernel))
set_option maxRecDepth 20000 in
theorem gX3_item_X3_numberAt : GoodIn wsX3_item (va_wsS RX3 106 yX3_numberAt wsX3_numberAt) := goodIn_app (goodIn_of _ (by decide +kernel)) ggX3_item_X3_numberAt
set_option maxRecDepth 20000 in
theorem ggX3_set_X3_needToWrite : GoodIn wsX3_set wsX3_needToWrite := goodIn_ca (goodIn_ca (goodIn_ca (goodIn_r _ [6, 7, 8, 9, 10, 11, 12, 13, 14, 5, 15, 16, 17, 18, 19, 20, 21, 22, 23, 24, 25, 26, 27, 28, 29, 30, 185, 186, 187, 188, 189, 190, 191, 192, 193, 194, 195, 196, 197, 198] (by decide +kernel) (by decide +kernel)) (goodIn_sub (fun _ h => List.mem_cons_of_mem _ (List.mem_append_left _ (List.mem_append_left _ (List.mem_append_right _ h)))) (by decide +kernel))) (goodIn_sub (fun _ h => List.mem_cons_of_mem _ (List.mem_append_left _ (List.mem_append_right _ h))) (by decide +kernel))) (goodIn_sub (fun _ h => List.mem_cons_of_mem _ (List.mem_append_right _ h)) (by decide +kernel))
set_option maxRecDepth 20000 in
theorem gX3_set_X3_needToWrite : GoodIn wsX3_set (wsV RX3 63 RX3 yX3_needToWrite wsX3_needToWrite) := goodIn_app (goodIn_of _ (by decide +kernel)) ggX3_set_X3_needToWrite
set_option maxRecDepth 20000 in
theorem ggX3_set_X3_entryAtHand : GoodIn wsX3_set wsX3_entryAtHand := goodIn_r _ [34, 9, 35, 36, 37, 38, 39, 40, 41, 42, 43, 44, 45, 46, 47, 5, 48, 49, 50, 51, 52, 53, 54, 55, 56, 57, 58, 59, 60, 61, 62, 63, 64, 65, 66, 67, 68, 69, 70, 185, 186, 187, 188, 189, 190, 191, 192, 193, 194, 195, 196, 197, 198, 179, 180, 181, 182, 183, 184, 199, 200] (by decide +kernel) (by decide +kernel)
set_option maxRecDepth 20000 in
theorem gX3_set_X3_entryAtHand : GoodIn wsX3_set (wsV RX3 67 RX3 yX3_entryAtHand wsX3_entryAtHand) := goodIn_app (goodIn_of _ (by decide +kernel)) ggX3_set_X3_entryAtHand
set_option maxRecDepth 20000 in
theorem ggX3_set_X0_placeOf : GoodIn wsX3_set wsX0_placeOf := goodIn_r _ [74, 69, 75, 5, 76, 179, 180, 181, 182, 183, 184] (by decide +kernel) (by decide +kernel)
set_option maxRecDepth 20000 in
theorem gX3_set_X0_placeOf : GoodIn wsX3_set (wsV RX3 110 RX0 yX0_placeOf wsX0_placeOf) := goodIn_app (goodIn_of _ (by decide +kernel)) ggX3_set_X0_placeOf
set_option maxRecDepth 20000 in
theorem ggX3_set_X0_hasMember : GoodIn wsX3_set wsX0_hasMember := goodIn_r _ [80, 69, 179, 180, 181, 182, 183, 184] (by decide +kernel) (by decide +kernel)
set_option maxRecDepth 20000 in
theorem gX3_set_X0_hasMember : GoodIn wsX3_set (wsV RX3 114 RX0 yX0_hasMember wsX0_hasMember) := goodIn_app (goodIn_of _ (by decide +kernel)) ggX3_set_X0_hasMember
set_option maxRecDepth 20000 in
theorem ggX3_set_X0_withNumberAt : GoodIn wsX3_set wsX0_withNumberAt := goodIn_r _ [84, 68, 85, 44, 45, 69, 86, 87, 88, 89, 90, 91, 92, 93, 94, 95, 96, 97, 98, 99, 100, 101, 102, 103, 104, 105, 106, 107, 65, 66, 67, 59, 60, 61, 70, 179, 180, 181, 182, 183, 184] (by decide +kernel) (by decide +kernel)
set_option maxRecDepth 20000 in
theorem gX3_set_X0_withNumberAt : GoodIn wsX3_set (wsV RX3 118 RX0 yX0_withNumberAt wsX0_withNumberAt) := goodIn_app (goodIn_of _ (by decide +kernel)) ggX3_set_X0_withNumberAt
set_option maxRecDepth 20000 in
theorem ggX3_set_X3_keep : GoodIn wsX3_set wsX3_keep := goodIn_r _ [111, 112, 113, 114, 115, 47, 5, 48, 116, 117, 118, 119, 9, 120, 121, 122, 123, 124, 52, 125, 126, 127, 128, 129, 130, 131, 132, 54, 133, 134, 92, 93, 135, 136, 137, 138, 139, 140, 66, 67, 141, 142, 143, 144, 145, 146, 147, 148, 149, 50, 51, 53, 55, 56, 57, 45, 58, 59, 60, 61, 150, 151, 152, 153, 154, 155, 156, 157, 68, 179, 180, 181, 182, 183, 184, 185, 186, 187, 188, 189, 190, 191, 192, 193, 194, 195, 196, 197, 198, 199, 200] (by decide +kernel) (by decide +kernel)
set_option maxRecDepth 20000 in
theorem gX3_set_X3_keep : GoodIn wsX3_set (wsV RX3 81 RX3 yX3_keep wsX3_keep) := goodIn_app (goodIn_of _ (by decide +kernel)) ggX3_set_X3_keep
set_option maxRecDepth 20000 in
theorem ggX3_set_X3_hasNoRoomFor : GoodIn wsX3_set wsX3_hasNoRoomFor := goodIn_r _ [161, 9, 162, 155, 156, 45, 157, 68, 163, 164, 165, 40, 166, 42, 167, 168, 169, 52, 170, 54, 185, 186, 187, 188, 189, 190, 191, 192, 193, 179, 180, 181, 182, 183, 184, 194, 195, 196, 197, 198, 199, 200] (by decide +kernel) (by decide +kernel)
set_option maxRecDepth 20000 in
theorem gX3_set_X3_hasNoRoomFor : GoodIn wsX3_set (wsV RX3 71 RX3 yX3_hasNoRoomFor wsX3_hasNoRoomFor) := goodIn_app (goodIn_of _ (by decide +kernel)) ggX3_set_X3_hasNoRoomFor
set_option maxRecDepth 20000 in
theorem ggX3_set_X0_withMember : GoodIn wsX3_set wsX0_withMember := goodIn_r _ [174, 85, 44, 45, 68, 69, 175, 176, 177, 96, 178, 102, 103, 104, 105, 106, 107, 65, 66, 67, 59, 60, 61, 70, 179, 180, 181, 182, 183, 184] (by decide +kernel) (by decide +kernel)
set_option maxRecDepth 20000 in
theorem gX3_set_X0_withMember : GoodIn wsX3_set (wsV RX3 125 RX0 yX0_withMember wsX0_withMember) := goodIn_app (goodIn_of _ (by decide +kernel)) ggX3_set_X0_withMember
set_option maxRecDepth 20000 in
theorem ggX3_get_X3_needToRead : GoodIn wsX3_get wsX3_needToRead := goodIn_ca (goodIn_ca (goodIn_ca (goodIn_r _ [8, 9, 10, 11, 12, 13, 14, 15, 7, 16, 17, 18, 19, 20, 21, 22, 23, 24, 25, 26, 83, 84, 85, 86, 87, 88, 89, 90, 91, 92, 93, 94, 95, 96] (by decide +kernel) (by decide +kernel)) (goodIn_sub (fun _ h => List.mem_cons_of_mem _ (List.mem_append_left _ (List.mem_append_left _ (List.mem_append_right _ h)))) (by decide +kernel))) (goodIn_sub (fun _ h => List.mem_cons_of_mem _ (List.mem_append_left _ (List.mem_append_right _ h))) (by decide +kernel))) (goodIn_sub (fun _ h => List.mem_cons_of_mem _ (List.mem_append_right _ h)) (by decide +kernel))
set_option maxRecDepth 20000 in
theorem gX3_get_X3_needToRead : GoodIn wsX3_get (wsV RX3 89 RX3 yX3_needToRead wsX3_needToRead) := goodIn_app (goodIn_of _ (by decide +kernel)) ggX3_get_X3_needToRead
set_option maxRecDepth 20000 in
theorem ggX3_get_X3_entryAtHand : GoodIn wsX3_get wsX3_entryAtHand := goodIn_r _ [30, 11, 31, 32, 33, 34, 35, 36, 37, 38, 39, 40, 41, 42, 43, 7, 44, 45, 46, 47, 48, 49, 50, 51, 52, 53, 54, 55, 56, 57, 58, 59, 60, 61, 62, 63, 64, 65, 66, 83, 84, 85, 86, 87, 88, 89, 90, 91, 92, 93, 94, 95, 96, 77, 78, 79, 80, 81, 82, 97, 98] (by decide +kernel) (by decide +kernel)
set_option maxRecDepth 20000 in
theorem gX3_get_X3_entryAtHand : GoodIn wsX3_get (wsV RX3 67 RX3 yX3_entryAtHand wsX3_entryAtHand) := goodIn_app (goodIn_of _ (by decide +kernel)) ggX3_get_X3_entryAtHand
set_option maxRecDepth 20000 in
theorem ggX3_get_X0_placeOf : GoodIn wsX3_get wsX0_placeOf := goodIn_r _ [70, 65, 71, 7, 72, 77, 78, 79, 80, 81, 82] (by decide +kernel) (by decide +kernel)
set_option maxRecDepth 20000 in
theorem gX3_get_X0_placeOf : GoodIn wsX3_get (wsV RX3 110 RX0 yX0_placeOf wsX0_placeOf) := goodIn_app (goodIn_of _ (by decide +kernel)) ggX3_get_X0_placeOf
set_option maxRecDepth 20000 in
theorem ggX3_get_X0_hasMember : GoodIn wsX3_get wsX0_hasMember := goodIn_r _ [76, 65, 77, 78, 79, 80, 81, 82] (by decide +kernel) (by decide +kernel)
set_option maxRecDepth 20000 in
theorem gX3_get_X0_hasMember : GoodIn wsX3_get (wsV RX3 114 RX0 yX0_hasMember wsX0_hasMember) := goodIn_app (goodIn_of _ (by decide +kernel)) ggX3_get_X0_hasMember
set_option maxRecDepth 20000 in
theorem ggX3_member_X3_needToRead : GoodIn wsX3_member wsX3_needToRead := goodIn_ca (goodIn_ca (goodIn_ca (goodIn_r _ [6, 7, 8, 9, 10, 11, 12, 13, 5, 14, 15, 16, 17, 18, 19, 20, 21, 22, 23, 24, 74, 75, 76, 77, 78, 79, 80, 81, 82, 83, 84, 85, 86, 87] (by decide +kernel) (by decide +kernel)) (goodIn_sub (fun _ h => List.mem_cons_of_mem _ (List.mem_append_left _ (List.mem_append_left _ (List.mem_append_right _ h)))) (by decide +kernel))) (goodIn_sub (fun _ h => List.mem_cons_of_mem _ (List.mem_append_left _ (List.mem_append_right _ h))) (by decide +kernel))) (goodIn_sub (fun _ h => List.mem_cons_of_mem _ (List.mem_append_right _ h)) (by decide +kernel))
set_option maxRecDepth 20000 in
theorem gX3_member_X3_needToRead : GoodIn wsX3_member (wsV RX3 89 RX3 yX3_needToRead wsX3_needToRead) := goodIn_app (goodIn_of _ (by decide +kernel)) ggX3_member_X3_needToRead
set_option maxRecDepth 20000 in
theorem ggX3_member_X3_entryAtHand : GoodIn wsX3_member wsX3_entryAtHand := goodIn_r _ [28, 9, 29, 30, 31, 32, 33, 34, 35, 36, 37, 38, 39, 40, 41, 5, 42, 43, 44, 45, 46, 47, 48, 49, 50, 51, 52, 53, 54, 55, 56, 57, 58, 59, 60, 61, 62, 63, 64, 74, 75, 76, 77, 78, 79, 80, 81, 82, 83, 84, 85, 86, 87, 68, 69, 70, 71, 72, 73, 88, 89] (by decide +kernel) (by decide +kernel)
set_option maxRecDepth 20000 in
theorem gX3_member_X3_entryAtHand : GoodIn wsX3_member (wsV RX3 67 RX3 yX3_entryAtHand wsX3_entryAtHand) := goodIn_app (goodIn_of _ (by decide +kernel)) ggX3_member_X3_entryAtHand
set_option maxRecDepth 20000 in
theorem ggX3_member_X3_numberAt : GoodIn wsX3_member wsX3_numberAt := goodIn_ca (goodIn_r _ [67, 15, 16] (by decide +kernel) (by decide +kernel)) (goodIn_sub (fun _ h => List.mem_cons_of_mem _ (List.mem_append_left _ (List.mem_append_right _ h))) (by decide +kernel))
set_option maxRecDepth 20000 in
theorem gX3_member_X3_numberAt : GoodIn wsX3_member (va_wsS RX3 106 yX3_numberAt wsX3_numberAt) := goodIn_app (goodIn_of _ (by decide +kernel)) ggX3_member_X3_numberAt
set_option maxRecDepth 20000 in
theorem ggX3_remove_X3_needToRead : GoodIn wsX3_remove wsX3_needToRead := goodIn_ca (goodIn_ca (goodIn_ca (goodIn_r _ [5, 6, 7, 8, 9, 10, 11, 12, 4, 13, 14, 15, 16, 17, 18, 19, 20, 21, 22, 23, 142, 143, 144, 145, 146, 147, 148, 149, 150, 151, 152, 153, 154, 155] (by decide +kernel) (by decide +kernel)) (goodIn_sub (fun _ h => List.mem_cons_of_mem _ (List.mem_append_left _ (List.mem_append_left _ (List.mem_append_right _ h)))) (by decide +kernel))) (goodIn_sub (fun _ h => List.mem_cons_of_mem _ (List.mem_append_left _ (List.mem_append_right _ h))) (by decide +kernel))) (goodIn_sub (fun _ h => List.mem_cons_of_mem _ (List.mem_append_right _ h)) (by decide +kernel))
set_option maxRecDepth 20000 in
theorem gX3_remove_X3_needToRead : GoodIn wsX3_remove (wsV RX3 89 RX3 yX3_needToRead wsX3_needToRead) := goodIn_app (goodIn_of _ (by decide +kernel)) ggX3_remove_X3_needToRead
set_option maxRecDepth 20000 in
theorem ggX3_remove_X3_entryAtHand : GoodIn wsX3_remove wsX3_entryAtHand := goodIn_r _ [27, 8, 28, 29, 30, 31, 32, 33, 34, 35, 36, 37, 38, 39, 40, 4, 41, 42, 43, 44, 45, 46, 47, 48, 49, 50, 51, 52, 53, 54, 55, 56, 57, 58, 59, 60, 61, 62, 63, 142, 143, 144, 145, 146, 147, 148, 149, 150, 151, 152, 153, 154, 155, 156, 157, 158, 159, 160, 161, 162, 163] (by decide +kernel) (by decide +kernel)
set_option maxRecDepth 20000 in
theorem gX3_remove_X3_entryAtHand : GoodIn wsX3_remove (wsV RX3 67 RX3 yX3_entryAtHand wsX3_entryAtHand) := goodIn_app (goodIn_of _ (by decide +kernel)) ggX3_remove_X3_entryAtHand
set_option maxRecDepth 20000 in
theorem ggX3_remove_X0_placeOf : GoodIn wsX3_remove wsX0_placeOf := goodIn_r _ [67, 62, 68, 4, 69, 156, 157, 158, 159, 160, 161] (by decide +kernel) (by decide +kernel)
set_option maxRecDepth 20000 in
theorem gX3_remove_X0_placeOf : GoodIn wsX3_remove (wsV RX3 110 RX0 yX0_placeOf wsX0_placeOf) := goodIn_app (goodIn_of _ (by decide +kernel)) ggX3_remove_X0_placeOf
set_option maxRecDepth 20000 in
theorem ggX3_remove_X0_hasMember : GoodIn wsX3_remove wsX0_hasMember := goodIn_r _ [73, 62, 156, 157, 158, 159, 160, 161] (by decide +kernel) (by decide +kernel)
set_option maxRecDepth 20000 in
theorem gX3_remove_X0_hasMember : GoodIn wsX3_remove (wsV RX3 114 RX0 yX0_hasMember wsX0_hasMember) := goodIn_app (goodIn_of _ (by decide +kernel)) ggX3_remove_X0_hasMember
set_option maxRecDepth 20000 in
theorem ggX3_remove_X0_withoutMember : GoodIn wsX3_remove wsX0_withoutMember := goodIn_r _ [77, 78, 37, 38, 61, 62, 79, 80, 81, 82, 83, 84, 85, 86, 87, 88, 89, 58, 59, 60, 52, 53, 54, 63, 156, 157, 158, 159, 160, 161] (by decide +kernel) (by decide +kernel)
set_option maxRecDepth 20000 in
theorem gX3_remove_X0_withoutMember : GoodIn wsX3_remove (wsV RX3 131 RX0 yX0_withoutMember wsX0_withoutMember) := goodIn_app (goodIn_of _ (by decide +kernel)) ggX3_remove_X0_withoutMember
set_option maxRecDepth 20000 in
theorem ggX3_remove_X3_keep : GoodIn wsX3_remove wsX3_keep := goodIn_r _ [93, 94, 95, 96, 97, 40, 4, 41, 98, 99, 100, 101, 8, 102, 103, 104, 105, 106, 45, 107, 108, 109, 110, 111, 112, 113, 114, 47, 115, 116, 117, 118, 119, 120, 121, 122, 123, 124, 59, 60, 125, 126, 127, 128, 129, 130, 131, 132, 133, 43, 44, 46, 48, 49, 50, 38, 51, 52, 53, 54, 134, 135, 136, 137, 138, 139, 140, 141, 61, 156, 157, 158, 159, 160, 161, 142, 143, 144, 145, 146, 147, 148, 149, 150, 151, 152, 153, 154, 155, 162, 163] (by decide +kernel) (by decide +kernel)
set_option maxRecDepth 20000 in
theorem gX3_remove_X3_keep : GoodIn wsX3_remove (wsV RX3 81 RX3 yX3_keep wsX3_keep) := goodIn_app (goodIn_of _ (by decide +kernel)) ggX3_remove_X3_keep
set_option maxRecDepth 20000 in
theorem ggX3_fold_X3_needToWrite : GoodIn wsX3_fold wsX3_needToWrite := goodIn_ca (goodIn_ca (goodIn_ca (goodIn_r _ [8, 9, 10, 1, 11, 2, 12, 13, 14, 7, 15, 16, 17, 18, 19, 20, 21, 22, 23, 24, 25, 26, 27, 28, 29, 30, 155, 156, 157, 158, 159, 160, 161, 162, 163, 164, 165, 166, 167, 168] (by decide +kernel) (by decide +kernel)) (goodIn_sub (fun _ h => List.mem_cons_of_mem _ (List.mem_append_left _ (List.mem_append_left _ (List.mem_append_right _ h)))) (by decide +kernel))) (goodIn_sub (fun _ h => List.mem_cons_of_mem _ (List.mem_append_left _ (List.mem_append_right _ h))) (by decide +kernel))) (goodIn_sub (fun _ h => List.mem_cons_of_mem _ (List.mem_append_right _ h)) (by decide +kernel))
set_option maxRecDepth 20000 in
theorem gX3_fold_X3_needToWrite : GoodIn wsX3_fold (wsV RX3 63 RX3 yX3_needToWrite wsX3_needToWrite) := goodIn_app (goodIn_of _ (by decide +kernel)) ggX3_fold_X3_needToWrite
set_option maxRecDepth 20000 in
theorem ggX3_fold_X3_entryAtHand : GoodIn wsX3_fold wsX3_entryAtHand := goodIn_r _ [34, 1, 35, 36, 37, 38, 39, 40, 41, 42, 43, 44, 45, 46, 47, 7, 48, 49, 50, 51, 52, 53, 54, 55, 56, 57, 58, 59, 60, 61, 62, 63, 64, 65, 66, 67, 68, 69, 70, 155, 156, 157, 158, 159, 160, 161, 162, 163, 164, 165, 166, 167, 168, 169, 170, 171, 172, 173, 174, 175, 176] (by decide +kernel) (by decide +kernel)
set_option maxRecDepth 20000 in
theorem gX3_fold_X3_entryAtHand : GoodIn wsX3_fold (wsV RX3 67 RX3 yX3_entryAtHand wsX3_entryAtHand) := goodIn_app (goodIn_of _ (by decide +kernel)) ggX3_fold_X3_entryAtHand
set_option maxRecDepth 20000 in
theorem ggX3_fold_X3_hasNoRoomFor : GoodIn wsX3_fold wsX3_hasNoRoomFor := goodIn_r _ [74, 1, 75, 76, 77, 45, 78, 68, 79, 80, 81, 40, 82, 42, 83, 84, 85, 52, 86, 54, 155, 156, 157, 158, 159, 160, 161, 162, 163, 169, 170, 171, 172, 173, 174, 164, 165, 166, 167, 168, 175, 176] (by decide +kernel) (by decide +kernel)
set_option maxRecDepth 20000 in
theorem gX3_fold_X3_hasNoRoomFor : GoodIn wsX3_fold (wsV RX3 71 RX3 yX3_hasNoRoomFor wsX3_hasNoRoomFor) := goodIn_app (goodIn_of _ (by decide +kernel)) ggX3_fold_X3_hasNoRoomFor
set_option maxRecDepth 20000 in
theorem ggX3_fold_X0_withFolded : GoodIn wsX3_fold wsX0_withFolded := goodIn_r _ [90, 68, 91, 44, 45, 92, 70, 93, 76, 77, 78, 94, 7, 95, 96, 97, 98, 99, 100, 101, 102, 103, 104, 105, 65, 66, 67, 59, 60, 61, 69, 169, 170, 171, 172, 173, 174] (by decide +kernel) (by decide +kernel)
set_option maxRecDepth 20000 in
theorem gX3_fold_X0_withFolded : GoodIn wsX3_fold (wsV RX3 134 RX0 yX0_withFolded wsX0_withFolded) := goodIn_app (goodIn_of _ (by decide +kernel)) ggX3_fold_X0_withFolded
set_option maxRecDepth 20000 in
theorem ggX3_fold_X3_keep : GoodIn wsX3_fold wsX3_keep := goodIn_r _ [109, 110, 111, 112, 113, 47, 7, 48, 114, 115, 116, 117, 1, 118, 119, 120, 121, 122, 52, 123, 124, 125, 126, 127, 128, 129, 130, 54, 131, 132, 133, 134, 135, 136, 137, 138, 139, 140, 66, 67, 141, 142, 143, 144, 145, 146, 147, 148, 149, 50, 51, 53, 55, 56, 57, 45, 58, 59, 60, 61, 150, 151, 152, 153, 154, 76, 77, 78, 68, 169, 170, 171, 172, 173, 174, 155, 156, 157, 158, 159, 160, 161, 162, 163, 164, 165, 166, 167, 168, 175, 176] (by decide +kernel) (by decide +kernel)
set_option maxRecDepth 20000 in
theorem gX3_fold_X3_keep : GoodIn wsX3_fold (wsV RX3 81 RX3 yX3_keep wsX3_keep) := goodIn_app (goodIn_of _ (by decide +kernel)) ggX3_fold_X3_keep
set_option maxRecDepth 20000 in
theorem ggX3_size_X3_needState : GoodIn wsX3_size wsX3_needState := goodIn_ca (goodIn_r _ [9, 10, 11, 1, 12, 60, 61, 62, 63, 64, 65, 66, 67, 68, 69, 70, 71, 72, 73] (by decide +kernel) (by decide +kernel)) (goodIn_sub (fun _ h => List.mem_cons_of_mem _ (List.mem_append_left _ (List.mem_append_right _ h))) (by decide +kernel))
set_option maxRecDepth 20000 in
theorem gX3_size_X3_needState : GoodIn wsX3_size (wsV RX3 140 RX3 yX3_needState wsX3_needState) := goodIn_app (goodIn_of _ (by decide +kernel)) ggX3_size_X3_needState
set_option maxRecDepth 20000 in
theorem ggX3_size_X3_needKey : GoodIn wsX3_size wsX3_needKey := goodIn_ca (goodIn_r _ [16, 17, 18, 19, 60, 61, 62, 63, 64, 65, 66, 67, 68] (by decide +kernel) (by decide +kernel)) (goodIn_sub (fun _ h => List.mem_cons_of_mem _ (List.mem_append_right _ h)) (by decide +kernel))
set_option maxRecDepth 20000 in
theorem gX3_size_X3_needKey : GoodIn wsX3_size (wsV RX3 144 RX3 yX3_needKey wsX3_needKey) := goodIn_app (goodIn_of _ (by decide +kernel)) ggX3_size_X3_needKey
set_option maxRecDepth 20000 in
theorem ggX3_size_X3_entryAtHand : GoodIn wsX3_size wsX3_entryAtHand := goodIn_r _ [23, 1, 24, 25, 26, 27, 28, 29, 30, 31, 32, 33, 34, 35, 36, 8, 37, 38, 39, 40, 41, 42, 43, 44, 45, 46, 47, 48, 49, 50, 51, 52, 53, 54, 55, 56, 57, 58, 59, 60, 61, 62, 63, 64, 65, 66, 67, 68, 69, 70, 71, 72, 73, 74, 75, 76, 77, 78, 79, 80, 81] (by decide +kernel) (by decide +kernel)
set_option maxRecDepth 20000 in
theorem gX3_size_X3_entryAtHand : GoodIn wsX3_size (wsV RX3 67 RX3 yX3_entryAtHand wsX3_entryAtHand) := goodIn_app (goodIn_of _ (by decide +kernel)) ggX3_size_X3_entryAtHand
set_option maxRecDepth 20000 in
theorem ggX3_clear_X3_needState : GoodIn wsX3_clear wsX3_needState := goodIn_ca (goodIn_r _ [5, 6, 7, 8, 9, 118, 119, 120, 121, 122, 123, 124, 125, 126, 127, 128, 129, 130, 131] (by decide +kernel) (by decide +kernel)) (goodIn_sub (fun _ h => List.mem_cons_of_mem _ (List.mem_append_left _ (List.mem_append_right _ h))) (by decide +kernel))
set_option maxRecDepth 20000 in
theorem gX3_clear_X3_needState : GoodIn wsX3_clear (wsV RX3 140 RX3 yX3_needState wsX3_needState) := goodIn_app (goodIn_of _ (by decide +kernel)) ggX3_clear_X3_needState
set_option maxRecDepth 20000 in
theorem ggX3_clear_X3_needKey : GoodIn wsX3_clear wsX3_needKey := goodIn_ca (goodIn_r _ [13, 14, 15, 16, 118, 119, 120, 121, 122, 123, 124, 125, 126] (by decide +kernel) (by decide +kernel)) (goodIn_sub (fun _ h => List.mem_cons_of_mem _ (List.mem_append_right _ h)) (by decide +kernel))
set_option maxRecDepth 20000 in
theorem gX3_clear_X3_needKey : GoodIn wsX3_clear (wsV RX3 144 RX3 yX3_needKey wsX3_needKey) := goodIn_app (goodIn_of _ (by decide +kernel)) ggX3_clear_X3_needKey
set_option maxRecDepth 20000 in
theorem ggX3_clear_X3_entryAtHand : GoodIn wsX3_clear wsX3_entryAtHand := goodIn_r _ [20, 8, 21, 22, 23, 24, 25, 26, 27, 28, 29, 30, 31, 32, 33, 4, 34, 35, 36, 37, 38, 39, 40, 41, 42, 43, 44, 45, 46, 47, 48, 49, 50, 51, 52, 53, 54, 55, 56, 118, 119, 120, 121, 122, 123, 124, 125, 126, 127, 128, 129, 130, 131, 132, 133, 134, 135, 136, 137, 138, 139] (by decide +kernel) (by decide +kernel)
set_option maxRecDepth 20000 in
theorem gX3_clear_X3_entryAtHand : GoodIn wsX3_clear (wsV RX3 67 RX3 yX3_entryAtHand wsX3_entryAtHand) := goodIn_app (goodIn_of _ (by decide +kernel)) ggX3_clear_X3_entryAtHand
set_option maxRecDepth 20000 in
theorem ggX3_clear_X0_isNone : GoodIn wsX3_clear wsX0_isNone := goodIn_r _ [60, 54, 132, 133, 134, 135, 136, 137] (by decide +kernel) (by decide +kernel)
set_option maxRecDepth 20000 in
theorem gX3_clear_X0_isNone : GoodIn wsX3_clear (wsV RX3 85 RX0 yX0_isNone wsX0_isNone) := goodIn_app (goodIn_of _ (by decide +kernel)) ggX3_clear_X0_isNone
set_option maxRecDepth 20000 in
theorem ggX3_clear_X0_withNothing : GoodIn wsX3_clear wsX0_withNothing := goodIn_r _ [64, 65, 30, 31, 66, 67, 68, 51, 52, 53, 45, 46, 47, 54, 55, 56, 132, 133, 134, 135, 136, 137] (by decide +kernel) (by decide +kernel)
set_option maxRecDepth 20000 in
theorem gX3_clear_X0_withNothing : GoodIn wsX3_clear (wsV RX3 147 RX0 yX0_withNothing wsX0_withNothing) := goodIn_app (goodIn_of _ (by decide +kernel)) ggX3_clear_X0_withNothing
set_option maxRecDepth 20000 in
theorem ggX3_clear_X3_keep : GoodIn wsX3_clear wsX3_keep := goodIn_r _ [72, 73, 74, 75, 76, 33, 4, 34, 77, 78, 79, 80, 8, 81, 82, 83, 84, 85, 38, 86, 87, 88, 89, 90, 91, 92, 93, 40, 94, 95, 96, 97, 98, 99, 100, 101, 102, 103, 52, 53, 104, 105, 106, 107, 108, 109, 110, 111, 112, 36, 37, 39, 41, 42, 43, 31, 44, 45, 46, 47, 113, 114, 115, 116, 117, 58, 59, 60, 54, 132, 133, 134, 135, 136, 137, 118, 119, 120, 121, 122, 123, 124, 125, 126, 127, 128, 129, 130, 131, 138, 139] (by decide +kernel) (by decide +kernel)
set_option maxRecDepth 20000 in
theorem gX3_clear_X3_keep : GoodIn wsX3_clear (wsV RX3 81 RX3 yX3_keep wsX3_keep) := goodIn_app (goodIn_of _ (by decide +kernel)) ggX3_clear_X3_keep
set_option maxRecDepth 20000 in
theorem ggX3_clearSpan_X1_hasSpan : GoodIn wsX3_clearSpan wsX1_hasSpan := goodIn_r _ [8, 9, 10, 59, 60, 61, 62, 63, 64, 65, 66] (by decide +kernel) (by decide +kernel)
set_option maxRecDepth 20000 in
theorem gX3_clearSpan_X1_hasSpan : GoodIn wsX3_clearSpan (wsV RX3 155 RX1 yX1_hasSpan wsX1_hasSpan) := goodIn_app (goodIn_of _ (by decide +kernel)) ggX3_clearSpan_X1_hasSpan
set_option maxRecDepth 20000 in
theorem ggX3_clearSpan_X3_pageToChange : GoodIn wsX3_clearSpan wsX3_pageToChange := goodIn_r _ [15, 1, 2, 16, 17, 18, 19, 7, 20, 21, 22, 23, 24, 25, 26, 27, 9, 28, 29, 30, 31, 32, 33, 34, 35, 36, 37, 38, 39, 40, 45, 46, 47, 48, 49, 50, 51, 52, 53, 54, 55, 56, 57, 58, 59, 60] (by decide +kernel) (by decide +kernel)
set_option maxRecDepth 20000 in
theorem gX3_clearSpan_X3_pageToChange : GoodIn wsX3_clearSpan (wsV RX3 161 RX3 yX3_pageToChange wsX3_pageToChange) := goodIn_app (goodIn_of _ (by decide +kernel)) ggX3_clearSpan_X3_pageToChange
set_option maxRecDepth 20000 in
theorem ggX3_clearSpan_X1_loseSpan : GoodIn wsX3_clearSpan wsX1_loseSpan := goodIn_r _ [44, 9, 10, 59, 60, 61, 62, 63, 64, 65, 66] (by decide +kernel) (by decide +kernel)
set_option maxRecDepth 20000 in
theorem gX3_clearSpan_X1_loseSpan : GoodIn wsX3_clearSpan (wsV RX3 165 RX1 yX1_loseSpan wsX1_loseSpan) := goodIn_app (goodIn_of _ (by decide +kernel)) ggX3_clearSpan_X1_loseSpan
set_option maxRecDepth 20000 in
theorem ggX3_keys_X3_needState : GoodIn wsX3_keys wsX3_needState := goodIn_ca (goodIn_r _ [5, 6, 7, 8, 9, 32, 33, 34, 35, 36, 37, 38, 39, 40, 41, 42, 43, 44, 45] (by decide +kernel) (by decide +kernel)) (goodIn_sub (fun _ h => List.mem_cons_of_mem _ (List.mem_append_right _ h)) (by decide +kernel))
set_option maxRecDepth 20000 in
theorem gX3_keys_X3_needState : GoodIn wsX3_keys (wsV RX3 140 RX3 yX3_needState wsX3_needState) := goodIn_app (goodIn_of _ (by decide +kernel)) ggX3_keys_X3_needState
set_option maxRecDepth 20000 in
theorem ggX3_keys_X3_sortKeys : GoodIn wsX3_keys wsX3_sortKeys := goodIn_r _ [13, 8, 14, 15, 16, 17, 18, 19, 20, 21, 22, 23, 24, 25, 26, 27, 28, 29, 30, 4, 31, 32, 33, 34, 35, 36, 37, 38, 39, 40, 41, 42, 43, 44, 45, 46, 47, 48, 49, 50, 51, 52, 53] (by decide +kernel) (by decide +kernel)
set_option maxRecDepth 20000 in
theorem gX3_keys_X3_sortKeys : GoodIn wsX3_keys (wsV RX3 169 RX3 yX3_sortKeys wsX3_sortKeys) := goodIn_app (goodIn_of _ (by decide +kernel)) ggX3_keys_X3_sortKeys
set_option maxRecDepth 20000 in
theorem ggX3_keyAt_X3_needState : GoodIn wsX3_keyAt wsX3_needState := goodIn_ca (goodIn_r _ [8, 1, 2, 9, 10, 32, 33, 34, 35, 36, 37, 38, 39, 40, 41, 42, 43, 44, 45] (by decide +kernel) (by decide +kernel)) (goodIn_sub (fun _ h => List.mem_cons_of_mem _ (List.mem_append_right _ h)) (by decide +kernel))
set_option maxRecDepth 20000 in
theorem gX3_keyAt_X3_needState : GoodIn wsX3_keyAt (wsV RX3 140 RX3 yX3_needState wsX3_needState) := goodIn_app (goodIn_of _ (by decide +kernel)) ggX3_keyAt_X3_needState
set_option maxRecDepth 20000 in
theorem ggX3_keyAt_X3_sortKeys : GoodIn wsX3_keyAt wsX3_sortKeys := goodIn_r _ [14, 9, 15, 3, 16, 17, 18, 19, 20, 21, 22, 23, 24, 25, 26, 27, 28, 29, 30, 7, 31, 32, 33, 34, 35, 36, 37, 38, 39, 40, 41, 42, 43, 44, 45, 46, 47, 48, 49, 50, 51, 52, 53] (by decide +kernel) (by decide +kernel)
set_option maxRecDepth 20000 in
theorem gX3_keyAt_X3_sortKeys : GoodIn wsX3_keyAt (wsV RX3 169 RX3 yX3_sortKeys wsX3_sortKeys) := goodIn_app (goodIn_of _ (by decide +kernel)) ggX3_keyAt_X3_sortKeys
set_option maxRecDepth 20000 in
theorem ggX3_snapshot_X2_taken : GoodIn wsX3_snapshot wsX2_taken := goodIn_r _ [9, 10, 11, 8, 12, 13, 14, 15, 16, 17, 18, 19, 20, 21, 22, 23, 24, 25, 35, 36, 37, 38, 39, 40, 41] (by decide +kernel) (by decide +kernel)
set_option maxRecDepth 20000 in
theorem gX3_snapshot_X2_taken : GoodIn wsX3_snapshot (wsV RX3 177 RX2 yX2_taken wsX2_taken) := goodIn_app (goodIn_of _ (by decide +kernel)) ggX3_snapshot_X2_taken
set_option maxRecDepth 20000 in
theorem ggX3_drop_X3_slotOf : GoodIn wsX3_drop wsX3_slotOf := goodIn_r _ [7, 1, 8, 32, 33, 34, 35, 36, 37, 38, 39, 40, 41, 42, 43, 44, 45] (by decide +kernel) (by decide +kernel)
set_option maxRecDepth 20000 in
theorem gX3_drop_X3_slotOf : GoodIn wsX3_drop (wsV RX3 184 RX3 yX3_slotOf wsX3_slotOf) := goodIn_app (goodIn_of _ (by decide +kernel)) ggX3_drop_X3_slotOf
set_option maxRecDepth 20000 in
theorem ggX3_drop_X3_snapshotIn : GoodIn wsX3_drop wsX3_snapshotIn := goodIn_ca (goodIn_r _ [12, 13, 14, 1, 32, 33, 34, 35, 36, 37, 38, 39, 40] (by decide +kernel) (by decide +kernel)) (goodIn_sub (fun _ h => List.mem_cons_of_mem _ (List.mem_append_right _ h)) (by decide +kernel))
set_option maxRecDepth 20000 in
theorem gX3_drop_X3_snapshotIn : GoodIn wsX3_drop (wsV RX3 187 RX3 yX3_snapshotIn wsX3_snapshotIn) := goodIn_app (goodIn_of _ (by decide +kernel)) ggX3_drop_X3_snapshotIn
set_option maxRecDepth 20000 in
theorem ggX3_drop_X2_releasePages : GoodIn wsX3_drop wsX2_releasePages := goodIn_r _ [19, 20, 21, 41, 42, 43, 44, 45, 46, 47] (by decide +kernel) (by decide +kernel)
set_option maxRecDepth 20000 in
theorem gX3_drop_X2_releasePages : GoodIn wsX3_drop (wsV RX3 190 RX2 yX2_releasePages wsX2_releasePages) := goodIn_app (goodIn_of _ (by decide +kernel)) ggX3_drop_X2_releasePages
set_option maxRecDepth 20000 in
theorem ggX3_drop_X2_countShared : GoodIn wsX3_drop wsX2_countShared := goodIn_r _ [25, 20, 26, 27, 28, 29, 30, 31, 41, 42, 43, 44, 45, 46, 47] (by decide +kernel) (by decide +kernel)
set_option maxRecDepth 20000 in
theorem gX3_drop_X2_countShared : GoodIn wsX3_drop (wsV RX3 193 RX2 yX2_countShared wsX2_countShared) := goodIn_app (goodIn_of _ (by decide +kernel)) ggX3_drop_X2_countShared
set_option maxRecDepth 20000 in
theorem ggX3_ask_X3_pictureOf : GoodIn wsX3_ask wsX3_pictureOf := goodIn_ca (goodIn_r _ [8, 9, 10, 11, 12, 7, 13, 14, 15, 16, 17, 18, 19, 20, 21, 67, 68, 69, 70, 71, 72, 73, 74, 75, 76, 77, 78, 79, 80] (by decide +kernel) (by decide +kernel)) (goodIn_sub (fun _ h => List.mem_cons_of_mem _ (List.mem_append_right _ h)) (by decide +kernel))
set_option maxRecDepth 20000 in
theorem gX3_ask_X3_pictureOf : GoodIn wsX3_ask (wsV RX3 197 RX3 yX3_pictureOf wsX3_pictureOf) := goodIn_app (goodIn_of _ (by decide +kernel)) ggX3_ask_X3_pictureOf
set_option maxRecDepth 20000 in
theorem ggX3_ask_X3_needState : GoodIn wsX3_ask wsX3_needState := goodIn_ca (goodIn_r _ [25, 20, 21, 9, 26, 67, 68, 69, 70, 71, 72, 73, 74, 75, 76, 77, 78, 79, 80] (by decide +kernel) (by decide +kernel)) (goodIn_sub (fun _ h => List.mem_cons_of_mem _ (List.mem_append_right _ h)) (by decide +kernel))
set_option maxRecDepth 20000 in
theorem gX3_ask_X3_needState : GoodIn wsX3_ask (wsV RX3 140 RX3 yX3_needState wsX3_needState) := goodIn_app (goodIn_of _ (by decide +kernel)) ggX3_ask_X3_needState
set_option maxRecDepth 20000 in
theorem ggX3_ask_X2_entryOf : GoodIn wsX3_ask wsX2_entryOf := goodIn_r _ [31, 32, 33, 34, 35, 36, 37, 7, 38, 39, 40, 41, 42, 43, 44, 45, 46, 47, 48, 49, 50, 51, 52, 53, 54, 55, 56, 57, 58, 59, 60, 76, 77, 78, 79, 80, 61, 62, 63, 64, 65, 66, 81, 82] (by decide +kernel) (by decide +kernel)
set_option maxRecDepth 20000 in
theorem gX3_ask_X2_entryOf : GoodIn wsX3_ask (wsV RX3 200 RX2 yX2_entryOf wsX2_entryOf) := goodIn_app (goodIn_of _ (by decide +kernel)) ggX3_ask_X2_entryOf
set_option maxRecDepth 20000 in
theorem ggX3_entries_X3_pictureOf : GoodIn wsX3_entries wsX3_pictureOf := goodIn_ca (goodIn_r _ [5, 6, 7, 8, 9, 4, 10, 11, 12, 13, 14, 15, 16, 17, 18, 37, 38, 39, 40, 41, 42, 43, 44, 45, 46, 47, 48, 49, 50] (by decide +kernel) (by decide +kernel)) (goodIn_sub (fun _ h => List.mem_cons_of_mem _ (List.mem_append_right _ h)) (by decide +kernel))
set_option maxRecDepth 20000 in
theorem gX3_entries_X3_pictureOf : GoodIn wsX3_entries (wsV RX3 197 RX3 yX3_pictureOf wsX3_pictureOf) := goodIn_app (goodIn_of _ (by decide +kernel)) ggX3_entries_X3_pictureOf
set_option maxRecDepth 20000 in
theorem ggX3_entries_X3_needState : GoodIn wsX3_entries wsX3_needState := goodIn_ca (goodIn_r _ [22, 17, 18, 6, 23, 37, 38, 39, 40, 41, 42, 43, 44, 45, 46, 47, 48, 49, 50] (by decide +kernel) (by decide +kernel)) (goodIn_sub (fun _ h => List.mem_cons_of_mem _ (List.mem_append_right _ h)) (by decide +kernel))
set_option maxRecDepth 20000 in
theorem gX3_entries_X3_needState : GoodIn wsX3_entries (wsV RX3 140 RX3 yX3_needState wsX3_needState) := goodIn_app (goodIn_of _ (by decide +kernel)) ggX3_entries_X3_needState
set_option maxRecDepth 20000 in
theorem ggX3_entries_X2_countEntriesOf : GoodIn wsX3_entries wsX2_countEntriesOf := goodIn_r _ [28, 29, 30, 31, 32, 33, 34, 35, 36, 46, 47, 48, 49, 50, 51, 52, 53, 54, 55, 56, 57, 58] (by decide +kernel) (by decide +kernel)
set_option maxRecDepth 20000 in
theorem gX3_entries_X2_countEntriesOf : GoodIn wsX3_entries (wsV RX3 206 RX2 yX2_countEntriesOf wsX2_countEntriesOf) := goodIn_app (goodIn_of _ (by decide +kernel)) ggX3_entries_X2_countEntriesOf
set_option maxRecDepth 20000 in
theorem ggX3_restore_X3_slotOf : GoodIn wsX3_restore wsX3_slotOf := goodIn_r _ [6, 7, 8, 34, 35, 36, 37, 38, 39, 40, 41, 42, 43, 44, 45, 46, 47] (by decide +kernel) (by decide +kernel)
set_option maxRecDepth 20000 in
theorem gX3_restore_X3_slotOf : GoodIn wsX3_restore (wsV RX3 184 RX3 yX3_slotOf wsX3_slotOf) := goodIn_app (goodIn_of _ (by decide +kernel)) ggX3_restore_X3_slotOf
set_option maxRecDepth 20000 in
theorem ggX3_restore_X3_snapshotIn : GoodIn wsX3_restore wsX3_snapshotIn := goodIn_ca (goodIn_r _ [12, 13, 14, 7, 34, 35, 36, 37, 38, 39, 40, 41, 42] (by decide +kernel) (by decide +kernel)) (goodIn_sub (fun _ h => List.mem_cons_of_mem _ (List.mem_append_right _ h)) (by decide +kernel))
set_option maxRecDepth 20000 in
theorem gX3_restore_X3_snapshotIn : GoodIn wsX3_restore (wsV RX3 187 RX3 yX3_snapshotIn wsX3_snapshotIn) := goodIn_app (goodIn_of _ (by decide +kernel)) ggX3_restore_X3_snapshotIn
set_option maxRecDepth 20000 in
theorem ggX3_restore_X2_becomeLike : GoodIn wsX3_restore wsX2_becomeLike := goodIn_r _ [19, 20, 21, 22, 23, 43, 44, 45, 46, 47] (by decide +kernel) (by decide +kernel)
set_option maxRecDepth 20000 in
theorem gX3_restore_X2_becomeLike : GoodIn wsX3_restore (wsV RX3 209 RX2 yX2_becomeLike wsX2_becomeLike) := goodIn_app (goodIn_of _ (by decide +kernel)) ggX3_restore_X2_becomeLike
set_option maxRecDepth 20000 in
theorem ggX3_restore_X2_countEntries : GoodIn wsX3_restore wsX2_countEntries := goodIn_r _ [27, 20, 28, 29, 30, 31, 32, 33, 43, 44, 45, 46, 47, 48, 49] (by decide +kernel) (by decide +kernel)
set_option maxRecDepth 20000 in
theorem gX3_restore_X2_countEntries : GoodIn wsX3_restore (wsV RX3 213 RX2 yX2_countEntries wsX2_countEntries) := goodIn_app (goodIn_of _ (by decide +kernel)) ggX3_restore_X2_countEntries
set_option maxRecDepth 20000 in
theorem ggX3_move_X3_needState : GoodIn wsX3_move wsX3_needState := goodIn_ca (goodIn_r _ [9, 10, 11, 1, 12, 112, 113, 114, 115, 116, 117, 118, 119, 120, 121, 122, 123, 124, 125] (by decide +kernel) (by decide +kernel)) (goodIn_sub (fun _ h => List.mem_cons_of_mem _ (List.mem_append_right _ h)) (by decide +kernel))
set_option maxRecDepth 20000 in
theorem gX3_move_X3_needState : GoodIn wsX3_move (wsV RX3 140 RX3 yX3_needState wsX3_needState) := goodIn_app (goodIn_of _ (by decide +kernel)) ggX3_move_X3_needState
set_option maxRecDepth 20000 in
theorem ggX3_move_X3_isKindAndType : GoodIn wsX3_move wsX3_isKindAndType := goodIn_r _ [15] (by decide +kernel) (by decide +kernel)
set_option maxRecDepth 20000 in
theorem gX3_move_X3_isKindAndType : GoodIn wsX3_move (va_wsS RX3 46 yX3_isKindAndType wsX3_isKindAndType) := goodIn_app (goodIn_of _ (by decide +kernel)) ggX3_move_X3_isKindAndType
set_option maxRecDepth 20000 in
theorem ggX3_move_X3_canMove : GoodIn wsX3_move wsX3_canMove := goodIn_r _ [18] (by decide +kernel) (by decide +kernel)
set_option maxRecDepth 20000 in
theorem gX3_move_X3_canMove : GoodIn wsX3_move (va_wsS RX3 216 yX3_canMove wsX3_canMove) := goodIn_app (goodIn_of _ (by decide +kernel)) ggX3_move_X3_canMove
set_option maxRecDepth 20000 in
theorem ggX3_move_X2_allFit : GoodIn wsX3_move wsX2_allFit := goodIn_r _ [23, 24, 25, 26, 27, 28, 29, 30, 31, 32, 33, 34, 35, 36, 37, 38, 8, 39, 40, 41, 121, 122, 123, 124, 125, 126, 127, 128, 129, 130, 131, 132, 133] (by decide +kernel) (by decide +kernel)
set_option maxRecDepth 20000 in
theorem gX3_move_X2_allFit : GoodIn wsX3_move (wsV RX3 219 RX2 yX2_allFit wsX2_allFit) := goodIn_app (goodIn_of _ (by decide +kernel)) ggX3_move_X2_allFit
set_option maxRecDepth 20000 in
theorem ggX3_move_X1_countEntriesOf : GoodIn wsX3_move wsX1_countEntriesOf := goodIn_r _ [45, 30, 31, 126, 127, 128, 129, 130, 131, 132, 133] (by decide +kernel) (by decide +kernel)
set_option maxRecDepth 20000 in
theorem gX3_move_X1_countEntriesOf : GoodIn wsX3_move (wsV RX3 223 RX1 yX1_countEntriesOf wsX1_countEntriesOf) := goodIn_app (goodIn_of _ (by decide +kernel)) ggX3_move_X1_countEntriesOf
set_option maxRecDepth 20000 in
theorem ggX3_move_X3_pageToChange : GoodIn wsX3_move wsX3_pageToChange := goodIn_r _ [49, 1, 3, 50, 51, 52, 53, 28, 54, 55, 56, 57, 58, 59, 60, 61, 30, 62, 63, 64, 65, 66, 67, 68, 69, 70, 71, 72, 73, 74, 112, 113, 114, 115, 116, 117, 118, 119, 120, 121, 122, 123, 124, 125, 126, 127] (by decide +kernel) (by decide +kernel)
set_option maxRecDepth 20000 in
theorem gX3_move_X3_pageToChange : GoodIn wsX3_move (wsV RX3 161 RX3 yX3_pageToChange wsX3_pageToChange) := goodIn_app (goodIn_of _ (by decide +kernel)) ggX3_move_X3_pageToChange
set_option maxRecDepth 20000 in
theorem ggX3_move_X1_moveEntries : GoodIn wsX3_move wsX1_moveEntries := goodIn_r _ [78, 30, 31, 79, 80, 81, 35, 82, 83, 84, 85, 86, 37, 87, 88, 89, 90, 91, 92, 93, 94, 95, 96, 8, 97, 98, 99, 100, 101, 102, 103, 104, 105, 106, 107, 108, 72, 73, 109, 110, 111, 126, 127, 128, 129, 130, 131, 132, 133] (by decide +kernel) (by decide +kernel)
set_option maxRecDepth 20000 in
theorem gX3_move_X1_moveEntries : GoodIn wsX3_move (wsV RX3 224 RX1 yX1_moveEntries wsX1_moveEntries) := goodIn_app (goodIn_of _ (by decide +kernel)) ggX3_move_X1_moveEntries
set_option maxRecDepth 20000 in
theorem ggX3_of_X3_needState : GoodIn wsX3_of wsX3_needState := goodIn_ca (goodIn_r _ [11, 1, 2, 4, 12, 13, 14, 15, 16, 17, 18, 19, 20, 21, 22, 23, 24, 25, 26] (by decide +kernel) (by decide +kernel)) (goodIn_sub (fun _ h => List.mem_cons_of_mem _ (List.mem_append_right _ h)) (by decide +kernel))
set_option maxRecDepth 20000 in
theorem gX3_of_X3_needState : GoodIn wsX3_of (wsV RX3 140 RX3 yX3_needState wsX3_needState) := goodIn_app (goodIn_of _ (by decide +kernel)) ggX3_of_X3_needState
set_option maxRecDepth 20000 in
theorem ggX3_told_X2_countEntries : GoodIn wsX3_told wsX2_countEntries := goodIn_r _ [8, 9, 10, 11, 12, 13, 14, 15, 53, 54, 55, 56, 57, 58, 59] (by decide +kernel) (by decide +kernel)
set_option maxRecDepth 20000 in
theorem gX3_told_X2_countEntries : GoodIn wsX3_told (wsV RX3 213 RX2 yX2_countEntries wsX2_countEntries) := goodIn_app (goodIn_of _ (by decide +kernel)) ggX3_told_X2_countEntries
set_option maxRecDepth 20000 in
theorem ggX3_told_X3_countSnapshots : GoodIn wsX3_told wsX3_countSnapshots := goodIn_r _ [20, 21, 44, 45, 46, 47, 48, 49, 50, 51, 52] (by decide +kernel) (by decide +kernel)
set_option maxRecDepth 20000 in
theorem gX3_told_X3_countSnapshots : GoodIn wsX3_told (wsV RX3 230 RX3 yX3_countSnapshots wsX3_countSnapshots) := goodIn_app (goodIn_of _ (by decide +kernel)) ggX3_told_X3_countSnapshots
set_option maxRecDepth 20000 in
theorem ggX3_told_X2_countShared : GoodIn wsX3_told wsX2_countShared := goodIn_r _ [25, 9, 26, 27, 28, 13, 29, 30, 53, 54, 55, 56, 57, 58, 59] (by decide +kernel) (by decide +kernel)
set_option maxRecDepth 20000 in
theorem gX3_told_X2_countShared : GoodIn wsX3_told (wsV RX3 193 RX2 yX2_countShared wsX2_countShared) := goodIn_app (goodIn_of _ (by decide +kernel)) ggX3_told_X2_countShared
set_option maxRecDepth 20000 in
theorem ggX3_told_X2_countPagesInUse : GoodIn wsX3_told wsX2_countPagesInUse := goodIn_r _ [34, 9, 10, 11, 12, 13, 14, 15, 53, 54, 55, 56, 57, 58, 59] (by decide +kernel) (by decide +kernel)
set_option maxRecDepth 20000 in
theorem gX3_told_X2_countPagesInUse : GoodIn wsX3_told (wsV RX3 233 RX2 yX2_countPagesInUse wsX2_countPagesInUse) := goodIn_app (goodIn_of _ (by decide +kernel)) ggX3_told_X2_countPagesInUse
set_option maxRecDepth 20000 in
theorem ggX3_told_X2_countNumbers : GoodIn wsX3_told wsX2_countNumbers := goodIn_r _ [38, 9, 39, 40, 41, 13, 42, 15, 43, 53, 54, 55, 56, 57, 58, 59, 60, 61, 62, 63, 64, 65] (by decide +kernel) (by decide +kernel)
set_option maxRecDepth 20000 in
theorem gX3_told_X2_countNumbers : GoodIn wsX3_told (wsV RX3 236 RX2 yX2_countNumbers wsX2_countNumbers) := goodIn_app (goodIn_of _ (by decide +kernel)) ggX3_told_X2_countNumbers
set_option maxRecDepth 20000 in
theorem ggX3_needToWrite_X3_needState : GoodIn wsX3_needToWrite wsX3_needState := goodIn_ca (goodIn_r _ [10, 11, 12, 3, 13, 26, 27, 28, 29, 30, 31, 32, 33, 34, 35, 36, 37, 38, 39] (by decide +kernel) (by decide +kernel)) (goodIn_sub (fun _ h => List.mem_cons_of_mem _ (List.mem_append_left _ (List.mem_append_right _ h))) (by decide +kernel))
set_option maxRecDepth 20000 in
theorem gX3_needToWrite_X3_needState : GoodIn wsX3_needToWrite (wsV RX3 140 RX3 yX3_needState wsX3_needState) := goodIn_app (goodIn_of _ (by decide +kernel)) ggX3_needToWrite_X3_needState
set_option maxRecDepth 20000 in
theorem ggX3_needToWrite_X3_fits : GoodIn wsX3_needToWrite wsX3_fits := goodIn_r _ [16, 17, 18] (by decide +kernel) (by decide +kernel)
set_option maxRecDepth 20000 in
theorem gX3_needToWrite_X3_fits : GoodIn wsX3_needToWrite (va_wsS RX3 251 yX3_fits wsX3_fits) := goodIn_app (goodIn_of _ (by decide +kernel)) ggX3_needToWrite_X3_fits
set_option maxRecDepth 20000 in
theorem ggX3_needToWrite_X3_needKey : GoodIn wsX3_needToWrite wsX3_needKey := goodIn_ca (goodIn_r _ [22, 23, 24, 25, 26, 27, 28, 29, 30, 31, 32, 33, 34] (by decide +kernel) (by decide +kernel)) (goodIn_sub (fun _ h => List.mem_cons_of_mem _ (List.mem_append_right _ h)) (by decide +kernel))
set_option maxRecDepth 20000 in
theorem gX3_needToWrite_X3_needKey : GoodIn wsX3_needToWrite (wsV RX3 144 RX3 yX3_needKey wsX3_needKey) := goodIn_app (goodIn_of _ (by decide +kernel)) ggX3_needToWrite_X3_needKey
set_option maxRecDepth 20000 in
theorem ggX3_needToRead_X3_needState : GoodIn wsX3_needToRead wsX3_needState := goodIn_ca (goodIn_r _ [9, 10, 11, 3, 12, 20, 21, 22, 23, 24, 25, 26, 27, 28, 29, 30, 31, 32, 33] (by decide +kernel) (by decide +kernel)) (goodIn_sub (fun _ h => List.mem_cons_of_mem _ (List.mem_append_left _ (List.mem_append_right _ h))) (by decide +kernel))
set_option maxRecDepth 20000 in
theorem gX3_needToRead_X3_needState : GoodIn wsX3_needToRead (wsV RX3 140 RX3 yX3_needState wsX3_needState) := goodIn_app (goodIn_of _ (by decide +kernel)) ggX3_needToRead_X3_needState
set_option maxRecDepth 20000 in
theorem ggX3_needToRead_X3_needKey : GoodIn wsX3_needToRead wsX3_needKey := goodIn_ca (goodIn_r _ [16, 17, 18, 19, 20, 21, 22, 23, 24, 25, 26, 27, 28] (by decide +kernel) (by decide +kernel)) (goodIn_sub (fun _ h => List.mem_cons_of_mem _ (List.mem_append_right _ h)) (by decide +kernel))
set_option maxRecDepth 20000 in
theorem gX3_needToRead_X3_needKey : GoodIn wsX3_needToRead (wsV RX3 144 RX3 yX3_needKey wsX3_needKey) := goodIn_app (goodIn_of _ (by decide +kernel)) ggX3_needToRead_X3_needKey
set_option maxRecDepth 20000 in
theorem ggX3_entryAtHand_X2_entryOf : GoodIn wsX3_entryAtHand wsX2_entryOf := goodIn_r _ [8, 9, 10, 11, 12, 13, 14, 15, 16, 17, 18, 19, 20, 21, 22, 23, 24, 25, 26, 27, 28, 29, 30, 31, 32, 33, 34, 35, 36, 37, 38, 48, 49, 50, 51, 52, 53, 54, 55, 56, 57, 58, 59, 60] (by decide +kernel) (by decide +kernel)
set_option maxRecDepth 20000 in
theorem gX3_entryAtHand_X2_entryOf : GoodIn wsX3_entryAtHand (wsV RX3 200 RX2 yX2_entryOf wsX2_entryOf) := goodIn_app (goodIn_of _ (by decide +kernel)) ggX3_entryAtHand_X2_entryOf
set_option maxRecDepth 20000 in
theorem ggX3_hasNoRoomFor_X0_isNone : GoodIn wsX3_hasNoRoomFor wsX0_isNone := goodIn_r _ [6, 7, 29, 30, 31, 32, 33, 34] (by decide +kernel) (by decide +kernel)
set_option maxRecDepth 20000 in
theorem gX3_hasNoRoomFor_X0_isNone : GoodIn wsX3_hasNoRoomFor (wsV RX3 85 RX0 yX0_isNone wsX0_isNone) := goodIn_app (goodIn_of _ (by decide +kernel)) ggX3_hasNoRoomFor_X0_isNone
set_option maxRecDepth 20000 in
theorem ggX3_hasNoRoomFor_X2_countEntries : GoodIn wsX3_hasNoRoomFor wsX2_countEntries := goodIn_r _ [12, 13, 14, 15, 16, 17, 18, 19, 35, 36, 37, 38, 39, 40, 41] (by decide +kernel) (by decide +kernel)
set_option maxRecDepth 20000 in
theorem gX3_hasNoRoomFor_X2_countEntries : GoodIn wsX3_hasNoRoomFor (wsV RX3 213 RX2 yX2_countEntries wsX2_countEntries) := goodIn_app (goodIn_of _ (by decide +kernel)) ggX3_hasNoRoomFor_X2_countEntries
set_option maxRecDepth 20000 in
theorem ggX3_keep_X3_pageNumber : GoodIn wsX3_keep wsX3_pageNumber := goodIn_r _ [7] (by decide +kernel) (by decide +kernel)
set_option maxRecDepth 20000 in
theorem gX3_keep_X3_pageNumber : GoodIn wsX3_keep (va_wsS RX3 266 yX3_pageNumber wsX3_pageNumber) := goodIn_app (goodIn_of _ (by decide +kernel)) ggX3_keep_X3_pageNumber
set_option maxRecDepth 20000 in
theorem ggX3_keep_X3_pageToChange : GoodIn wsX3_keep wsX3_pageToChange := goodIn_r _ [11, 12, 13, 14, 15, 16, 17, 18, 19, 20, 21, 22, 23, 24, 25, 26, 27, 28, 29, 30, 31, 32, 33, 34, 35, 36, 37, 38, 39, 40, 75, 76, 77, 78, 79, 80, 81, 82, 83, 84, 85, 86, 87, 88, 89, 90] (by decide +kernel) (by decide +kernel)
set_option maxRecDepth 20000 in
theorem gX3_keep_X3_pageToChange : GoodIn wsX3_keep (wsV RX3 161 RX3 yX3_pageToChange wsX3_pageToChange) := goodIn_app (goodIn_of _ (by decide +kernel)) ggX3_keep_X3_pageToChange
set_option maxRecDepth 20000 in
theorem ggX3_keep_X1_keepEntry : GoodIn wsX3_keep wsX1_keepEntry := goodIn_r _ [44, 45, 46, 47, 27, 48, 49, 50, 18, 51, 52, 53, 54, 55, 56, 57, 58, 59, 60, 61, 62, 63, 40, 64, 65, 66, 67, 68, 69, 70, 71, 72, 73, 74, 89, 90] (by decide +kernel) (by decide +kernel)
set_option maxRecDepth 20000 in
theorem gX3_keep_X1_keepEntry : GoodIn wsX3_keep (wsV RX3 270 RX1 yX1_keepEntry wsX1_keepEntry) := goodIn_app (goodIn_of _ (by decide +kernel)) ggX3_keep_X1_keepEntry
set_option maxRecDepth 20000 in
theorem ggX3_pageToChange_X1_isShared : GoodIn wsX3_pageToChange wsX1_isShared := goodIn_r _ [8, 9, 44, 45] (by decide +kernel) (by decide +kernel)
set_option maxRecDepth 20000 in
theorem gX3_pageToChange_X1_isShared : GoodIn wsX3_pageToChange (wsV RX3 273 RX1 yX1_isShared wsX1_isShared) := goodIn_app (goodIn_of _ (by decide +kernel)) ggX3_pageToChange_X1_isShared
set_option maxRecDepth 20000 in
theorem ggX3_pageToChange_X1_copied : GoodIn wsX3_pageToChange wsX1_copied := goodIn_r _ [13, 14, 15, 7, 16, 17, 18, 19, 20, 21, 22, 23, 24, 25, 26, 27, 28, 29, 9, 44, 45] (by decide +kernel) (by decide +kernel)
set_option maxRecDepth 20000 in
theorem gX3_pageToChange_X1_copied : GoodIn wsX3_pageToChange (wsV RX3 276 RX1 yX1_copied wsX1_copied) := goodIn_app (goodIn_of _ (by decide +kernel)) ggX3_pageToChange_X1_copied
set_option maxRecDepth 20000 in
theorem ggX3_sortKeys_X1_sortKeysInto : GoodIn wsX3_sortKeys wsX1_sortKeysInto := goodIn_r _ [9, 10, 11, 12, 13, 14, 15, 16, 17, 18, 19, 20, 35, 36, 37, 38, 39, 40, 41, 42] (by decide +kernel) (by decide +kernel)
set_option maxRecDepth 20000 in
theorem gX3_sortKeys_X1_sortKeysInto : GoodIn wsX3_sortKeys (wsV RX3 280 RX1 yX1_sortKeysInto wsX1_sortKeysInto) := goodIn_app (goodIn_of _ (by decide +kernel)) ggX3_sortKeys_X1_sortKeysInto
set_option maxRecDepth 20000 in
theorem ggX3_pictureOf_X3_slotOf : GoodIn wsX3_pictureOf wsX3_slotOf := goodIn_r _ [6, 7, 8, 15, 16, 17, 18, 19, 20, 21, 22, 23, 24, 25, 26, 27, 28] (by decide +kernel) (by decide +kernel)
set_option maxRecDepth 20000 in
theorem gX3_pictureOf_X3_slotOf : GoodIn wsX3_pictureOf (wsV RX3 184 RX3 yX3_slotOf wsX3_slotOf) := goodIn_app (goodIn_of _ (by decide +kernel)) ggX3_pictureOf_X3_slotOf
set_option maxRecDepth 20000 in
theorem ggX3_pictureOf_X3_snapshotIn : GoodIn wsX3_pictureOf wsX3_snapshotIn := goodIn_ca (goodIn_r _ [12, 13, 14, 7, 15, 16, 17, 18, 19, 20, 21, 22, 23] (by decide +kernel) (by decide +kernel)) (goodIn_sub (fun _ h => List.mem_cons_of_mem _ (List.mem_append_right _ h)) (by decide +kernel))
set_option maxRecDepth 20000 in
theorem gX3_pictureOf_X3_snapshotIn : GoodIn wsX3_pictureOf (wsV RX3 187 RX3 yX3_snapshotIn wsX3_snapshotIn) := goodIn_app (goodIn_of _ (by decide +kernel)) ggX3_pictureOf_X3_snapshotIn
