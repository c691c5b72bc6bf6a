set_option maxRecDepth 20000 in
theorem ggX4_init_X4_newPage : GoodIn wsX4_init wsX4_newPage := goodIn_r _ [25, 26, 27, 28, 29, 30, 31, 32, 33, 34, 35, 36, 37, 38, 39, 40, 41, 42, 43, 44, 45, 46, 47, 48, 49] (by decide +kernel) (by decide +kernel)
set_option maxRecDepth 20000 in
theorem gX4_init_X4_newPage : GoodIn wsX4_init (wsV RX4 54 RX4 yX4_newPage wsX4_newPage) := goodIn_app (goodIn_of _ (by decide +kernel)) ggX4_init_X4_newPage
set_option maxRecDepth 20000 in
theorem ggX4_touch_X4_isShared : GoodIn wsX4_touch wsX4_isShared := goodIn_r _ [7, 8, 2, 14, 15, 16, 17, 18, 19, 20, 21, 22, 23, 24, 25, 26, 27, 28, 29, 30, 31, 32, 33, 34, 35, 36] (by decide +kernel) (by decide +kernel)
set_option maxRecDepth 20000 in
theorem gX4_touch_X4_isShared : GoodIn wsX4_touch (wsV RX4 65 RX4 yX4_isShared wsX4_isShared) := goodIn_app (goodIn_of _ (by decide +kernel)) ggX4_touch_X4_isShared
set_option maxRecDepth 20000 in
theorem ggX4_touch_X4_newPage : GoodIn wsX4_touch wsX4_newPage := goodIn_r _ [12, 13, 14, 15, 16, 17, 18, 19, 20, 21, 22, 23, 24, 25, 26, 27, 28, 29, 30, 31, 32, 33, 34, 35, 36] (by decide +kernel) (by decide +kernel)
set_option maxRecDepth 20000 in
theorem gX4_touch_X4_newPage : GoodIn wsX4_touch (wsV RX4 54 RX4 yX4_newPage wsX4_newPage) := goodIn_app (goodIn_of _ (by decide +kernel)) ggX4_touch_X4_newPage
set_option maxRecDepth 20000 in
theorem ggX4_touchOf_X4_pageOf : GoodIn wsX4_touchOf wsX4_pageOf := goodIn_r _ [8] (by decide +kernel) (by decide +kernel)
set_option maxRecDepth 20000 in
theorem gX4_touchOf_X4_pageOf : GoodIn wsX4_touchOf (wsV RX4 72 RX4 yX4_pageOf wsX4_pageOf) := goodIn_app (goodIn_of _ (by decide +kernel)) ggX4_touchOf_X4_pageOf
set_option maxRecDepth 20000 in
theorem ggX4_touchOf_X4_touch : GoodIn wsX4_touchOf wsX4_touch := goodIn_r _ [12, 13, 14, 15, 16, 17, 7, 18, 19, 20, 21, 22, 23, 24, 25, 26, 27, 28, 29, 30, 31, 32, 33, 34, 35, 36, 37, 38, 39, 40, 41, 42, 43, 44, 45, 46, 47] (by decide +kernel) (by decide +kernel)
set_option maxRecDepth 20000 in
theorem gX4_touchOf_X4_touch : GoodIn wsX4_touchOf (wsV RX4 76 RX4 yX4_touch wsX4_touch) := goodIn_app (goodIn_of _ (by decide +kernel)) ggX4_touchOf_X4_touch
set_option maxRecDepth 20000 in
theorem ggX4_sharedPages_X4_isShared : GoodIn wsX4_sharedPages wsX4_isShared := goodIn_r _ [5, 6, 7, 8, 9, 10, 11, 12, 13, 14, 15, 16, 17, 18, 19, 20, 21, 22, 23, 24, 25, 26, 27, 28, 29, 30] (by decide +kernel) (by decide +kernel)
set_option maxRecDepth 20000 in
theorem gX4_sharedPages_X4_isShared : GoodIn wsX4_sharedPages (wsV RX4 65 RX4 yX4_isShared wsX4_isShared) := goodIn_app (goodIn_of _ (by decide +kernel)) ggX4_sharedPages_X4_isShared
set_option maxRecDepth 20000 in
theorem ggX4_here_X4_find : GoodIn wsX4_here wsX4_find := goodIn_r _ [7, 8, 9, 10, 11, 12, 13, 14, 15, 16, 17, 18, 19, 20, 21, 22, 23, 24, 25, 26, 27, 28, 29, 30, 31, 32, 33, 34] (by decide +kernel) (by decide +kernel)
set_option maxRecDepth 20000 in
theorem gX4_here_X4_find : GoodIn wsX4_here (wsV RX4 87 RX4 yX4_find wsX4_find) := goodIn_app (goodIn_of _ (by decide +kernel)) ggX4_here_X4_find
set_option maxRecDepth 20000 in
theorem ggX4_dropEntry_X4_touchOf : GoodIn wsX4_dropEntry wsX4_touchOf := goodIn_r _ [6, 7, 8, 9, 10, 11, 12, 5, 13, 14, 15, 16, 17, 18, 19, 20, 21, 22, 23, 24, 25, 26, 27, 28, 29, 37, 38, 39, 40, 41, 42, 43, 44, 45, 46, 47, 48, 49, 50, 51, 52, 53, 54, 55, 56, 57, 58, 59] (by decide +kernel) (by decide +kernel)
set_option maxRecDepth 20000 in
theorem gX4_dropEntry_X4_touchOf : GoodIn wsX4_dropEntry (wsV RX4 91 RX4 yX4_touchOf wsX4_touchOf) := goodIn_app (goodIn_of _ (by decide +kernel)) ggX4_dropEntry_X4_touchOf
set_option maxRecDepth 20000 in
theorem ggX4_dropEntry_X4_copyEntry : GoodIn wsX4_dropEntry wsX4_copyEntry := goodIn_r _ [33, 7, 8, 9, 34, 35, 36, 37, 38, 39, 40, 41, 42, 43, 44, 45, 46, 47, 48, 49, 50, 51, 52, 53, 54, 55, 56, 57, 58, 59] (by decide +kernel) (by decide +kernel)
set_option maxRecDepth 20000 in
theorem gX4_dropEntry_X4_copyEntry : GoodIn wsX4_dropEntry (wsV RX4 94 RX4 yX4_copyEntry wsX4_copyEntry) := goodIn_app (goodIn_of _ (by decide +kernel)) ggX4_dropEntry_X4_copyEntry
set_option maxRecDepth 20000 in
theorem ggX4_isRefused_X4_isState : GoodIn wsX4_isRefused wsX4_isState := goodIn_r _ [10, 11, 31, 32, 33, 34, 35, 36, 37, 38, 39, 40, 41, 42, 43, 44, 45, 46, 47, 48, 49, 50, 51, 52, 53] (by decide +kernel) (by decide +kernel)
set_option maxRecDepth 20000 in
theorem gX4_isRefused_X4_isState : GoodIn wsX4_isRefused (wsV RX4 105 RX4 yX4_isState wsX4_isState) := goodIn_app (goodIn_of _ (by decide +kernel)) ggX4_isRefused_X4_isState
set_option maxRecDepth 20000 in
theorem ggX4_isRefused_X4_fits : GoodIn wsX4_isRefused wsX4_fits := goodIn_r _ [14, 15, 16] (by decide +kernel) (by decide +kernel)
set_option maxRecDepth 20000 in
theorem gX4_isRefused_X4_fits : GoodIn wsX4_isRefused (va_wsS RX4 108 yX4_fits wsX4_fits) := goodIn_app (goodIn_of _ (by decide +kernel)) ggX4_isRefused_X4_fits
set_option maxRecDepth 20000 in
theorem ggX4_isRefused_X4_here : GoodIn wsX4_isRefused wsX4_here := goodIn_r _ [20, 21, 22, 23, 24, 25, 9, 26, 27, 28, 29, 30, 31, 32, 33, 34, 35, 36, 37, 38, 39, 40, 41, 42, 43, 44, 45, 46, 47, 48, 49, 50, 51, 52, 53] (by decide +kernel) (by decide +kernel)
set_option maxRecDepth 20000 in
theorem gX4_isRefused_X4_here : GoodIn wsX4_isRefused (wsV RX4 116 RX4 yX4_here wsX4_here) := goodIn_app (goodIn_of _ (by decide +kernel)) ggX4_isRefused_X4_here
set_option maxRecDepth 20000 in
theorem ggX4_put_X4_isRefused : GoodIn wsX4_put wsX4_isRefused := goodIn_r _ [9, 10, 11, 12, 13, 1, 14, 15, 16, 8, 17, 18, 19, 20, 21, 22, 23, 24, 25, 26, 27, 28, 29, 30, 31, 32, 33, 2, 34, 35, 36, 65, 66, 67, 68, 69, 70, 71, 72, 73, 74, 75, 76, 77, 78, 79, 80, 81, 82, 83, 84, 85, 86, 87] (by decide +kernel) (by decide +kernel)
set_option maxRecDepth 20000 in
theorem gX4_put_X4_isRefused : GoodIn wsX4_put (wsV RX4 123 RX4 yX4_isRefused wsX4_isRefused) := goodIn_app (goodIn_of _ (by decide +kernel)) ggX4_put_X4_isRefused
set_option maxRecDepth 20000 in
theorem ggX4_put_X4_newEntry : GoodIn wsX4_put wsX4_newEntry := goodIn_r _ [40, 2, 34, 35, 28, 36, 29, 4, 65, 66, 67, 68, 69, 70, 71, 72, 73, 74, 75, 76, 77, 78, 79, 80, 81, 82, 83, 84, 85, 86, 87] (by decide +kernel) (by decide +kernel)
set_option maxRecDepth 20000 in
theorem gX4_put_X4_newEntry : GoodIn wsX4_put (wsV RX4 127 RX4 yX4_newEntry wsX4_newEntry) := goodIn_app (goodIn_of _ (by decide +kernel)) ggX4_put_X4_newEntry
set_option maxRecDepth 20000 in
theorem ggX4_put_X4_touchOf : GoodIn wsX4_put wsX4_touchOf := goodIn_r _ [44, 34, 35, 36, 45, 46, 47, 8, 48, 49, 50, 51, 52, 53, 54, 55, 56, 57, 58, 59, 60, 61, 62, 63, 64, 65, 66, 67, 68, 69, 70, 71, 72, 73, 74, 75, 76, 77, 78, 79, 80, 81, 82, 83, 84, 85, 86, 87] (by decide +kernel) (by decide +kernel)
set_option maxRecDepth 20000 in
theorem gX4_put_X4_touchOf : GoodIn wsX4_put (wsV RX4 91 RX4 yX4_touchOf wsX4_touchOf) := goodIn_app (goodIn_of _ (by decide +kernel)) ggX4_put_X4_touchOf
set_option maxRecDepth 20000 in
theorem ggX4_value_X4_isRefused : GoodIn wsX4_value wsX4_isRefused := goodIn_r _ [7, 8, 9, 10, 11, 1, 12, 13, 14, 6, 15, 16, 17, 18, 19, 20, 21, 22, 23, 24, 25, 26, 27, 28, 29, 30, 31, 32, 33, 34, 35, 40, 41, 42, 43, 44, 45, 46, 47, 48, 49, 50, 51, 52, 53, 54, 55, 56, 57, 58, 59, 60, 61, 62] (by decide +kernel) (by decide +kernel)
set_option maxRecDepth 20000 in
theorem gX4_value_X4_isRefused : GoodIn wsX4_value (wsV RX4 123 RX4 yX4_isRefused wsX4_isRefused) := goodIn_app (goodIn_of _ (by decide +kernel)) ggX4_value_X4_isRefused
set_option maxRecDepth 20000 in
theorem ggX4_value_X4_fails : GoodIn wsX4_value wsX4_fails := goodIn_r _ [39, 8, 40, 41, 42, 43, 44, 45, 46, 47, 48, 49, 50, 51, 52, 53, 54, 55, 56, 57, 58, 59, 60, 61, 62] (by decide +kernel) (by decide +kernel)
set_option maxRecDepth 20000 in
theorem gX4_value_X4_fails : GoodIn wsX4_value (wsV RX4 130 RX4 yX4_fails wsX4_fails) := goodIn_app (goodIn_of _ (by decide +kernel)) ggX4_value_X4_fails
set_option maxRecDepth 20000 in
theorem ggX4_add_X4_isRefused : GoodIn wsX4_add wsX4_isRefused := goodIn_r _ [9, 10, 11, 12, 13, 1, 14, 15, 16, 8, 17, 18, 19, 20, 21, 22, 23, 24, 25, 26, 27, 28, 29, 30, 31, 32, 33, 2, 34, 35, 36, 65, 66, 67, 68, 69, 70, 71, 72, 73, 74, 75, 76, 77, 78, 79, 80, 81, 82, 83, 84, 85, 86, 87] (by decide +kernel) (by decide +kernel)
set_option maxRecDepth 20000 in
theorem gX4_add_X4_isRefused : GoodIn wsX4_add (wsV RX4 123 RX4 yX4_isRefused wsX4_isRefused) := goodIn_app (goodIn_of _ (by decide +kernel)) ggX4_add_X4_isRefused
set_option maxRecDepth 20000 in
theorem ggX4_add_X4_newEntry : GoodIn wsX4_add wsX4_newEntry := goodIn_r _ [40, 2, 34, 35, 28, 36, 29, 3, 65, 66, 67, 68, 69, 70, 71, 72, 73, 74, 75, 76, 77, 78, 79, 80, 81, 82, 83, 84, 85, 86, 87] (by decide +kernel) (by decide +kernel)
set_option maxRecDepth 20000 in
theorem gX4_add_X4_newEntry : GoodIn wsX4_add (wsV RX4 127 RX4 yX4_newEntry wsX4_newEntry) := goodIn_app (goodIn_of _ (by decide +kernel)) ggX4_add_X4_newEntry
set_option maxRecDepth 20000 in
theorem ggX4_add_X4_touchOf : GoodIn wsX4_add wsX4_touchOf := goodIn_r _ [44, 34, 35, 36, 45, 46, 47, 8, 48, 49, 50, 51, 52, 53, 54, 55, 56, 57, 58, 59, 60, 61, 62, 63, 64, 65, 66, 67, 68, 69, 70, 71, 72, 73, 74, 75, 76, 77, 78, 79, 80, 81, 82, 83, 84, 85, 86, 87] (by decide +kernel) (by decide +kernel)
set_option maxRecDepth 20000 in
theorem gX4_add_X4_touchOf : GoodIn wsX4_add (wsV RX4 91 RX4 yX4_touchOf wsX4_touchOf) := goodIn_app (goodIn_of _ (by decide +kernel)) ggX4_add_X4_touchOf
set_option maxRecDepth 20000 in
theorem ggX4_item_X4_isRefused : GoodIn wsX4_item wsX4_isRefused := goodIn_r _ [8, 9, 10, 11, 12, 1, 13, 14, 15, 7, 16, 17, 18, 19, 20, 21, 22, 23, 24, 25, 26, 27, 28, 29, 30, 31, 32, 33, 34, 35, 36, 41, 42, 43, 44, 45, 46, 47, 48, 49, 50, 51, 52, 53, 54, 55, 56, 57, 58, 59, 60, 61, 62, 63] (by decide +kernel) (by decide +kernel)
set_option maxRecDepth 20000 in
theorem gX4_item_X4_isRefused : GoodIn wsX4_item (wsV RX4 123 RX4 yX4_isRefused wsX4_isRefused) := goodIn_app (goodIn_of _ (by decide +kernel)) ggX4_item_X4_isRefused
set_option maxRecDepth 20000 in
theorem ggX4_item_X4_fails : GoodIn wsX4_item wsX4_fails := goodIn_r _ [40, 9, 41, 42, 43, 44, 45, 46, 47, 48, 49, 50, 51, 52, 53, 54, 55, 56, 57, 58, 59, 60, 61, 62, 63] (by decide +kernel) (by decide +kernel)
set_option maxRecDepth 20000 in
theorem gX4_item_X4_fails : GoodIn wsX4_item (wsV RX4 130 RX4 yX4_fails wsX4_fails) := goodIn_app (goodIn_of _ (by decide +kernel)) ggX4_item_X4_fails
set_option maxRecDepth 20000 in
theorem ggX4_has_X4_placeOf : GoodIn wsX4_has wsX4_placeOf := goodIn_r _ [7, 1, 2, 8, 9, 10, 11, 12, 13, 14, 15, 16, 17, 18, 19, 20, 21, 22, 23, 24, 25, 26, 27, 28, 29, 30] (by decide +kernel) (by decide +kernel)
set_option maxRecDepth 20000 in
theorem gX4_has_X4_placeOf : GoodIn wsX4_has (wsV RX4 133 RX4 yX4_placeOf wsX4_placeOf) := goodIn_app (goodIn_of _ (by decide +kernel)) ggX4_has_X4_placeOf
set_option maxRecDepth 20000 in
theorem ggX4_set_X4_isRefused : GoodIn wsX4_set wsX4_isRefused := goodIn_r _ [10, 11, 12, 13, 14, 1, 15, 16, 17, 9, 18, 19, 20, 21, 22, 23, 24, 25, 26, 27, 28, 29, 30, 31, 32, 33, 34, 2, 35, 36, 37, 74, 75, 76, 77, 78, 79, 80, 81, 82, 83, 84, 85, 86, 87, 88, 89, 90, 91, 92, 93, 94, 95, 96] (by decide +kernel) (by decide +kernel)
set_option maxRecDepth 20000 in
theorem gX4_set_X4_isRefused : GoodIn wsX4_set (wsV RX4 123 RX4 yX4_isRefused wsX4_isRefused) := goodIn_app (goodIn_of _ (by decide +kernel)) ggX4_set_X4_isRefused
set_option maxRecDepth 20000 in
theorem ggX4_set_X4_has : GoodIn wsX4_set wsX4_has := goodIn_r _ [41, 3, 5, 42, 43, 44, 9, 45, 74, 75, 76, 77, 78, 79, 80, 81, 82, 83, 84, 85, 86, 87, 88, 89, 90, 91, 92, 93, 94, 95, 96] (by decide +kernel) (by decide +kernel)
set_option maxRecDepth 20000 in
theorem gX4_set_X4_has : GoodIn wsX4_set (wsV RX4 137 RX4 yX4_has wsX4_has) := goodIn_app (goodIn_of _ (by decide +kernel)) ggX4_set_X4_has
set_option maxRecDepth 20000 in
theorem ggX4_set_X4_newEntry : GoodIn wsX4_set wsX4_newEntry := goodIn_r _ [49, 2, 35, 36, 29, 37, 30, 3, 74, 75, 76, 77, 78, 79, 80, 81, 82, 83, 84, 85, 86, 87, 88, 89, 90, 91, 92, 93, 94, 95, 96] (by decide +kernel) (by decide +kernel)
set_option maxRecDepth 20000 in
theorem gX4_set_X4_newEntry : GoodIn wsX4_set (wsV RX4 127 RX4 yX4_newEntry wsX4_newEntry) := goodIn_app (goodIn_of _ (by decide +kernel)) ggX4_set_X4_newEntry
set_option maxRecDepth 20000 in
theorem ggX4_set_X4_touchOf : GoodIn wsX4_set wsX4_touchOf := goodIn_r _ [53, 35, 36, 37, 54, 55, 56, 9, 57, 58, 59, 60, 61, 62, 63, 64, 65, 66, 67, 68, 69, 70, 71, 72, 73, 74, 75, 76, 77, 78, 79, 80, 81, 82, 83, 84, 85, 86, 87, 88, 89, 90, 91, 92, 93, 94, 95, 96] (by decide +kernel) (by decide +kernel)
set_option maxRecDepth 20000 in
theorem gX4_set_X4_touchOf : GoodIn wsX4_set (wsV RX4 91 RX4 yX4_touchOf wsX4_touchOf) := goodIn_app (goodIn_of _ (by decide +kernel)) ggX4_set_X4_touchOf
set_option maxRecDepth 20000 in
theorem ggX4_set_X4_placeOf : GoodIn wsX4_set wsX4_placeOf := goodIn_r _ [45, 3, 5, 74, 75, 76, 77, 78, 79, 80, 81, 82, 83, 84, 85, 86, 87, 88, 89, 90, 91, 92, 93, 94, 95, 96] (by decide +kernel) (by decide +kernel)
set_option maxRecDepth 20000 in
theorem gX4_set_X4_placeOf : GoodIn wsX4_set (wsV RX4 133 RX4 yX4_placeOf wsX4_placeOf) := goodIn_app (goodIn_of _ (by decide +kernel)) ggX4_set_X4_placeOf
set_option maxRecDepth 20000 in
theorem ggX4_get_X4_isRefused : GoodIn wsX4_get wsX4_isRefused := goodIn_r _ [7, 8, 9, 10, 11, 1, 12, 13, 14, 6, 15, 16, 17, 18, 19, 20, 21, 22, 23, 24, 25, 26, 27, 28, 29, 30, 31, 32, 33, 34, 35, 50, 51, 52, 53, 54, 55, 56, 57, 58, 59, 60, 61, 62, 63, 64, 65, 66, 67, 68, 69, 70, 71, 72] (by decide +kernel) (by decide +kernel)
set_option maxRecDepth 20000 in
theorem gX4_get_X4_isRefused : GoodIn wsX4_get (wsV RX4 123 RX4 yX4_isRefused wsX4_isRefused) := goodIn_app (goodIn_of _ (by decide +kernel)) ggX4_get_X4_isRefused
set_option maxRecDepth 20000 in
theorem ggX4_get_X4_has : GoodIn wsX4_get wsX4_has := goodIn_r _ [39, 40, 41, 42, 43, 44, 6, 45, 50, 51, 52, 53, 54, 55, 56, 57, 58, 59, 60, 61, 62, 63, 64, 65, 66, 67, 68, 69, 70, 71, 72] (by decide +kernel) (by decide +kernel)
set_option maxRecDepth 20000 in
theorem gX4_get_X4_has : GoodIn wsX4_get (wsV RX4 137 RX4 yX4_has wsX4_has) := goodIn_app (goodIn_of _ (by decide +kernel)) ggX4_get_X4_has
set_option maxRecDepth 20000 in
theorem ggX4_get_X4_placeOf : GoodIn wsX4_get wsX4_placeOf := goodIn_r _ [45, 40, 41, 50, 51, 52, 53, 54, 55, 56, 57, 58, 59, 60, 61, 62, 63, 64, 65, 66, 67, 68, 69, 70, 71, 72] (by decide +kernel) (by decide +kernel)
set_option maxRecDepth 20000 in
theorem gX4_get_X4_placeOf : GoodIn wsX4_get (wsV RX4 133 RX4 yX4_placeOf wsX4_placeOf) := goodIn_app (goodIn_of _ (by decide +kernel)) ggX4_get_X4_placeOf
set_option maxRecDepth 20000 in
theorem ggX4_get_X4_fails : GoodIn wsX4_get wsX4_fails := goodIn_r _ [49, 8, 50, 51, 52, 53, 54, 55, 56, 57, 58, 59, 60, 61, 62, 63, 64, 65, 66, 67, 68, 69, 70, 71, 72] (by decide +kernel) (by decide +kernel)
set_option maxRecDepth 20000 in
theorem gX4_get_X4_fails : GoodIn wsX4_get (wsV RX4 130 RX4 yX4_fails wsX4_fails) := goodIn_app (goodIn_of _ (by decide +kernel)) ggX4_get_X4_fails
set_option maxRecDepth 20000 in
theorem ggX4_member_X4_isRefused : GoodIn wsX4_member wsX4_isRefused := goodIn_r _ [8, 9, 10, 11, 12, 1, 13, 14, 15, 7, 16, 17, 18, 19, 20, 21, 22, 23, 24, 25, 26, 27, 28, 29, 30, 31, 32, 33, 34, 35, 36, 41, 42, 43, 44, 45, 46, 47, 48, 49, 50, 51, 52, 53, 54, 55, 56, 57, 58, 59, 60, 61, 62, 63] (by decide +kernel) (by decide +kernel)
set_option maxRecDepth 20000 in
theorem gX4_member_X4_isRefused : GoodIn wsX4_member (wsV RX4 123 RX4 yX4_isRefused wsX4_isRefused) := goodIn_app (goodIn_of _ (by decide +kernel)) ggX4_member_X4_isRefused
set_option maxRecDepth 20000 in
theorem ggX4_member_X4_fails : GoodIn wsX4_member wsX4_fails := goodIn_r _ [40, 9, 41, 42, 43, 44, 45, 46, 47, 48, 49, 50, 51, 52, 53, 54, 55, 56, 57, 58, 59, 60, 61, 62, 63] (by decide +kernel) (by decide +kernel)
set_option maxRecDepth 20000 in
theorem gX4_member_X4_fails : GoodIn wsX4_member (wsV RX4 130 RX4 yX4_fails wsX4_fails) := goodIn_app (goodIn_of _ (by decide +kernel)) ggX4_member_X4_fails
set_option maxRecDepth 20000 in
theorem ggX4_remove_X4_isRefused : GoodIn wsX4_remove wsX4_isRefused := goodIn_r _ [9, 10, 11, 12, 13, 1, 14, 15, 16, 8, 17, 18, 19, 20, 21, 22, 23, 24, 25, 26, 27, 28, 29, 30, 31, 32, 33, 34, 35, 36, 37, 78, 79, 80, 81, 82, 83, 84, 85, 86, 87, 88, 89, 90, 91, 92, 93, 94, 95, 96, 97, 98, 99, 100] (by decide +kernel) (by decide +kernel)
set_option maxRecDepth 20000 in
theorem gX4_remove_X4_isRefused : GoodIn wsX4_remove (wsV RX4 123 RX4 yX4_isRefused wsX4_isRefused) := goodIn_app (goodIn_of _ (by decide +kernel)) ggX4_remove_X4_isRefused
set_option maxRecDepth 20000 in
theorem ggX4_remove_X4_has : GoodIn wsX4_remove wsX4_has := goodIn_r _ [41, 2, 4, 42, 43, 44, 8, 45, 78, 79, 80, 81, 82, 83, 84, 85, 86, 87, 88, 89, 90, 91, 92, 93, 94, 95, 96, 97, 98, 99, 100] (by decide +kernel) (by decide +kernel)
set_option maxRecDepth 20000 in
theorem gX4_remove_X4_has : GoodIn wsX4_remove (wsV RX4 137 RX4 yX4_has wsX4_has) := goodIn_app (goodIn_of _ (by decide +kernel)) ggX4_remove_X4_has
set_option maxRecDepth 20000 in
theorem ggX4_remove_X4_dropEntry : GoodIn wsX4_remove wsX4_dropEntry := goodIn_r _ [49, 34, 50, 51, 52, 8, 53, 35, 36, 37, 54, 55, 56, 57, 58, 59, 60, 61, 62, 63, 64, 65, 66, 67, 68, 69, 70, 71, 72, 73, 74, 75, 76, 77, 2, 3, 4, 78, 79, 80, 81, 82, 83, 84, 85, 86, 87, 88, 89, 90, 91, 92, 93, 94, 95, 96, 97, 98, 99, 100] (by decide +kernel) (by decide +kernel)
set_option maxRecDepth 20000 in
theorem gX4_remove_X4_dropEntry : GoodIn wsX4_remove (wsV RX4 141 RX4 yX4_dropEntry wsX4_dropEntry) := goodIn_app (goodIn_of _ (by decide +kernel)) ggX4_remove_X4_dropEntry
set_option maxRecDepth 20000 in
theorem ggX4_remove_X4_touchOf : GoodIn wsX4_remove wsX4_touchOf := goodIn_r _ [53, 35, 36, 37, 54, 55, 56, 8, 57, 58, 59, 60, 61, 62, 63, 64, 65, 66, 67, 68, 69, 70, 71, 72, 73, 78, 79, 80, 81, 82, 83, 84, 85, 86, 87, 88, 89, 90, 91, 92, 93, 94, 95, 96, 97, 98, 99, 100] (by decide +kernel) (by decide +kernel)
set_option maxRecDepth 20000 in
theorem gX4_remove_X4_touchOf : GoodIn wsX4_remove (wsV RX4 91 RX4 yX4_touchOf wsX4_touchOf) := goodIn_app (goodIn_of _ (by decide +kernel)) ggX4_remove_X4_touchOf
set_option maxRecDepth 20000 in
theorem ggX4_remove_X4_placeOf : GoodIn wsX4_remove wsX4_placeOf := goodIn_r _ [45, 2, 4, 78, 79, 80, 81, 82, 83, 84, 85, 86, 87, 88, 89, 90, 91, 92, 93, 94, 95, 96, 97, 98, 99, 100] (by decide +kernel) (by decide +kernel)
set_option maxRecDepth 20000 in
theorem gX4_remove_X4_placeOf : GoodIn wsX4_remove (wsV RX4 133 RX4 yX4_placeOf wsX4_placeOf) := goodIn_app (goodIn_of _ (by decide +kernel)) ggX4_remove_X4_placeOf
set_option maxRecDepth 20000 in
theorem ggX4_fold_X4_isRefused : GoodIn wsX4_fold wsX4_isRefused := goodIn_r _ [10, 11, 12, 4, 13, 1, 14, 15, 16, 9, 17, 18, 19, 20, 21, 22, 23, 24, 25, 26, 27, 28, 29, 30, 31, 32, 33, 2, 34, 35, 36, 68, 69, 70, 71, 72, 73, 74, 75, 76, 77, 78, 79, 80, 81, 82, 83, 84, 85, 86, 87, 88, 89, 90] (by decide +kernel) (by decide +kernel)
set_option maxRecDepth 20000 in
theorem gX4_fold_X4_isRefused : GoodIn wsX4_fold (wsV RX4 123 RX4 yX4_isRefused wsX4_isRefused) := goodIn_app (goodIn_of _ (by decide +kernel)) ggX4_fold_X4_isRefused
set_option maxRecDepth 20000 in
theorem ggX4_fold_X4_newEntry : GoodIn wsX4_fold wsX4_newEntry := goodIn_r _ [40, 2, 34, 35, 28, 36, 29, 5, 68, 69, 70, 71, 72, 73, 74, 75, 76, 77, 78, 79, 80, 81, 82, 83, 84, 85, 86, 87, 88, 89, 90] (by decide +kernel) (by decide +kernel)
set_option maxRecDepth 20000 in
theorem gX4_fold_X4_newEntry : GoodIn wsX4_fold (wsV RX4 127 RX4 yX4_newEntry wsX4_newEntry) := goodIn_app (goodIn_of _ (by decide +kernel)) ggX4_fold_X4_newEntry
set_option maxRecDepth 20000 in
theorem ggX4_fold_X4_touchOf : GoodIn wsX4_fold wsX4_touchOf := goodIn_r _ [44, 34, 35, 36, 45, 46, 47, 9, 48, 49, 50, 51, 52, 53, 54, 55, 56, 57, 58, 59, 60, 61, 62, 63, 64, 68, 69, 70, 71, 72, 73, 74, 75, 76, 77, 78, 79, 80, 81, 82, 83, 84, 85, 86, 87, 88, 89, 90] (by decide +kernel) (by decide +kernel)
set_option maxRecDepth 20000 in
theorem gX4_fold_X4_touchOf : GoodIn wsX4_fold (wsV RX4 91 RX4 yX4_touchOf wsX4_touchOf) := goodIn_app (goodIn_of _ (by decide +kernel)) ggX4_fold_X4_touchOf
set_option maxRecDepth 20000 in
theorem ggX4_fold_X4_folded : GoodIn wsX4_fold wsX4_folded := goodIn_r _ [67] (by decide +kernel) (by decide +kernel)
set_option maxRecDepth 20000 in
theorem gX4_fold_X4_folded : GoodIn wsX4_fold (va_wsS RX4 144 yX4_folded wsX4_folded) := goodIn_app (goodIn_of _ (by decide +kernel)) ggX4_fold_X4_folded
set_option maxRecDepth 20000 in
theorem ggX4_lacks_X4_isState : GoodIn wsX4_lacks wsX4_isState := goodIn_r _ [8, 9, 24, 25, 26, 27, 28, 29, 30, 31, 32, 33, 34, 35, 36, 37, 38, 39, 40, 41, 42, 43, 44, 45, 46] (by decide +kernel) (by decide +kernel)
set_option maxRecDepth 20000 in
theorem gX4_lacks_X4_isState : GoodIn wsX4_lacks (wsV RX4 105 RX4 yX4_isState wsX4_isState) := goodIn_app (goodIn_of _ (by decide +kernel)) ggX4_lacks_X4_isState
set_option maxRecDepth 20000 in
theorem ggX4_lacks_X4_here : GoodIn wsX4_lacks wsX4_here := goodIn_r _ [13, 14, 15, 16, 17, 18, 7, 19, 20, 21, 22, 23, 24, 25, 26, 27, 28, 29, 30, 31, 32, 33, 34, 35, 36, 37, 38, 39, 40, 41, 42, 43, 44, 45, 46] (by decide +kernel) (by decide +kernel)
set_option maxRecDepth 20000 in
theorem gX4_lacks_X4_here : GoodIn wsX4_lacks (wsV RX4 116 RX4 yX4_here wsX4_here) := goodIn_app (goodIn_of _ (by decide +kernel)) ggX4_lacks_X4_here
set_option maxRecDepth 20000 in
theorem ggX4_size_X4_lacks : GoodIn wsX4_size wsX4_lacks := goodIn_r _ [7, 8, 9, 1, 10, 11, 12, 6, 13, 14, 15, 16, 17, 18, 19, 20, 21, 22, 23, 24, 25, 26, 27, 28, 29, 30, 31, 32, 33, 34, 35, 36, 37, 38, 39, 40, 41, 42, 43, 44, 45, 46, 47, 48, 49, 50, 51] (by decide +kernel) (by decide +kernel)
set_option maxRecDepth 20000 in
theorem gX4_size_X4_lacks : GoodIn wsX4_size (wsV RX4 148 RX4 yX4_lacks wsX4_lacks) := goodIn_app (goodIn_of _ (by decide +kernel)) ggX4_size_X4_lacks
set_option maxRecDepth 20000 in
theorem ggX4_clear_X4_lacks : GoodIn wsX4_clear wsX4_lacks := goodIn_r _ [6, 7, 8, 1, 9, 10, 11, 5, 12, 13, 14, 15, 16, 17, 18, 19, 20, 21, 22, 23, 24, 25, 26, 27, 63, 64, 65, 66, 67, 68, 69, 70, 71, 72, 73, 74, 75, 76, 77, 78, 79, 80, 81, 82, 83, 84, 85] (by decide +kernel) (by decide +kernel)
set_option maxRecDepth 20000 in
theorem gX4_clear_X4_lacks : GoodIn wsX4_clear (wsV RX4 148 RX4 yX4_lacks wsX4_lacks) := goodIn_app (goodIn_of _ (by decide +kernel)) ggX4_clear_X4_lacks
set_option maxRecDepth 20000 in
theorem ggX4_clear_X4_dropEntry : GoodIn wsX4_clear wsX4_dropEntry := goodIn_r _ [31, 24, 32, 33, 34, 5, 35, 25, 26, 27, 36, 37, 38, 39, 40, 41, 42, 43, 44, 45, 46, 47, 48, 49, 50, 51, 52, 53, 54, 55, 56, 57, 58, 59, 60, 61, 62, 63, 64, 65, 66, 67, 68, 69, 70, 71, 72, 73, 74, 75, 76, 77, 78, 79, 80, 81, 82, 83, 84, 85] (by decide +kernel) (by decide +kernel)
set_option maxRecDepth 20000 in
theorem gX4_clear_X4_dropEntry : GoodIn wsX4_clear (wsV RX4 141 RX4 yX4_dropEntry wsX4_dropEntry) := goodIn_app (goodIn_of _ (by decide +kernel)) ggX4_clear_X4_dropEntry
set_option maxRecDepth 20000 in
theorem ggX4_clearSpan_X4_dropEntry : GoodIn wsX4_clearSpan wsX4_dropEntry := goodIn_r _ [9, 2, 10, 11, 12, 8, 13, 14, 15, 3, 16, 17, 18, 19, 20, 21, 22, 23, 24, 25, 26, 27, 28, 29, 30, 31, 32, 33, 34, 35, 36, 37, 38, 39, 40, 41, 42, 43, 44, 45, 46, 47, 48, 49, 50, 51, 52, 53, 54, 55, 56, 57, 58, 59, 60, 61, 62, 63, 64, 65] (by decide +kernel) (by decide +kernel)
set_option maxRecDepth 20000 in
theorem gX4_clearSpan_X4_dropEntry : GoodIn wsX4_clearSpan (wsV RX4 141 RX4 yX4_dropEntry wsX4_dropEntry) := goodIn_app (goodIn_of _ (by decide +kernel)) ggX4_clearSpan_X4_dropEntry
set_option maxRecDepth 20000 in
theorem ggX4_keys_X4_isState : GoodIn wsX4_keys wsX4_isState := goodIn_r _ [10, 11, 16, 17, 18, 19, 20, 21, 22, 23, 24, 25, 26, 27, 28, 29, 30, 31, 32, 33, 34, 35, 36, 37, 38] (by decide +kernel) (by decide +kernel)
set_option maxRecDepth 20000 in
theorem gX4_keys_X4_isState : GoodIn wsX4_keys (wsV RX4 105 RX4 yX4_isState wsX4_isState) := goodIn_app (goodIn_of _ (by decide +kernel)) ggX4_keys_X4_isState
set_option maxRecDepth 20000 in
theorem ggX4_keys_X4_fails : GoodIn wsX4_keys wsX4_fails := goodIn_r _ [15, 1, 16, 17, 18, 19, 20, 21, 22, 23, 24, 25, 26, 27, 28, 29, 30, 31, 32, 33, 34, 35, 36, 37, 38] (by decide +kernel) (by decide +kernel)
set_option maxRecDepth 20000 in
theorem gX4_keys_X4_fails : GoodIn wsX4_keys (wsV RX4 130 RX4 yX4_fails wsX4_fails) := goodIn_app (goodIn_of _ (by decide +kernel)) ggX4_keys_X4_fails
set_option maxRecDepth 20000 in
theorem ggX4_keyAt_X4_isState : GoodIn wsX4_keyAt wsX4_isState := goodIn_r _ [11, 12, 17, 18, 19, 20, 21, 22, 23, 24, 25, 26, 27, 28, 29, 30, 31, 32, 33, 34, 35, 36, 37, 38, 39] (by decide +kernel) (by decide +kernel)
set_option maxRecDepth 20000 in
theorem gX4_keyAt_X4_isState : GoodIn wsX4_keyAt (wsV RX4 105 RX4 yX4_isState wsX4_isState) := goodIn_app (goodIn_of _ (by decide +kernel)) ggX4_keyAt_X4_isState
set_option maxRecDepth 20000 in
theorem ggX4_keyAt_X4_fails : GoodIn wsX4_keyAt wsX4_fails := goodIn_r _ [16, 1, 17, 18, 19, 20, 21, 22, 23, 24, 25, 26, 27, 28, 29, 30, 31, 32, 33, 34, 35, 36, 37, 38, 39] (by decide +kernel) (by decide +kernel)
set_option maxRecDepth 20000 in
theorem gX4_keyAt_X4_fails : GoodIn wsX4_keyAt (wsV RX4 130 RX4 yX4_fails wsX4_fails) := goodIn_app (goodIn_of _ (by decide +kernel)) ggX4_keyAt_X4_fails
set_option maxRecDepth 20000 in
theorem ggX4_copyAll_X4_copyEntry : GoodIn wsX4_copyAll wsX4_copyEntry := goodIn_r _ [7, 8, 9, 10, 11, 12, 13, 14, 15, 16, 17, 18, 19, 20, 21, 22, 23, 24, 25, 26, 27, 28, 29, 30, 31, 32, 33, 34, 35, 36] (by decide +kernel) (by decide +kernel)
set_option maxRecDepth 20000 in
theorem gX4_copyAll_X4_copyEntry : GoodIn wsX4_copyAll (wsV RX4 94 RX4 yX4_copyEntry wsX4_copyEntry) := goodIn_app (goodIn_of _ (by decide +kernel)) ggX4_copyAll_X4_copyEntry
set_option maxRecDepth 20000 in
theorem ggX4_snapshot_X4_copyAll : GoodIn wsX4_snapshot wsX4_copyAll := goodIn_r _ [13, 14, 15, 16, 17, 18, 12, 19, 20, 21, 22, 23, 24, 25, 26, 27, 28, 29, 30, 31, 32, 33, 34, 35, 36, 37, 38, 39, 40, 41, 42, 43, 44, 45, 46, 47, 48] (by decide +kernel) (by decide +kernel)
set_option maxRecDepth 20000 in
theorem gX4_snapshot_X4_copyAll : GoodIn wsX4_snapshot (wsV RX4 151 RX4 yX4_copyAll wsX4_copyAll) := goodIn_app (goodIn_of _ (by decide +kernel)) ggX4_snapshot_X4_copyAll
set_option maxRecDepth 20000 in
theorem ggX4_drop_X4_copyOf : GoodIn wsX4_drop wsX4_copyOf := goodIn_r _ [7, 2, 8, 22, 23, 24, 25, 26, 27, 28, 29, 30, 31, 32, 33, 34, 35, 36, 37, 38, 39, 40, 41, 42, 43, 44] (by decide +kernel) (by decide +kernel)
set_option maxRecDepth 20000 in
theorem gX4_drop_X4_copyOf : GoodIn wsX4_drop (wsV RX4 157 RX4 yX4_copyOf wsX4_copyOf) := goodIn_app (goodIn_of _ (by decide +kernel)) ggX4_drop_X4_copyOf
set_option maxRecDepth 20000 in
theorem ggX4_drop_X4_fails : GoodIn wsX4_drop wsX4_fails := goodIn_r _ [12, 1, 22, 23, 24, 25, 26, 27, 28, 29, 30, 31, 32, 33, 34, 35, 36, 37, 38, 39, 40, 41, 42, 43, 44] (by decide +kernel) (by decide +kernel)
set_option maxRecDepth 20000 in
theorem gX4_drop_X4_fails : GoodIn wsX4_drop (wsV RX4 130 RX4 yX4_fails wsX4_fails) := goodIn_app (goodIn_of _ (by decide +kernel)) ggX4_drop_X4_fails
set_option maxRecDepth 20000 in
theorem ggX4_drop_X4_sharedPages : GoodIn wsX4_drop wsX4_sharedPages := goodIn_r _ [16, 17, 18, 19, 6, 20, 2, 21, 22, 23, 24, 25, 26, 27, 28, 29, 30, 31, 32, 33, 34, 35, 36, 37, 38, 39, 40, 41, 42, 43, 44] (by decide +kernel) (by decide +kernel)
set_option maxRecDepth 20000 in
theorem gX4_drop_X4_sharedPages : GoodIn wsX4_drop (wsV RX4 160 RX4 yX4_sharedPages wsX4_sharedPages) := goodIn_app (goodIn_of _ (by decide +kernel)) ggX4_drop_X4_sharedPages
set_option maxRecDepth 20000 in
theorem ggX4_ask_X4_copyOf : GoodIn wsX4_ask wsX4_copyOf := goodIn_r _ [7, 8, 9, 33, 34, 35, 36, 37, 38, 39, 40, 41, 42, 43, 44, 45, 46, 47, 48, 49, 50, 51, 52, 53, 54, 55] (by decide +kernel) (by decide +kernel)
set_option maxRecDepth 20000 in
theorem gX4_ask_X4_copyOf : GoodIn wsX4_ask (wsV RX4 157 RX4 yX4_copyOf wsX4_copyOf) := goodIn_app (goodIn_of _ (by decide +kernel)) ggX4_ask_X4_copyOf
set_option maxRecDepth 20000 in
theorem ggX4_ask_X4_isState : GoodIn wsX4_ask wsX4_isState := goodIn_r _ [13, 14, 33, 34, 35, 36, 37, 38, 39, 40, 41, 42, 43, 44, 45, 46, 47, 48, 49, 50, 51, 52, 53, 54, 55] (by decide +kernel) (by decide +kernel)
set_option maxRecDepth 20000 in
theorem gX4_ask_X4_isState : GoodIn wsX4_ask (wsV RX4 105 RX4 yX4_isState wsX4_isState) := goodIn_app (goodIn_of _ (by decide +kernel)) ggX4_ask_X4_isState
set_option maxRecDepth 20000 in
theorem ggX4_ask_X4_fails : GoodIn wsX4_ask wsX4_fails := goodIn_r _ [18, 1, 33, 34, 35, 36, 37, 38, 39, 40, 41, 42, 43, 44, 45, 46, 47, 48, 49, 50, 51, 52, 53, 54, 55] (by decide +kernel) (by decide +kernel)
set_option maxRecDepth 20000 in
theorem gX4_ask_X4_fails : GoodIn wsX4_ask (wsV RX4 130 RX4 yX4_fails wsX4_fails) := goodIn_app (goodIn_of _ (by decide +kernel)) ggX4_ask_X4_fails
set_option maxRecDepth 20000 in
theorem ggX4_ask_X4_find : GoodIn wsX4_ask wsX4_find := goodIn_r _ [22, 23, 24, 25, 26, 33, 34, 35, 36, 37, 38, 39, 40, 41, 42, 43, 44, 45, 46, 47, 48, 49, 50, 51, 52, 53, 54, 55] (by decide +kernel) (by decide +kernel)
set_option maxRecDepth 20000 in
theorem gX4_ask_X4_find : GoodIn wsX4_ask (wsV RX4 87 RX4 yX4_find wsX4_find) := goodIn_app (goodIn_of _ (by decide +kernel)) ggX4_ask_X4_find
set_option maxRecDepth 20000 in
theorem ggX4_ask_X4_numbersOf : GoodIn wsX4_ask wsX4_numbersOf := goodIn_r _ [30, 31, 24, 32, 33, 34, 35, 36, 37, 38, 39, 40, 41, 42, 43, 44, 45, 46, 47, 48, 49, 50, 51, 52, 53, 54, 55] (by decide +kernel) (by decide +kernel)
set_option maxRecDepth 20000 in
theorem gX4_ask_X4_numbersOf : GoodIn wsX4_ask (wsV RX4 163 RX4 yX4_numbersOf wsX4_numbersOf) := goodIn_app (goodIn_of _ (by decide +kernel)) ggX4_ask_X4_numbersOf
set_option maxRecDepth 20000 in
theorem ggX4_entries_X4_copyOf : GoodIn wsX4_entries wsX4_copyOf := goodIn_r _ [8, 9, 10, 20, 21, 22, 23, 24, 25, 26, 27, 28, 29, 30, 31, 32, 33, 34, 35, 36, 37, 38, 39, 40, 41, 42] (by decide +kernel) (by decide +kernel)
set_option maxRecDepth 20000 in
theorem gX4_entries_X4_copyOf : GoodIn wsX4_entries (wsV RX4 157 RX4 yX4_copyOf wsX4_copyOf) := goodIn_app (goodIn_of _ (by decide +kernel)) ggX4_entries_X4_copyOf
set_option maxRecDepth 20000 in
theorem ggX4_entries_X4_isState : GoodIn wsX4_entries wsX4_isState := goodIn_r _ [14, 15, 20, 21, 22, 23, 24, 25, 26, 27, 28, 29, 30, 31, 32, 33, 34, 35, 36, 37, 38, 39, 40, 41, 42] (by decide +kernel) (by decide +kernel)
set_option maxRecDepth 20000 in
theorem gX4_entries_X4_isState : GoodIn wsX4_entries (wsV RX4 105 RX4 yX4_isState wsX4_isState) := goodIn_app (goodIn_of _ (by decide +kernel)) ggX4_entries_X4_isState
set_option maxRecDepth 20000 in
theorem ggX4_entries_X4_fails : GoodIn wsX4_entries wsX4_fails := goodIn_r _ [19, 1, 20, 21, 22, 23, 24, 25, 26, 27, 28, 29, 30, 31, 32, 33, 34, 35, 36, 37, 38, 39, 40, 41, 42] (by decide +kernel) (by decide +kernel)
set_option maxRecDepth 20000 in
theorem gX4_entries_X4_fails : GoodIn wsX4_entries (wsV RX4 130 RX4 yX4_fails wsX4_fails) := goodIn_app (goodIn_of _ (by decide +kernel)) ggX4_entries_X4_fails
set_option maxRecDepth 20000 in
theorem ggX4_restore_X4_copyOf : GoodIn wsX4_restore wsX4_copyOf := goodIn_r _ [10, 11, 12, 32, 33, 34, 35, 36, 37, 38, 39, 40, 41, 42, 43, 44, 45, 46, 47, 48, 49, 50, 51, 52, 53, 54] (by decide +kernel) (by decide +kernel)
set_option maxRecDepth 20000 in
theorem gX4_restore_X4_copyOf : GoodIn wsX4_restore (wsV RX4 157 RX4 yX4_copyOf wsX4_copyOf) := goodIn_app (goodIn_of _ (by decide +kernel)) ggX4_restore_X4_copyOf
set_option maxRecDepth 20000 in
theorem ggX4_restore_X4_fails : GoodIn wsX4_restore wsX4_fails := goodIn_r _ [16, 1, 32, 33, 34, 35, 36, 37, 38, 39, 40, 41, 42, 43, 44, 45, 46, 47, 48, 49, 50, 51, 52, 53, 54] (by decide +kernel) (by decide +kernel)
set_option maxRecDepth 20000 in
theorem gX4_restore_X4_fails : GoodIn wsX4_restore (wsV RX4 130 RX4 yX4_fails wsX4_fails) := goodIn_app (goodIn_of _ (by decide +kernel)) ggX4_restore_X4_fails
set_option maxRecDepth 20000 in
theorem ggX4_restore_X4_copyAll : GoodIn wsX4_restore wsX4_copyAll := goodIn_r _ [20, 5, 21, 22, 23, 24, 9, 25, 26, 27, 28, 29, 30, 31, 32, 33, 34, 35, 36, 37, 38, 39, 40, 41, 42, 43, 44, 45, 46, 47, 48, 49, 50, 51, 52, 53, 54] (by decide +kernel) (by decide +kernel)
set_option maxRecDepth 20000 in
theorem gX4_restore_X4_copyAll : GoodIn wsX4_restore (wsV RX4 151 RX4 yX4_copyAll wsX4_copyAll) := goodIn_app (goodIn_of _ (by decide +kernel)) ggX4_restore_X4_copyAll
set_option maxRecDepth 20000 in
theorem ggX4_move_X4_isState : GoodIn wsX4_move wsX4_isState := goodIn_r _ [12, 13, 59, 60, 61, 62, 63, 64, 65, 66, 67, 68, 69, 70, 71, 72, 73, 74, 75, 76, 77, 78, 79, 80, 81] (by decide +kernel) (by decide +kernel)
set_option maxRecDepth 20000 in
theorem gX4_move_X4_isState : GoodIn wsX4_move (wsV RX4 105 RX4 yX4_isState wsX4_isState) := goodIn_app (goodIn_of _ (by decide +kernel)) ggX4_move_X4_isState
set_option maxRecDepth 20000 in
theorem ggX4_move_X4_fails : GoodIn wsX4_move wsX4_fails := goodIn_r _ [17, 1, 59, 60, 61, 62, 63, 64, 65, 66, 67, 68, 69, 70, 71, 72, 73, 74, 75, 76, 77, 78, 79, 80, 81] (by decide +kernel) (by decide +kernel)
set_option maxRecDepth 20000 in
theorem gX4_move_X4_fails : GoodIn wsX4_move (wsV RX4 130 RX4 yX4_fails wsX4_fails) := goodIn_app (goodIn_of _ (by decide +kernel)) ggX4_move_X4_fails
set_option maxRecDepth 20000 in
theorem ggX4_move_X4_canMove : GoodIn wsX4_move wsX4_canMove := goodIn_r _ [20] (by decide +kernel) (by decide +kernel)
set_option maxRecDepth 20000 in
theorem gX4_move_X4_canMove : GoodIn wsX4_move (va_wsS RX4 167 yX4_canMove wsX4_canMove) := goodIn_app (goodIn_of _ (by decide +kernel)) ggX4_move_X4_canMove
set_option maxRecDepth 20000 in
theorem ggX4_move_X4_numbersOf : GoodIn wsX4_move wsX4_numbersOf := goodIn_r _ [24, 2, 4, 6, 59, 60, 61, 62, 63, 64, 65, 66, 67, 68, 69, 70, 71, 72, 73, 74, 75, 76, 77, 78, 79, 80, 81] (by decide +kernel) (by decide +kernel)
set_option maxRecDepth 20000 in
theorem gX4_move_X4_numbersOf : GoodIn wsX4_move (wsV RX4 163 RX4 yX4_numbersOf wsX4_numbersOf) := goodIn_app (goodIn_of _ (by decide +kernel)) ggX4_move_X4_numbersOf
set_option maxRecDepth 20000 in
theorem ggX4_move_X4_fits : GoodIn wsX4_move wsX4_fits := goodIn_r _ [27, 28, 29] (by decide +kernel) (by decide +kernel)
set_option maxRecDepth 20000 in
theorem gX4_move_X4_fits : GoodIn wsX4_move (va_wsS RX4 108 yX4_fits wsX4_fits) := goodIn_app (goodIn_of _ (by decide +kernel)) ggX4_move_X4_fits
set_option maxRecDepth 20000 in
theorem ggX4_move_X4_touchOf : GoodIn wsX4_move wsX4_touchOf := goodIn_r _ [33, 4, 34, 35, 36, 37, 38, 11, 39, 40, 41, 42, 43, 44, 45, 46, 47, 48, 49, 50, 51, 52, 53, 54, 55, 59, 60, 61, 62, 63, 64, 65, 66, 67, 68, 69, 70, 71, 72, 73, 74, 75, 76, 77, 78, 79, 80, 81] (by decide +kernel) (by decide +kernel)
set_option maxRecDepth 20000 in
theorem gX4_move_X4_touchOf : GoodIn wsX4_move (wsV RX4 91 RX4 yX4_touchOf wsX4_touchOf) := goodIn_app (goodIn_of _ (by decide +kernel)) ggX4_move_X4_touchOf
set_option maxRecDepth 20000 in
theorem ggX4_move_X4_folded : GoodIn wsX4_move wsX4_folded := goodIn_r _ [58] (by decide +kernel) (by decide +kernel)
set_option maxRecDepth 20000 in
theorem gX4_move_X4_folded : GoodIn wsX4_move (va_wsS RX4 144 yX4_folded wsX4_folded) := goodIn_app (goodIn_of _ (by decide +kernel)) ggX4_move_X4_folded
set_option maxRecDepth 20000 in
theorem ggX4_of_X4_isState : GoodIn wsX4_of wsX4_isState := goodIn_r _ [9, 10, 15, 16, 17, 18, 19, 20, 21, 22, 23, 24, 25, 26, 27, 28, 29, 30, 31, 32, 33, 34, 35, 36, 37] (by decide +kernel) (by decide +kernel)
set_option maxRecDepth 20000 in
theorem gX4_of_X4_isState : GoodIn wsX4_of (wsV RX4 105 RX4 yX4_isState wsX4_isState) := goodIn_app (goodIn_of _ (by decide +kernel)) ggX4_of_X4_isState
set_option maxRecDepth 20000 in
theorem ggX4_of_X4_fails : GoodIn wsX4_of wsX4_fails := goodIn_r _ [14, 1, 15, 16, 17, 18, 19, 20, 21, 22, 23, 24, 25, 26, 27, 28, 29, 30, 31, 32, 33, 34, 35, 36, 37] (by decide +kernel) (by decide +kernel)
set_option maxRecDepth 20000 in
theorem gX4_of_X4_fails : GoodIn wsX4_of (wsV RX4 130 RX4 yX4_fails wsX4_fails) := goodIn_app (goodIn_of _ (by decide +kernel)) ggX4_of_X4_fails
set_option maxRecDepth 20000 in
theorem ggX4_told_X4_pageOf : GoodIn wsX4_told wsX4_pageOf := goodIn_r _ [13] (by decide +kernel) (by decide +kernel)
set_option maxRecDepth 20000 in
theorem gX4_told_X4_pageOf : GoodIn wsX4_told (wsV RX4 72 RX4 yX4_pageOf wsX4_pageOf) := goodIn_app (goodIn_of _ (by decide +kernel)) ggX4_told_X4_pageOf
set_option maxRecDepth 20000 in
theorem ggX4_told_X4_numbersOf : GoodIn wsX4_told wsX4_numbersOf := goodIn_r _ [17, 18, 3, 19, 29, 30, 31, 32, 33, 34, 35, 36, 37, 38, 39, 40, 41, 42, 43, 44, 45, 46, 47, 48, 49, 50, 51] (by decide +kernel) (by decide +kernel)
set_option maxRecDepth 20000 in
theorem gX4_told_X4_numbersOf : GoodIn wsX4_told (wsV RX4 163 RX4 yX4_numbersOf wsX4_numbersOf) := goodIn_app (goodIn_of _ (by decide +kernel)) ggX4_told_X4_numbersOf
set_option maxRecDepth 20000 in
theorem ggX4_told_X4_sharedPages : GoodIn wsX4_told wsX4_sharedPages := goodIn_r _ [23, 24, 25, 26, 12, 27, 6, 28, 29, 30, 31, 32, 33, 34, 35, 36, 37, 38, 39, 40, 41, 42, 43, 44, 45, 46, 47, 48, 49, 50, 51] (by decide +kernel) (by decide +kernel)
set_option maxRecDepth 20000 in
theorem gX4_told_X4_sharedPages : GoodIn wsX4_told (wsV RX4 160 RX4 yX4_sharedPages wsX4_sharedPages) := goodIn_app (goodIn_of _ (by decide +kernel)) ggX4_told_X4_sharedPages
