set_option maxRecDepth 20000 in
theorem wd_X4_fits_c100 : Cond.constantLong RX4 100 (lN 1000) ∈ wsX4_fits := by decide +kernel
set_option maxRecDepth 20000 in
theorem wd_X4_fits_c98 : Cond.constantLong RX4 98 (-lN 1000) ∈ wsX4_fits := by decide +kernel
set_option maxRecDepth 20000 in
theorem in_X4_find_4 : ∀ w ∈ u_ws RX4 TX4 23, w ∈ wsX4_find := by decide +kernel
set_option maxRecDepth 20000 in
theorem lk_X4_find_32 : Cond.fieldLink RX4 32 (TX4 9).1 (TX4 9).2.1 (TX4 9).2.2.1 ∈ wsX4_find := by decide +kernel
set_option maxRecDepth 20000 in
theorem lk_X4_find_28 : Cond.fieldLink RX4 28 (TX4 8).1 (TX4 8).2.1 (TX4 8).2.2.1 ∈ wsX4_find := by decide +kernel
set_option maxRecDepth 20000 in
theorem lk_X4_find_25 : Cond.fieldLink RX4 25 (TX4 7).1 (TX4 7).2.1 (TX4 7).2.2.1 ∈ wsX4_find := by decide +kernel
set_option maxRecDepth 20000 in
theorem lk_X4_find_22 : Cond.fieldLink RX4 22 (TX4 6).1 (TX4 6).2.1 (TX4 6).2.2.1 ∈ wsX4_find := by decide +kernel
set_option maxRecDepth 20000 in
theorem in_X4_here_4 : ∀ w ∈ u_ws RX4 TX4 23, w ∈ wsX4_here := by decide +kernel
set_option maxRecDepth 20000 in
theorem lk_X4_here_84 : Cond.fieldLink RX4 84 (TX4 21).1 (TX4 21).2.1 (TX4 21).2.2.1 ∈ wsX4_here := by decide +kernel
set_option maxRecDepth 20000 in
theorem lk_X4_here_80 : Cond.fieldLink RX4 80 (TX4 20).1 (TX4 20).2.1 (TX4 20).2.2.1 ∈ wsX4_here := by decide +kernel
set_option maxRecDepth 20000 in
theorem in_X4_isState_4 : ∀ w ∈ u_ws RX4 TX4 23, w ∈ wsX4_isState := by decide +kernel
set_option maxRecDepth 20000 in
theorem lk_X4_isState_102 : Cond.fieldLink RX4 102 (TX4 1).1 (TX4 1).2.1 (TX4 1).2.2.1 ∈ wsX4_isState := by decide +kernel
set_option maxRecDepth 20000 in
theorem in_X4_isRefused_4 : ∀ w ∈ u_ws RX4 TX4 23, w ∈ wsX4_isRefused := by decide +kernel
set_option maxRecDepth 20000 in
theorem lk_X4_isRefused_58 : Cond.fieldLink RX4 58 (TX4 0).1 (TX4 0).2.1 (TX4 0).2.2.1 ∈ wsX4_isRefused := by decide +kernel
set_option maxRecDepth 20000 in
theorem lk_X4_isRefused_120 : Cond.fieldLink RX4 120 (TX4 22).1 (TX4 22).2.1 (TX4 22).2.2.1 ∈ wsX4_isRefused := by decide +kernel
set_option maxRecDepth 20000 in
theorem lk_X4_isRefused_112 : Cond.fieldLink RX4 112 (TX4 19).1 (TX4 19).2.1 (TX4 19).2.2.1 ∈ wsX4_isRefused := by decide +kernel
set_option maxRecDepth 20000 in
theorem lk_X4_isRefused_16 : Cond.fieldLink RX4 16 (TX4 4).1 (TX4 4).2.1 (TX4 4).2.2.1 ∈ wsX4_isRefused := by decide +kernel
set_option maxRecDepth 20000 in
theorem lk_X4_isRefused_13 : Cond.fieldLink RX4 13 (TX4 3).1 (TX4 3).2.1 (TX4 3).2.2.1 ∈ wsX4_isRefused := by decide +kernel
set_option maxRecDepth 20000 in
theorem in_X4_newEntry_4 : ∀ w ∈ u_ws RX4 TX4 23, w ∈ wsX4_newEntry := by decide +kernel
set_option maxRecDepth 20000 in
theorem lk_X4_newEntry_22 : Cond.fieldLink RX4 22 (TX4 6).1 (TX4 6).2.1 (TX4 6).2.2.1 ∈ wsX4_newEntry := by decide +kernel
set_option maxRecDepth 20000 in
theorem lk_X4_newEntry_35 : Cond.fieldLink RX4 35 (TX4 10).1 (TX4 10).2.1 (TX4 10).2.2.1 ∈ wsX4_newEntry := by decide +kernel
set_option maxRecDepth 20000 in
theorem lk_X4_newEntry_84 : Cond.fieldLink RX4 84 (TX4 21).1 (TX4 21).2.1 (TX4 21).2.2.1 ∈ wsX4_newEntry := by decide +kernel
set_option maxRecDepth 20000 in
theorem lk_X4_newEntry_32 : Cond.fieldLink RX4 32 (TX4 9).1 (TX4 9).2.1 (TX4 9).2.2.1 ∈ wsX4_newEntry := by decide +kernel
set_option maxRecDepth 20000 in
theorem lk_X4_newEntry_80 : Cond.fieldLink RX4 80 (TX4 20).1 (TX4 20).2.1 (TX4 20).2.2.1 ∈ wsX4_newEntry := by decide +kernel
set_option maxRecDepth 20000 in
theorem lk_X4_newEntry_28 : Cond.fieldLink RX4 28 (TX4 8).1 (TX4 8).2.1 (TX4 8).2.2.1 ∈ wsX4_newEntry := by decide +kernel
set_option maxRecDepth 20000 in
theorem lk_X4_newEntry_25 : Cond.fieldLink RX4 25 (TX4 7).1 (TX4 7).2.1 (TX4 7).2.2.1 ∈ wsX4_newEntry := by decide +kernel
set_option maxRecDepth 20000 in
theorem in_X4_isShared_4 : ∀ w ∈ u_ws RX4 TX4 23, w ∈ wsX4_isShared := by decide +kernel
set_option maxRecDepth 20000 in
theorem lk_X4_isShared_44 : Cond.fieldLink RX4 44 (TX4 13).1 (TX4 13).2.1 (TX4 13).2.2.1 ∈ wsX4_isShared := by decide +kernel
set_option maxRecDepth 20000 in
theorem lk_X4_isShared_47 : Cond.fieldLink RX4 47 (TX4 14).1 (TX4 14).2.1 (TX4 14).2.2.1 ∈ wsX4_isShared := by decide +kernel
set_option maxRecDepth 20000 in
theorem in_X4_newPage_4 : ∀ w ∈ u_ws RX4 TX4 23, w ∈ wsX4_newPage := by decide +kernel
set_option maxRecDepth 20000 in
theorem lk_X4_newPage_62 : Cond.fieldLink RX4 62 (TX4 17).1 (TX4 17).2.1 (TX4 17).2.2.1 ∈ wsX4_newPage := by decide +kernel
set_option maxRecDepth 20000 in
theorem in_X4_touch_4 : ∀ w ∈ u_ws RX4 TX4 23, w ∈ wsX4_touch := by decide +kernel
set_option maxRecDepth 20000 in
theorem lk_X4_touch_44 : Cond.fieldLink RX4 44 (TX4 13).1 (TX4 13).2.1 (TX4 13).2.2.1 ∈ wsX4_touch := by decide +kernel
set_option maxRecDepth 20000 in
theorem lk_X4_touch_69 : Cond.fieldLink RX4 69 (TX4 18).1 (TX4 18).2.1 (TX4 18).2.2.1 ∈ wsX4_touch := by decide +kernel
set_option maxRecDepth 20000 in
theorem in_X4_touchOf_4 : ∀ w ∈ u_ws RX4 TX4 23, w ∈ wsX4_touchOf := by decide +kernel
set_option maxRecDepth 20000 in
theorem lk_X4_touchOf_32 : Cond.fieldLink RX4 32 (TX4 9).1 (TX4 9).2.1 (TX4 9).2.2.1 ∈ wsX4_touchOf := by decide +kernel
set_option maxRecDepth 20000 in
theorem lk_X4_touchOf_28 : Cond.fieldLink RX4 28 (TX4 8).1 (TX4 8).2.1 (TX4 8).2.2.1 ∈ wsX4_touchOf := by decide +kernel
set_option maxRecDepth 20000 in
theorem lk_X4_touchOf_25 : Cond.fieldLink RX4 25 (TX4 7).1 (TX4 7).2.1 (TX4 7).2.2.1 ∈ wsX4_touchOf := by decide +kernel
set_option maxRecDepth 20000 in
theorem in_X4_add_4 : ∀ w ∈ u_ws RX4 TX4 23, w ∈ wsX4_add := by decide +kernel
set_option maxRecDepth 20000 in
theorem lk_X4_add_35 : Cond.fieldLink RX4 35 (TX4 10).1 (TX4 10).2.1 (TX4 10).2.2.1 ∈ wsX4_add := by decide +kernel
set_option maxRecDepth 20000 in
theorem lk_X4_add_38 : Cond.fieldLink RX4 38 (TX4 11).1 (TX4 11).2.1 (TX4 11).2.2.1 ∈ wsX4_add := by decide +kernel
set_option maxRecDepth 20000 in
theorem lk_X4_add_120 : Cond.fieldLink RX4 120 (TX4 22).1 (TX4 22).2.1 (TX4 22).2.2.1 ∈ wsX4_add := by decide +kernel
set_option maxRecDepth 20000 in
theorem lk_X4_add_22 : Cond.fieldLink RX4 22 (TX4 6).1 (TX4 6).2.1 (TX4 6).2.2.1 ∈ wsX4_add := by decide +kernel
set_option maxRecDepth 20000 in
theorem in_X4_copyOf_4 : ∀ w ∈ u_ws RX4 TX4 23, w ∈ wsX4_copyOf := by decide +kernel
set_option maxRecDepth 20000 in
theorem lk_X4_copyOf_51 : Cond.fieldLink RX4 51 (TX4 15).1 (TX4 15).2.1 (TX4 15).2.2.1 ∈ wsX4_copyOf := by decide +kernel
set_option maxRecDepth 20000 in
theorem lk_X4_copyOf_47 : Cond.fieldLink RX4 47 (TX4 14).1 (TX4 14).2.1 (TX4 14).2.2.1 ∈ wsX4_copyOf := by decide +kernel
set_option maxRecDepth 20000 in
theorem in_X4_fails_4 : ∀ w ∈ u_ws RX4 TX4 23, w ∈ wsX4_fails := by decide +kernel
set_option maxRecDepth 20000 in
theorem lk_X4_fails_58 : Cond.fieldLink RX4 58 (TX4 0).1 (TX4 0).2.1 (TX4 0).2.2.1 ∈ wsX4_fails := by decide +kernel
set_option maxRecDepth 20000 in
theorem in_X4_numbersOf_4 : ∀ w ∈ u_ws RX4 TX4 23, w ∈ wsX4_numbersOf := by decide +kernel
set_option maxRecDepth 20000 in
theorem lk_X4_numbersOf_35 : Cond.fieldLink RX4 35 (TX4 10).1 (TX4 10).2.1 (TX4 10).2.2.1 ∈ wsX4_numbersOf := by decide +kernel
set_option maxRecDepth 20000 in
theorem lk_X4_numbersOf_25 : Cond.fieldLink RX4 25 (TX4 7).1 (TX4 7).2.1 (TX4 7).2.2.1 ∈ wsX4_numbersOf := by decide +kernel
set_option maxRecDepth 20000 in
theorem lk_X4_numbersOf_13 : Cond.fieldLink RX4 13 (TX4 3).1 (TX4 3).2.1 (TX4 3).2.2.1 ∈ wsX4_numbersOf := by decide +kernel
set_option maxRecDepth 20000 in
theorem in_X4_ask_4 : ∀ w ∈ u_ws RX4 TX4 23, w ∈ wsX4_ask := by decide +kernel
set_option maxRecDepth 20000 in
theorem lk_X4_ask_38 : Cond.fieldLink RX4 38 (TX4 11).1 (TX4 11).2.1 (TX4 11).2.2.1 ∈ wsX4_ask := by decide +kernel
set_option maxRecDepth 20000 in
theorem lk_X4_ask_58 : Cond.fieldLink RX4 58 (TX4 0).1 (TX4 0).2.1 (TX4 0).2.2.1 ∈ wsX4_ask := by decide +kernel
set_option maxRecDepth 20000 in
theorem in_X4_copyEntry_4 : ∀ w ∈ u_ws RX4 TX4 23, w ∈ wsX4_copyEntry := by decide +kernel
set_option maxRecDepth 20000 in
theorem lk_X4_copyEntry_41 : Cond.fieldLink RX4 41 (TX4 12).1 (TX4 12).2.1 (TX4 12).2.2.1 ∈ wsX4_copyEntry := by decide +kernel
set_option maxRecDepth 20000 in
theorem lk_X4_copyEntry_38 : Cond.fieldLink RX4 38 (TX4 11).1 (TX4 11).2.1 (TX4 11).2.2.1 ∈ wsX4_copyEntry := by decide +kernel
set_option maxRecDepth 20000 in
theorem lk_X4_copyEntry_35 : Cond.fieldLink RX4 35 (TX4 10).1 (TX4 10).2.1 (TX4 10).2.2.1 ∈ wsX4_copyEntry := by decide +kernel
set_option maxRecDepth 20000 in
theorem lk_X4_copyEntry_32 : Cond.fieldLink RX4 32 (TX4 9).1 (TX4 9).2.1 (TX4 9).2.2.1 ∈ wsX4_copyEntry := by decide +kernel
set_option maxRecDepth 20000 in
theorem lk_X4_copyEntry_28 : Cond.fieldLink RX4 28 (TX4 8).1 (TX4 8).2.1 (TX4 8).2.2.1 ∈ wsX4_copyEntry := by decide +kernel
set_option maxRecDepth 20000 in
theorem lk_X4_copyEntry_25 : Cond.fieldLink RX4 25 (TX4 7).1 (TX4 7).2.1 (TX4 7).2.2.1 ∈ wsX4_copyEntry := by decide +kernel
set_option maxRecDepth 20000 in
theorem in_X4_dropEntry_4 : ∀ w ∈ u_ws RX4 TX4 23, w ∈ wsX4_dropEntry := by decide +kernel
set_option maxRecDepth 20000 in
theorem lk_X4_dropEntry_22 : Cond.fieldLink RX4 22 (TX4 6).1 (TX4 6).2.1 (TX4 6).2.2.1 ∈ wsX4_dropEntry := by decide +kernel
set_option maxRecDepth 20000 in
theorem in_X4_lacks_4 : ∀ w ∈ u_ws RX4 TX4 23, w ∈ wsX4_lacks := by decide +kernel
set_option maxRecDepth 20000 in
theorem lk_X4_lacks_58 : Cond.fieldLink RX4 58 (TX4 0).1 (TX4 0).2.1 (TX4 0).2.2.1 ∈ wsX4_lacks := by decide +kernel
set_option maxRecDepth 20000 in
theorem lk_X4_lacks_120 : Cond.fieldLink RX4 120 (TX4 22).1 (TX4 22).2.1 (TX4 22).2.2.1 ∈ wsX4_lacks := by decide +kernel
set_option maxRecDepth 20000 in
theorem lk_X4_lacks_112 : Cond.fieldLink RX4 112 (TX4 19).1 (TX4 19).2.1 (TX4 19).2.2.1 ∈ wsX4_lacks := by decide +kernel
set_option maxRecDepth 20000 in
theorem in_X4_clear_4 : ∀ w ∈ u_ws RX4 TX4 23, w ∈ wsX4_clear := by decide +kernel
set_option maxRecDepth 20000 in
theorem lk_X4_clear_120 : Cond.fieldLink RX4 120 (TX4 22).1 (TX4 22).2.1 (TX4 22).2.2.1 ∈ wsX4_clear := by decide +kernel
set_option maxRecDepth 20000 in
theorem in_X4_clearSpan_4 : ∀ w ∈ u_ws RX4 TX4 23, w ∈ wsX4_clearSpan := by decide +kernel
set_option maxRecDepth 20000 in
theorem lk_X4_clearSpan_84 : Cond.fieldLink RX4 84 (TX4 21).1 (TX4 21).2.1 (TX4 21).2.2.1 ∈ wsX4_clearSpan := by decide +kernel
set_option maxRecDepth 20000 in
theorem lk_X4_clearSpan_32 : Cond.fieldLink RX4 32 (TX4 9).1 (TX4 9).2.1 (TX4 9).2.2.1 ∈ wsX4_clearSpan := by decide +kernel
set_option maxRecDepth 20000 in
theorem lk_X4_clearSpan_22 : Cond.fieldLink RX4 22 (TX4 6).1 (TX4 6).2.1 (TX4 6).2.2.1 ∈ wsX4_clearSpan := by decide +kernel
set_option maxRecDepth 20000 in
theorem lk_X4_clearSpan_58 : Cond.fieldLink RX4 58 (TX4 0).1 (TX4 0).2.1 (TX4 0).2.2.1 ∈ wsX4_clearSpan := by decide +kernel
set_option maxRecDepth 20000 in
theorem in_X4_copyAll_4 : ∀ w ∈ u_ws RX4 TX4 23, w ∈ wsX4_copyAll := by decide +kernel
set_option maxRecDepth 20000 in
theorem lk_X4_copyAll_44 : Cond.fieldLink RX4 44 (TX4 13).1 (TX4 13).2.1 (TX4 13).2.2.1 ∈ wsX4_copyAll := by decide +kernel
set_option maxRecDepth 20000 in
theorem lk_X4_copyAll_22 : Cond.fieldLink RX4 22 (TX4 6).1 (TX4 6).2.1 (TX4 6).2.2.1 ∈ wsX4_copyAll := by decide +kernel
set_option maxRecDepth 20000 in
theorem in_X4_drop_4 : ∀ w ∈ u_ws RX4 TX4 23, w ∈ wsX4_drop := by decide +kernel
set_option maxRecDepth 20000 in
theorem lk_X4_drop_47 : Cond.fieldLink RX4 47 (TX4 14).1 (TX4 14).2.1 (TX4 14).2.2.1 ∈ wsX4_drop := by decide +kernel
set_option maxRecDepth 20000 in
theorem lk_X4_drop_58 : Cond.fieldLink RX4 58 (TX4 0).1 (TX4 0).2.1 (TX4 0).2.2.1 ∈ wsX4_drop := by decide +kernel
set_option maxRecDepth 20000 in
theorem in_X4_entries_4 : ∀ w ∈ u_ws RX4 TX4 23, w ∈ wsX4_entries := by decide +kernel
set_option maxRecDepth 20000 in
theorem lk_X4_entries_25 : Cond.fieldLink RX4 25 (TX4 7).1 (TX4 7).2.1 (TX4 7).2.2.1 ∈ wsX4_entries := by decide +kernel
set_option maxRecDepth 20000 in
theorem lk_X4_entries_22 : Cond.fieldLink RX4 22 (TX4 6).1 (TX4 6).2.1 (TX4 6).2.2.1 ∈ wsX4_entries := by decide +kernel
set_option maxRecDepth 20000 in
theorem lk_X4_entries_58 : Cond.fieldLink RX4 58 (TX4 0).1 (TX4 0).2.1 (TX4 0).2.2.1 ∈ wsX4_entries := by decide +kernel
set_option maxRecDepth 20000 in
theorem in_X4_fold_4 : ∀ w ∈ u_ws RX4 TX4 23, w ∈ wsX4_fold := by decide +kernel
set_option maxRecDepth 20000 in
theorem lk_X4_fold_35 : Cond.fieldLink RX4 35 (TX4 10).1 (TX4 10).2.1 (TX4 10).2.2.1 ∈ wsX4_fold := by decide +kernel
set_option maxRecDepth 20000 in
theorem lk_X4_fold_38 : Cond.fieldLink RX4 38 (TX4 11).1 (TX4 11).2.1 (TX4 11).2.2.1 ∈ wsX4_fold := by decide +kernel
set_option maxRecDepth 20000 in
theorem lk_X4_fold_16 : Cond.fieldLink RX4 16 (TX4 4).1 (TX4 4).2.1 (TX4 4).2.2.1 ∈ wsX4_fold := by decide +kernel
set_option maxRecDepth 20000 in
theorem lk_X4_fold_120 : Cond.fieldLink RX4 120 (TX4 22).1 (TX4 22).2.1 (TX4 22).2.2.1 ∈ wsX4_fold := by decide +kernel
set_option maxRecDepth 20000 in
theorem lk_X4_fold_22 : Cond.fieldLink RX4 22 (TX4 6).1 (TX4 6).2.1 (TX4 6).2.2.1 ∈ wsX4_fold := by decide +kernel
set_option maxRecDepth 20000 in
theorem in_X4_placeOf_4 : ∀ w ∈ u_ws RX4 TX4 23, w ∈ wsX4_placeOf := by decide +kernel
set_option maxRecDepth 20000 in
theorem lk_X4_placeOf_41 : Cond.fieldLink RX4 41 (TX4 12).1 (TX4 12).2.1 (TX4 12).2.2.1 ∈ wsX4_placeOf := by decide +kernel
set_option maxRecDepth 20000 in
theorem lk_X4_placeOf_35 : Cond.fieldLink RX4 35 (TX4 10).1 (TX4 10).2.1 (TX4 10).2.2.1 ∈ wsX4_placeOf := by decide +kernel
set_option maxRecDepth 20000 in
theorem in_X4_has_4 : ∀ w ∈ u_ws RX4 TX4 23, w ∈ wsX4_has := by decide +kernel
set_option maxRecDepth 20000 in
theorem lk_X4_has_41 : Cond.fieldLink RX4 41 (TX4 12).1 (TX4 12).2.1 (TX4 12).2.2.1 ∈ wsX4_has := by decide +kernel
set_option maxRecDepth 20000 in
theorem lk_X4_has_35 : Cond.fieldLink RX4 35 (TX4 10).1 (TX4 10).2.1 (TX4 10).2.2.1 ∈ wsX4_has := by decide +kernel
set_option maxRecDepth 20000 in
theorem in_X4_get_4 : ∀ w ∈ u_ws RX4 TX4 23, w ∈ wsX4_get := by decide +kernel
set_option maxRecDepth 20000 in
theorem lk_X4_get_120 : Cond.fieldLink RX4 120 (TX4 22).1 (TX4 22).2.1 (TX4 22).2.2.1 ∈ wsX4_get := by decide +kernel
set_option maxRecDepth 20000 in
theorem lk_X4_get_38 : Cond.fieldLink RX4 38 (TX4 11).1 (TX4 11).2.1 (TX4 11).2.2.1 ∈ wsX4_get := by decide +kernel
set_option maxRecDepth 20000 in
theorem in_X4_init_4 : ∀ w ∈ u_ws RX4 TX4 23, w ∈ wsX4_init := by decide +kernel
set_option maxRecDepth 20000 in
theorem lk_X4_init_44 : Cond.fieldLink RX4 44 (TX4 13).1 (TX4 13).2.1 (TX4 13).2.2.1 ∈ wsX4_init := by decide +kernel
set_option maxRecDepth 20000 in
theorem lk_X4_init_51 : Cond.fieldLink RX4 51 (TX4 15).1 (TX4 15).2.1 (TX4 15).2.2.1 ∈ wsX4_init := by decide +kernel
set_option maxRecDepth 20000 in
theorem wd_X4_init_a0 : Cond.arrayClass (newarray.typeOf .int) ∈ wsX4_init := by decide +kernel
set_option maxRecDepth 20000 in
theorem lk_X4_init_47 : Cond.fieldLink RX4 47 (TX4 14).1 (TX4 14).2.1 (TX4 14).2.2.1 ∈ wsX4_init := by decide +kernel
set_option maxRecDepth 20000 in
theorem wd_X4_init_a2 : Cond.arrayClass (newarray.typeOf .boolean) ∈ wsX4_init := by decide +kernel
set_option maxRecDepth 20000 in
theorem lk_X4_init_41 : Cond.fieldLink RX4 41 (TX4 12).1 (TX4 12).2.1 (TX4 12).2.2.1 ∈ wsX4_init := by decide +kernel
set_option maxRecDepth 20000 in
theorem wd_X4_init_a1 : Cond.arrayClass (newarray.typeOf .long) ∈ wsX4_init := by decide +kernel
set_option maxRecDepth 20000 in
theorem lk_X4_init_38 : Cond.fieldLink RX4 38 (TX4 11).1 (TX4 11).2.1 (TX4 11).2.2.1 ∈ wsX4_init := by decide +kernel
set_option maxRecDepth 20000 in
theorem lk_X4_init_35 : Cond.fieldLink RX4 35 (TX4 10).1 (TX4 10).2.1 (TX4 10).2.2.1 ∈ wsX4_init := by decide +kernel
set_option maxRecDepth 20000 in
theorem lk_X4_init_32 : Cond.fieldLink RX4 32 (TX4 9).1 (TX4 9).2.1 (TX4 9).2.2.1 ∈ wsX4_init := by decide +kernel
set_option maxRecDepth 20000 in
theorem lk_X4_init_28 : Cond.fieldLink RX4 28 (TX4 8).1 (TX4 8).2.1 (TX4 8).2.2.1 ∈ wsX4_init := by decide +kernel
set_option maxRecDepth 20000 in
theorem lk_X4_init_25 : Cond.fieldLink RX4 25 (TX4 7).1 (TX4 7).2.1 (TX4 7).2.2.1 ∈ wsX4_init := by decide +kernel
set_option maxRecDepth 20000 in
theorem lk_X4_init_22 : Cond.fieldLink RX4 22 (TX4 6).1 (TX4 6).2.1 (TX4 6).2.2.1 ∈ wsX4_init := by decide +kernel
set_option maxRecDepth 20000 in
theorem lk_X4_init_19 : Cond.fieldLink RX4 19 (TX4 5).1 (TX4 5).2.1 (TX4 5).2.2.1 ∈ wsX4_init := by decide +kernel
set_option maxRecDepth 20000 in
theorem lk_X4_init_16 : Cond.fieldLink RX4 16 (TX4 4).1 (TX4 4).2.1 (TX4 4).2.2.1 ∈ wsX4_init := by decide +kernel
set_option maxRecDepth 20000 in
theorem lk_X4_init_13 : Cond.fieldLink RX4 13 (TX4 3).1 (TX4 3).2.1 (TX4 3).2.2.1 ∈ wsX4_init := by decide +kernel
set_option maxRecDepth 20000 in
theorem lk_X4_init_7 : Cond.fieldLink RX4 7 (TX4 2).1 (TX4 2).2.1 (TX4 2).2.2.1 ∈ wsX4_init := by decide +kernel
set_option maxRecDepth 20000 in
theorem wd_X4_init_m1 : Cond.methodLink RX4 1 Lib.objectInit ∈ wsX4_init := by decide +kernel
set_option maxRecDepth 20000 in
theorem wd_X4_init_oi : Cond.instanceMethod Lib.objectInit ∈ wsX4_init := by decide +kernel
set_option maxRecDepth 20000 in
theorem wd_X4_init_oc : Cond.code Lib.objectInit ⟨#[0xb1]⟩ 1 none ∈ wsX4_init := by decide +kernel
set_option maxRecDepth 20000 in
theorem in_X4_item_4 : ∀ w ∈ u_ws RX4 TX4 23, w ∈ wsX4_item := by decide +kernel
set_option maxRecDepth 20000 in
theorem lk_X4_item_120 : Cond.fieldLink RX4 120 (TX4 22).1 (TX4 22).2.1 (TX4 22).2.2.1 ∈ wsX4_item := by decide +kernel
set_option maxRecDepth 20000 in
theorem lk_X4_item_38 : Cond.fieldLink RX4 38 (TX4 11).1 (TX4 11).2.1 (TX4 11).2.2.1 ∈ wsX4_item := by decide +kernel
set_option maxRecDepth 20000 in
theorem lk_X4_item_35 : Cond.fieldLink RX4 35 (TX4 10).1 (TX4 10).2.1 (TX4 10).2.2.1 ∈ wsX4_item := by decide +kernel
set_option maxRecDepth 20000 in
theorem in_X4_key_4 : ∀ w ∈ u_ws RX4 TX4 23, w ∈ wsX4_key := by decide +kernel
set_option maxRecDepth 20000 in
theorem lk_X4_key_80 : Cond.fieldLink RX4 80 (TX4 20).1 (TX4 20).2.1 (TX4 20).2.2.1 ∈ wsX4_key := by decide +kernel
set_option maxRecDepth 20000 in
theorem lk_X4_key_112 : Cond.fieldLink RX4 112 (TX4 19).1 (TX4 19).2.1 (TX4 19).2.2.1 ∈ wsX4_key := by decide +kernel
set_option maxRecDepth 20000 in
theorem lk_X4_key_58 : Cond.fieldLink RX4 58 (TX4 0).1 (TX4 0).2.1 (TX4 0).2.2.1 ∈ wsX4_key := by decide +kernel
set_option maxRecDepth 20000 in
theorem in_X4_keyAt_4 : ∀ w ∈ u_ws RX4 TX4 23, w ∈ wsX4_keyAt := by decide +kernel
set_option maxRecDepth 20000 in
theorem lk_X4_keyAt_28 : Cond.fieldLink RX4 28 (TX4 8).1 (TX4 8).2.1 (TX4 8).2.2.1 ∈ wsX4_keyAt := by decide +kernel
set_option maxRecDepth 20000 in
theorem lk_X4_keyAt_84 : Cond.fieldLink RX4 84 (TX4 21).1 (TX4 21).2.1 (TX4 21).2.2.1 ∈ wsX4_keyAt := by decide +kernel
set_option maxRecDepth 20000 in
theorem lk_X4_keyAt_32 : Cond.fieldLink RX4 32 (TX4 9).1 (TX4 9).2.1 (TX4 9).2.2.1 ∈ wsX4_keyAt := by decide +kernel
set_option maxRecDepth 20000 in
theorem lk_X4_keyAt_25 : Cond.fieldLink RX4 25 (TX4 7).1 (TX4 7).2.1 (TX4 7).2.2.1 ∈ wsX4_keyAt := by decide +kernel
set_option maxRecDepth 20000 in
theorem lk_X4_keyAt_22 : Cond.fieldLink RX4 22 (TX4 6).1 (TX4 6).2.1 (TX4 6).2.2.1 ∈ wsX4_keyAt := by decide +kernel
set_option maxRecDepth 20000 in
theorem lk_X4_keyAt_58 : Cond.fieldLink RX4 58 (TX4 0).1 (TX4 0).2.1 (TX4 0).2.2.1 ∈ wsX4_keyAt := by decide +kernel
set_option maxRecDepth 20000 in
theorem in_X4_keys_4 : ∀ w ∈ u_ws RX4 TX4 23, w ∈ wsX4_keys := by decide +kernel
set_option maxRecDepth 20000 in
theorem lk_X4_keys_84 : Cond.fieldLink RX4 84 (TX4 21).1 (TX4 21).2.1 (TX4 21).2.2.1 ∈ wsX4_keys := by decide +kernel
set_option maxRecDepth 20000 in
theorem lk_X4_keys_32 : Cond.fieldLink RX4 32 (TX4 9).1 (TX4 9).2.1 (TX4 9).2.2.1 ∈ wsX4_keys := by decide +kernel
set_option maxRecDepth 20000 in
theorem lk_X4_keys_25 : Cond.fieldLink RX4 25 (TX4 7).1 (TX4 7).2.1 (TX4 7).2.2.1 ∈ wsX4_keys := by decide +kernel
set_option maxRecDepth 20000 in
theorem lk_X4_keys_22 : Cond.fieldLink RX4 22 (TX4 6).1 (TX4 6).2.1 (TX4 6).2.2.1 ∈ wsX4_keys := by decide +kernel
set_option maxRecDepth 20000 in
theorem lk_X4_keys_58 : Cond.fieldLink RX4 58 (TX4 0).1 (TX4 0).2.1 (TX4 0).2.2.1 ∈ wsX4_keys := by decide +kernel
set_option maxRecDepth 20000 in
theorem in_X4_leave_4 : ∀ w ∈ u_ws RX4 TX4 23, w ∈ wsX4_leave := by decide +kernel
set_option maxRecDepth 20000 in
theorem lk_X4_leave_112 : Cond.fieldLink RX4 112 (TX4 19).1 (TX4 19).2.1 (TX4 19).2.2.1 ∈ wsX4_leave := by decide +kernel
set_option maxRecDepth 20000 in
theorem lk_X4_leave_58 : Cond.fieldLink RX4 58 (TX4 0).1 (TX4 0).2.1 (TX4 0).2.2.1 ∈ wsX4_leave := by decide +kernel
set_option maxRecDepth 20000 in
theorem in_X4_member_4 : ∀ w ∈ u_ws RX4 TX4 23, w ∈ wsX4_member := by decide +kernel
set_option maxRecDepth 20000 in
theorem lk_X4_member_120 : Cond.fieldLink RX4 120 (TX4 22).1 (TX4 22).2.1 (TX4 22).2.2.1 ∈ wsX4_member := by decide +kernel
set_option maxRecDepth 20000 in
theorem lk_X4_member_41 : Cond.fieldLink RX4 41 (TX4 12).1 (TX4 12).2.1 (TX4 12).2.2.1 ∈ wsX4_member := by decide +kernel
set_option maxRecDepth 20000 in
theorem lk_X4_member_35 : Cond.fieldLink RX4 35 (TX4 10).1 (TX4 10).2.1 (TX4 10).2.2.1 ∈ wsX4_member := by decide +kernel
set_option maxRecDepth 20000 in
theorem in_X4_move_4 : ∀ w ∈ u_ws RX4 TX4 23, w ∈ wsX4_move := by decide +kernel
set_option maxRecDepth 20000 in
theorem lk_X4_move_16 : Cond.fieldLink RX4 16 (TX4 4).1 (TX4 4).2.1 (TX4 4).2.2.1 ∈ wsX4_move := by decide +kernel
set_option maxRecDepth 20000 in
theorem lk_X4_move_13 : Cond.fieldLink RX4 13 (TX4 3).1 (TX4 3).2.1 (TX4 3).2.2.1 ∈ wsX4_move := by decide +kernel
set_option maxRecDepth 20000 in
theorem lk_X4_move_35 : Cond.fieldLink RX4 35 (TX4 10).1 (TX4 10).2.1 (TX4 10).2.2.1 ∈ wsX4_move := by decide +kernel
set_option maxRecDepth 20000 in
theorem lk_X4_move_38 : Cond.fieldLink RX4 38 (TX4 11).1 (TX4 11).2.1 (TX4 11).2.2.1 ∈ wsX4_move := by decide +kernel
set_option maxRecDepth 20000 in
theorem lk_X4_move_25 : Cond.fieldLink RX4 25 (TX4 7).1 (TX4 7).2.1 (TX4 7).2.2.1 ∈ wsX4_move := by decide +kernel
set_option maxRecDepth 20000 in
theorem lk_X4_move_22 : Cond.fieldLink RX4 22 (TX4 6).1 (TX4 6).2.1 (TX4 6).2.2.1 ∈ wsX4_move := by decide +kernel
set_option maxRecDepth 20000 in
theorem lk_X4_move_58 : Cond.fieldLink RX4 58 (TX4 0).1 (TX4 0).2.1 (TX4 0).2.2.1 ∈ wsX4_move := by decide +kernel
set_option maxRecDepth 20000 in
theorem in_X4_of_4 : ∀ w ∈ u_ws RX4 TX4 23, w ∈ wsX4_of := by decide +kernel
set_option maxRecDepth 20000 in
theorem lk_X4_of_16 : Cond.fieldLink RX4 16 (TX4 4).1 (TX4 4).2.1 (TX4 4).2.2.1 ∈ wsX4_of := by decide +kernel
set_option maxRecDepth 20000 in
theorem lk_X4_of_13 : Cond.fieldLink RX4 13 (TX4 3).1 (TX4 3).2.1 (TX4 3).2.2.1 ∈ wsX4_of := by decide +kernel
set_option maxRecDepth 20000 in
theorem lk_X4_of_7 : Cond.fieldLink RX4 7 (TX4 2).1 (TX4 2).2.1 (TX4 2).2.2.1 ∈ wsX4_of := by decide +kernel
set_option maxRecDepth 20000 in
theorem lk_X4_of_58 : Cond.fieldLink RX4 58 (TX4 0).1 (TX4 0).2.1 (TX4 0).2.2.1 ∈ wsX4_of := by decide +kernel
set_option maxRecDepth 20000 in
theorem in_X4_put_4 : ∀ w ∈ u_ws RX4 TX4 23, w ∈ wsX4_put := by decide +kernel
set_option maxRecDepth 20000 in
theorem lk_X4_put_35 : Cond.fieldLink RX4 35 (TX4 10).1 (TX4 10).2.1 (TX4 10).2.2.1 ∈ wsX4_put := by decide +kernel
set_option maxRecDepth 20000 in
theorem lk_X4_put_38 : Cond.fieldLink RX4 38 (TX4 11).1 (TX4 11).2.1 (TX4 11).2.2.1 ∈ wsX4_put := by decide +kernel
set_option maxRecDepth 20000 in
theorem lk_X4_put_120 : Cond.fieldLink RX4 120 (TX4 22).1 (TX4 22).2.1 (TX4 22).2.2.1 ∈ wsX4_put := by decide +kernel
set_option maxRecDepth 20000 in
theorem lk_X4_put_22 : Cond.fieldLink RX4 22 (TX4 6).1 (TX4 6).2.1 (TX4 6).2.2.1 ∈ wsX4_put := by decide +kernel
set_option maxRecDepth 20000 in
theorem in_X4_remove_4 : ∀ w ∈ u_ws RX4 TX4 23, w ∈ wsX4_remove := by decide +kernel
set_option maxRecDepth 20000 in
theorem lk_X4_remove_120 : Cond.fieldLink RX4 120 (TX4 22).1 (TX4 22).2.1 (TX4 22).2.2.1 ∈ wsX4_remove := by decide +kernel
set_option maxRecDepth 20000 in
theorem lk_X4_remove_35 : Cond.fieldLink RX4 35 (TX4 10).1 (TX4 10).2.1 (TX4 10).2.2.1 ∈ wsX4_remove := by decide +kernel
set_option maxRecDepth 20000 in
theorem lk_X4_remove_41 : Cond.fieldLink RX4 41 (TX4 12).1 (TX4 12).2.1 (TX4 12).2.2.1 ∈ wsX4_remove := by decide +kernel
set_option maxRecDepth 20000 in
theorem lk_X4_remove_38 : Cond.fieldLink RX4 38 (TX4 11).1 (TX4 11).2.1 (TX4 11).2.2.1 ∈ wsX4_remove := by decide +kernel
set_option maxRecDepth 20000 in
theorem in_X4_restore_4 : ∀ w ∈ u_ws RX4 TX4 23, w ∈ wsX4_restore := by decide +kernel
set_option maxRecDepth 20000 in
theorem lk_X4_restore_22 : Cond.fieldLink RX4 22 (TX4 6).1 (TX4 6).2.1 (TX4 6).2.2.1 ∈ wsX4_restore := by decide +kernel
set_option maxRecDepth 20000 in
theorem lk_X4_restore_16 : Cond.fieldLink RX4 16 (TX4 4).1 (TX4 4).2.1 (TX4 4).2.2.1 ∈ wsX4_restore := by decide +kernel
set_option maxRecDepth 20000 in
theorem lk_X4_restore_13 : Cond.fieldLink RX4 13 (TX4 3).1 (TX4 3).2.1 (TX4 3).2.2.1 ∈ wsX4_restore := by decide +kernel
set_option maxRecDepth 20000 in
theorem lk_X4_restore_19 : Cond.fieldLink RX4 19 (TX4 5).1 (TX4 5).2.1 (TX4 5).2.2.1 ∈ wsX4_restore := by decide +kernel
set_option maxRecDepth 20000 in
theorem lk_X4_restore_58 : Cond.fieldLink RX4 58 (TX4 0).1 (TX4 0).2.1 (TX4 0).2.2.1 ∈ wsX4_restore := by decide +kernel
set_option maxRecDepth 20000 in
theorem in_X4_set_4 : ∀ w ∈ u_ws RX4 TX4 23, w ∈ wsX4_set := by decide +kernel
set_option maxRecDepth 20000 in
theorem lk_X4_set_38 : Cond.fieldLink RX4 38 (TX4 11).1 (TX4 11).2.1 (TX4 11).2.2.1 ∈ wsX4_set := by decide +kernel
set_option maxRecDepth 20000 in
theorem lk_X4_set_41 : Cond.fieldLink RX4 41 (TX4 12).1 (TX4 12).2.1 (TX4 12).2.2.1 ∈ wsX4_set := by decide +kernel
set_option maxRecDepth 20000 in
theorem lk_X4_set_35 : Cond.fieldLink RX4 35 (TX4 10).1 (TX4 10).2.1 (TX4 10).2.2.1 ∈ wsX4_set := by decide +kernel
set_option maxRecDepth 20000 in
theorem lk_X4_set_120 : Cond.fieldLink RX4 120 (TX4 22).1 (TX4 22).2.1 (TX4 22).2.2.1 ∈ wsX4_set := by decide +kernel
set_option maxRecDepth 20000 in
theorem lk_X4_set_22 : Cond.fieldLink RX4 22 (TX4 6).1 (TX4 6).2.1 (TX4 6).2.2.1 ∈ wsX4_set := by decide +kernel
set_option maxRecDepth 20000 in
theorem in_X4_size_4 : ∀ w ∈ u_ws RX4 TX4 23, w ∈ wsX4_size := by decide +kernel
set_option maxRecDepth 20000 in
theorem lk_X4_size_120 : Cond.fieldLink RX4 120 (TX4 22).1 (TX4 22).2.1 (TX4 22).2.2.1 ∈ wsX4_size := by decide +kernel
set_option maxRecDepth 20000 in
theorem lk_X4_size_35 : Cond.fieldLink RX4 35 (TX4 10).1 (TX4 10).2.1 (TX4 10).2.2.1 ∈ wsX4_size := by decide +kernel
set_option maxRecDepth 20000 in
theorem in_X4_snapshot_4 : ∀ w ∈ u_ws RX4 TX4 23, w ∈ wsX4_snapshot := by decide +kernel
set_option maxRecDepth 20000 in
theorem lk_X4_snapshot_154 : Cond.fieldLink RX4 154 (TX4 16).1 (TX4 16).2.1 (TX4 16).2.2.1 ∈ wsX4_snapshot := by decide +kernel
set_option maxRecDepth 20000 in
theorem lk_X4_snapshot_51 : Cond.fieldLink RX4 51 (TX4 15).1 (TX4 15).2.1 (TX4 15).2.2.1 ∈ wsX4_snapshot := by decide +kernel
set_option maxRecDepth 20000 in
theorem lk_X4_snapshot_47 : Cond.fieldLink RX4 47 (TX4 14).1 (TX4 14).2.1 (TX4 14).2.2.1 ∈ wsX4_snapshot := by decide +kernel
set_option maxRecDepth 20000 in
theorem lk_X4_snapshot_102 : Cond.fieldLink RX4 102 (TX4 1).1 (TX4 1).2.1 (TX4 1).2.2.1 ∈ wsX4_snapshot := by decide +kernel
set_option maxRecDepth 20000 in
theorem lk_X4_snapshot_19 : Cond.fieldLink RX4 19 (TX4 5).1 (TX4 5).2.1 (TX4 5).2.2.1 ∈ wsX4_snapshot := by decide +kernel
set_option maxRecDepth 20000 in
theorem lk_X4_snapshot_16 : Cond.fieldLink RX4 16 (TX4 4).1 (TX4 4).2.1 (TX4 4).2.2.1 ∈ wsX4_snapshot := by decide +kernel
set_option maxRecDepth 20000 in
theorem lk_X4_snapshot_13 : Cond.fieldLink RX4 13 (TX4 3).1 (TX4 3).2.1 (TX4 3).2.2.1 ∈ wsX4_snapshot := by decide +kernel
set_option maxRecDepth 20000 in
theorem lk_X4_snapshot_58 : Cond.fieldLink RX4 58 (TX4 0).1 (TX4 0).2.1 (TX4 0).2.2.1 ∈ wsX4_snapshot := by decide +kernel
set_option maxRecDepth 20000 in
theorem in_X4_span_4 : ∀ w ∈ u_ws RX4 TX4 23, w ∈ wsX4_span := by decide +kernel
set_option maxRecDepth 20000 in
theorem lk_X4_span_84 : Cond.fieldLink RX4 84 (TX4 21).1 (TX4 21).2.1 (TX4 21).2.2.1 ∈ wsX4_span := by decide +kernel
set_option maxRecDepth 20000 in
theorem lk_X4_span_58 : Cond.fieldLink RX4 58 (TX4 0).1 (TX4 0).2.1 (TX4 0).2.2.1 ∈ wsX4_span := by decide +kernel
set_option maxRecDepth 20000 in
theorem in_X4_state_4 : ∀ w ∈ u_ws RX4 TX4 23, w ∈ wsX4_state := by decide +kernel
set_option maxRecDepth 20000 in
theorem lk_X4_state_102 : Cond.fieldLink RX4 102 (TX4 1).1 (TX4 1).2.1 (TX4 1).2.2.1 ∈ wsX4_state := by decide +kernel
set_option maxRecDepth 20000 in
theorem lk_X4_state_16 : Cond.fieldLink RX4 16 (TX4 4).1 (TX4 4).2.1 (TX4 4).2.2.1 ∈ wsX4_state := by decide +kernel
set_option maxRecDepth 20000 in
theorem lk_X4_state_13 : Cond.fieldLink RX4 13 (TX4 3).1 (TX4 3).2.1 (TX4 3).2.2.1 ∈ wsX4_state := by decide +kernel
set_option maxRecDepth 20000 in
theorem lk_X4_state_7 : Cond.fieldLink RX4 7 (TX4 2).1 (TX4 2).2.1 (TX4 2).2.2.1 ∈ wsX4_state := by decide +kernel
set_option maxRecDepth 20000 in
theorem lk_X4_state_58 : Cond.fieldLink RX4 58 (TX4 0).1 (TX4 0).2.1 (TX4 0).2.2.1 ∈ wsX4_state := by decide +kernel
set_option maxRecDepth 20000 in
theorem in_X4_thrown_4 : ∀ w ∈ u_ws RX4 TX4 23, w ∈ wsX4_thrown := by decide +kernel
set_option maxRecDepth 20000 in
theorem lk_X4_thrown_58 : Cond.fieldLink RX4 58 (TX4 0).1 (TX4 0).2.1 (TX4 0).2.2.1 ∈ wsX4_thrown := by decide +kernel
set_option maxRecDepth 20000 in
theorem in_X4_told_4 : ∀ w ∈ u_ws RX4 TX4 23, w ∈ wsX4_told := by decide +kernel
set_option maxRecDepth 20000 in
theorem lk_X4_told_69 : Cond.fieldLink RX4 69 (TX4 18).1 (TX4 18).2.1 (TX4 18).2.2.1 ∈ wsX4_told := by decide +kernel
set_option maxRecDepth 20000 in
theorem lk_X4_told_22 : Cond.fieldLink RX4 22 (TX4 6).1 (TX4 6).2.1 (TX4 6).2.2.1 ∈ wsX4_told := by decide +kernel
set_option maxRecDepth 20000 in
theorem lk_X4_told_102 : Cond.fieldLink RX4 102 (TX4 1).1 (TX4 1).2.1 (TX4 1).2.2.1 ∈ wsX4_told := by decide +kernel
set_option maxRecDepth 20000 in
theorem lk_X4_told_47 : Cond.fieldLink RX4 47 (TX4 14).1 (TX4 14).2.1 (TX4 14).2.2.1 ∈ wsX4_told := by decide +kernel
set_option maxRecDepth 20000 in
theorem lk_X4_told_32 : Cond.fieldLink RX4 32 (TX4 9).1 (TX4 9).2.1 (TX4 9).2.2.1 ∈ wsX4_told := by decide +kernel
set_option maxRecDepth 20000 in
theorem lk_X4_told_28 : Cond.fieldLink RX4 28 (TX4 8).1 (TX4 8).2.1 (TX4 8).2.2.1 ∈ wsX4_told := by decide +kernel
set_option maxRecDepth 20000 in
theorem lk_X4_told_25 : Cond.fieldLink RX4 25 (TX4 7).1 (TX4 7).2.1 (TX4 7).2.2.1 ∈ wsX4_told := by decide +kernel
set_option maxRecDepth 20000 in
theorem lk_X4_told_58 : Cond.fieldLink RX4 58 (TX4 0).1 (TX4 0).2.1 (TX4 0).2.2.1 ∈ wsX4_told := by decide +kernel
set_option maxRecDepth 20000 in
theorem in_X4_value_4 : ∀ w ∈ u_ws RX4 TX4 23, w ∈ wsX4_value := by decide +kernel
set_option maxRecDepth 20000 in
theorem lk_X4_value_120 : Cond.fieldLink RX4 120 (TX4 22).1 (TX4 22).2.1 (TX4 22).2.2.1 ∈ wsX4_value := by decide +kernel
set_option maxRecDepth 20000 in
theorem lk_X4_value_38 : Cond.fieldLink RX4 38 (TX4 11).1 (TX4 11).2.1 (TX4 11).2.2.1 ∈ wsX4_value := by decide +kernel
abbrev mX4_fits (l : Launch) (K : Kx) (As : List Value) (h : Hp) (Post : Rs → Hp → Prop) : Prop := MX l K yX4_fits wsX4_fits 0 0 0 0 As h Post
set_option maxRecDepth 100000 in
set_option maxHeartbeats 4000000 in
theorem fX4_fits {l : Launch} {K : Kx} {x1 : Int32} {x2 : Int32} {x3 : Int64} {h : Hp} {Post : Rs → Hp → Prop} (htr : l.stackTraces = false)
    (F : ((x1 = (nI 3) → (Post (.inl (some (.int (nI 1)))) h)) ∧ (¬ x1 = (nI 3) → ((x2 = nI 0 → (Post (.inl (some (.int (nI 1)))) h)) ∧ (¬ x2 = nI 0 → ((¬ x2 = (nI 1) → ((x3 < (lN 0) → (Post (.inl (some (.int (nI 0)))) h)) ∧ (¬ x3 < (lN 0) → (Post (.inl (some (.int (nI 1)))) h)))) ∧ (x2 = (nI 1) → ((x3 < (-lN 1000) → (Post (.inl (some (.int (nI 0)))) h)) ∧ (¬ x3 < (-lN 1000) → (((lN 1000) < x3 → (Post (.inl (some (.int (nI 0)))) h)) ∧ (¬ (lN 1000) < x3 → (Post (.inl (some (.int (nI 1)))) h)))))))))))) :
    mX4_fits l K [.int x1, .int x2, .long x3] h Post := by
  refine MX.enter htr (by decide) rfl (Nat.le_of_ble_eq_true rfl) ?_
  refine J_lveq (lv' := [(0, .int x1), (1, .int x2), (2, .long x3)]) rfl ?_
  refine J_iload_n dX4_fits_0 0 rfl ?_
  refine J_iconst (v := nI 3) dX4_fits_1 (by decide) ?_
  refine J_icmp_eq (tgt := 39) dX4_fits_2 (by decide) (fun c => ?_) (fun c => ?_)
  · replace F := F.1 c
    refine J_iconst (v := nI 1) dX4_fits_39 (by decide) ?_
    refine J_goto (tgt := 44) dX4_fits_40 (by decide) ?_
    exact J_zret dX4_fits_44 rfl (by decide) (Nat.le_refl _) (Nat.le_refl _) F
  · replace F := F.2 c
    refine J_iload_n dX4_fits_5 1 rfl ?_
    refine J_if_eq (tgt := 39) dX4_fits_6 (by decide) (fun c => ?_) (fun c => ?_)
    · replace F := F.1 c
      refine J_iconst (v := nI 1) dX4_fits_39 (by decide) ?_
      refine J_goto (tgt := 44) dX4_fits_40 (by decide) ?_
      exact J_zret dX4_fits_44 rfl (by decide) (Nat.le_refl _) (Nat.le_refl _) F
    · replace F := F.2 c
      refine J_iload_n dX4_fits_9 1 rfl ?_
      refine J_iconst (v := nI 1) dX4_fits_10 (by decide) ?_
      refine J_icmp_ne (tgt := 33) dX4_fits_11 (by decide) (fun c => ?_) (fun c => ?_)
      · replace F := F.1 c
        refine J_lload_n dX4_fits_33 2 rfl ?_
        refine J_lconst (v := lN 0) dX4_fits_34 rfl ?_
        refine J_lcmp dX4_fits_35 ?_
        refine J_if_lt (tgt := 43) dX4_fits_36 (by decide) (fun c => ?_) (fun c => ?_)
        · replace F := F.1 ((lg_cmp_lt _ _).mp c)
          refine J_iconst (v := nI 0) dX4_fits_43 (by decide) ?_
          exact J_zret dX4_fits_44 rfl (by decide) (Nat.le_refl _) (Nat.le_refl _) F
        · replace F := F.2 (fun e9 => c ((lg_cmp_lt _ _).mpr e9))
          refine J_iconst (v := nI 1) dX4_fits_39 (by decide) ?_
          refine J_goto (tgt := 44) dX4_fits_40 (by decide) ?_
          exact J_zret dX4_fits_44 rfl (by decide) (Nat.le_refl _) (Nat.le_refl _) F
      · replace F := F.2 c
        refine J_lload_n dX4_fits_14 2 rfl ?_
        refine J_ldc2 (v := -lN 1000) dX4_fits_15 wd_X4_fits_c98 ?_
        refine J_lcmp dX4_fits_18 ?_
        refine J_if_lt (tgt := 43) dX4_fits_19 (by decide) (fun c => ?_) (fun c => ?_)
        · replace F := F.1 ((lg_cmp_lt _ _).mp c)
          refine J_iconst (v := nI 0) dX4_fits_43 (by decide) ?_
          exact J_zret dX4_fits_44 rfl (by decide) (Nat.le_refl _) (Nat.le_refl _) F
        · replace F := F.2 (fun e9 => c ((lg_cmp_lt _ _).mpr e9))
          refine J_lload_n dX4_fits_22 2 rfl ?_
          refine J_ldc2 (v := lN 1000) dX4_fits_23 wd_X4_fits_c100 ?_
          refine J_lcmp dX4_fits_26 ?_
          refine J_if_gt (tgt := 43) dX4_fits_27 (by decide) (fun c => ?_) (fun c => ?_)
          · replace F := F.1 ((lg_cmp_gt _ _).mp c)
            refine J_iconst (v := nI 0) dX4_fits_43 (by decide) ?_
            exact J_zret dX4_fits_44 rfl (by decide) (Nat.le_refl _) (Nat.le_refl _) F
          · replace F := F.2 (fun e9 => c ((lg_cmp_gt _ _).mpr e9))
            refine J_goto (tgt := 39) dX4_fits_30 (by decide) ?_
            refine J_iconst (v := nI 1) dX4_fits_39 (by decide) ?_
            refine J_goto (tgt := 44) dX4_fits_40 (by decide) ?_
            exact J_zret dX4_fits_44 rfl (by decide) (Nat.le_refl _) (Nat.le_refl _) F

abbrev mX4_find (l : Launch) (K : Kx) (As : List Value) (h : Hp) (Post : Rs → Hp → Prop) : Prop := MX l K yX4_find wsX4_find 0 0 0 0 As h Post
set_option maxRecDepth 100000 in
set_option maxHeartbeats 4000000 in
theorem fX4_find {l : Launch} {K : Kx} {a0 : Nat} {x1 : Int32} {x2 : Int32} {x3 : Int64} {x4 : Int32} {h : Hp} {Post : Rs → Hp → Prop} (htr : l.stackTraces = false)
    (F : (∀ X_2 : Int32 → Prop, (∀ (i_1 : Int32), ((∃ p_3, gf h a0 4 6 = some (.ref p_3) ∧ (∃ v_4, aI K h p_3 x1 = some v_4 ∧ (((((nI 150) * x1) + v_4) ≤ i_1 → (Post (.inl (some (.int (-nI 1)))) h)) ∧ (¬ (((nI 150) * x1) + v_4) ≤ i_1 → (∃ p_5, gf h a0 4 7 = some (.ref p_5) ∧ (∃ v_6, aI K h p_5 i_1 = some v_6 ∧ ((¬ v_6 = x2 → X_2 (i_1 + nI 1)) ∧ (v_6 = x2 → (∃ p_7, gf h a0 4 8 = some (.ref p_7) ∧ (∃ u_8, aJ K h p_7 i_1 = some u_8 ∧ ((¬ u_8 = x3 → X_2 (i_1 + nI 1)) ∧ (u_8 = x3 → (∃ p_9, gf h a0 4 9 = some (.ref p_9) ∧ (∃ v_10, aI K h p_9 i_1 = some v_10 ∧ ((¬ v_10 = x4 → X_2 (i_1 + nI 1)) ∧ (v_10 = x4 → (Post (.inl (some (.int i_1))) h)))))))))))))))))) → X_2 i_1) → X_2 ((nI 150) * x1))) :
    mX4_find l K [.ref a0, .int x1, .int x2, .long x3, .int x4] h Post := by
  refine MX.enter htr (by decide) rfl (Nat.le_of_ble_eq_true rfl) ?_
  refine J_lveq (lv' := [(0, .ref a0), (1, .int x1), (2, .int x2), (3, .long x3), (5, .int x4)]) rfl ?_
  refine J_sipush (v := nI 150) dX4_find_0 (by decide) ?_
  refine J_iload_n dX4_find_3 1 rfl ?_
  refine J_imul dX4_find_4 ?_
  refine J_istore (lv' := [(6, .int ((nI 150) * x1)), (0, .ref a0), (1, .int x1), (2, .int x2), (3, .long x3), (5, .int x4)]) dX4_find_5 (by decide) rfl ?_
  refine J_sub [1, 2, 3, 4, 5, 0] rfl ?_
  refine F (fun (i_1 : Int32) => J l K yX4_find.cls cX4_find 7 (some .int) wsX4_find [] yX4_find.name 0 0 0 0 (QM K 0 0 Post) 7 [] [(0, .ref a0), (1, .int x1), (2, .int x2), (3, .long x3), (5, .int x4), (6, .int i_1)] h 0 0) ?_
  intro i_1 F
  refine J_iload dX4_find_7 5 rfl ?_
  refine J_sipush (v := nI 150) dX4_find_9 (by decide) ?_
  refine J_iload_n dX4_find_12 1 rfl ?_
  refine J_imul dX4_find_13 ?_
  refine J_aload_n dX4_find_14 0 rfl ?_
  obtain ⟨p_3, g9, F⟩ := F
  refine J_get (ci := 4) (k := 6) dX4_find_15 rfl in_X4_find_4 (by decide) lk_X4_find_22 g9 ?_
  refine J_iload_n dX4_find_18 1 rfl ?_
  obtain ⟨v_4, g9, F⟩ := F
  refine J_iald dX4_find_19 g9 ?_
  refine J_iadd dX4_find_20 ?_
  refine J_icmp_ge (tgt := 68) dX4_find_21 (by decide) (fun c => ?_) (fun c => ?_)
  · replace F := F.1 c
    refine J_iconst (v := -nI 1) dX4_find_68 (by decide) ?_
    exact J_iret dX4_find_69 rfl (Nat.le_refl _) (Nat.le_refl _) F
  · replace F := F.2 c
    refine J_aload_n dX4_find_24 0 rfl ?_
    obtain ⟨p_5, g9, F⟩ := F
    refine J_get (ci := 4) (k := 7) dX4_find_25 rfl in_X4_find_4 (by decide) lk_X4_find_25 g9 ?_
    refine J_iload dX4_find_28 5 rfl ?_
    obtain ⟨v_6, g9, F⟩ := F
    refine J_iald dX4_find_30 g9 ?_
    refine J_iload_n dX4_find_31 2 rfl ?_
    refine J_icmp_ne (tgt := 62) dX4_find_32 (by decide) (fun c => ?_) (fun c => ?_)
    · replace F := F.1 c
      refine J_iinc (v := i_1 + nI 1) (lv' := [(6, .int (i_1 + nI 1)), (0, .ref a0), (1, .int x1), (2, .int x2), (3, .long x3), (5, .int x4)]) dX4_find_62 5 rfl rfl (by decide) rfl ?_
      refine J_goto (tgt := 7) dX4_find_65 (by decide) ?_
      exact J_sub [1, 2, 3, 4, 5, 0] rfl F
    · replace F := F.2 c
      refine J_aload_n dX4_find_35 0 rfl ?_
      obtain ⟨p_7, g9, F⟩ := F
      refine J_get (ci := 4) (k := 8) dX4_find_36 rfl in_X4_find_4 (by decide) lk_X4_find_28 g9 ?_
      refine J_iload dX4_find_39 5 rfl ?_
      obtain ⟨u_8, g9, F⟩ := F
      refine J_lald dX4_find_41 g9 ?_
      refine J_lload_n dX4_find_42 3 rfl ?_
      refine J_lcmp dX4_find_43 ?_
      refine J_if_ne (tgt := 62) dX4_find_44 (by decide) (fun c => ?_) (fun c => ?_)
      · replace F := F.1 (fun e9 => c ((lg_cmp_eq _ _).mpr e9))
        refine J_iinc (v := i_1 + nI 1) (lv' := [(6, .int (i_1 + nI 1)), (0, .ref a0), (1, .int x1), (2, .int x2), (3, .long x3), (5, .int x4)]) dX4_find_62 5 rfl rfl (by decide) rfl ?_
        refine J_goto (tgt := 7) dX4_find_65 (by decide) ?_
        exact J_sub [1, 2, 3, 4, 5, 0] rfl F
      · replace F := F.2 ((lg_cmp_eq _ _).mp c)
        refine J_aload_n dX4_find_47 0 rfl ?_
        obtain ⟨p_9, g9, F⟩ := F
        refine J_get (ci := 4) (k := 9) dX4_find_48 rfl in_X4_find_4 (by decide) lk_X4_find_32 g9 ?_
        refine J_iload dX4_find_51 5 rfl ?_
        obtain ⟨v_10, g9, F⟩ := F
        refine J_iald dX4_find_53 g9 ?_
        refine J_iload dX4_find_54 4 rfl ?_
        refine J_icmp_ne (tgt := 62) dX4_find_56 (by decide) (fun c => ?_) (fun c => ?_)
        · replace F := F.1 c
          refine J_iinc (v := i_1 + nI 1) (lv' := [(6, .int (i_1 + nI 1)), (0, .ref a0), (1, .int x1), (2, .int x2), (3, .long x3), (5, .int x4)]) dX4_find_62 5 rfl rfl (by decide) rfl ?_
          refine J_goto (tgt := 7) dX4_find_65 (by decide) ?_
          exact J_sub [1, 2, 3, 4, 5, 0] rfl F
        · replace F := F.2 c
          refine J_iload dX4_find_59 5 rfl ?_
          exact J_iret dX4_find_61 rfl (Nat.le_refl _) (Nat.le_refl _) F

abbrev mX4_here (l : Launch) (K : Kx) (As : List Value) (h : Hp) (Post : Rs → Hp → Prop) : Prop := MX l K yX4_here wsX4_here 1 26 0 0 As h Post
set_option maxRecDepth 100000 in
set_option maxHeartbeats 4000000 in
theorem fX4_here {l : Launch} {K : Kx} {a0 : Nat} {x1 : Int32} {h : Hp} {Post : Rs → Hp → Prop} (htr : l.stackTraces = false)
    (F : (∃ u_1, gf h a0 4 20 = some (.long u_1) ∧ (∃ v_2, gf h a0 4 21 = some (.int v_2) ∧ ((∃ fs, h a0 = some (xO 4 fs)) ∧ mX4_find l K [.ref a0, .int (nI 0), .int x1, .long u_1, .int v_2] h (kI (fun v_4 h_3 => (Post (.inl (some (.int v_4))) h_3))))))) :
    mX4_here l K [.ref a0, .int x1] h Post := by
  refine MX.enter htr (by decide) rfl (Nat.le_of_ble_eq_true rfl) ?_
  refine J_lveq (lv' := [(0, .ref a0), (1, .int x1)]) rfl ?_
  refine J_aload_n dX4_here_0 0 rfl ?_
  refine J_iconst (v := nI 0) dX4_here_1 (by decide) ?_
  refine J_iload_n dX4_here_2 1 rfl ?_
  refine J_aload_n dX4_here_3 0 rfl ?_
  obtain ⟨u_1, g9, F⟩ := F
  refine J_get (ci := 4) (k := 20) dX4_here_4 rfl in_X4_here_4 (by decide) lk_X4_here_80 g9 ?_
  refine J_aload_n dX4_here_7 0 rfl ?_
  obtain ⟨v_2, g9, F⟩ := F
  refine J_get (ci := 4) (k := 21) dX4_here_8 rfl in_X4_here_4 (by decide) lk_X4_here_84 g9 ?_
  obtain ⟨b9, F⟩ := F
  refine J_callV0 (ci := 4) (n := 4) (As := [.int (nI 0), .int x1, .long u_1, .int v_2]) (rest := []) dX4_here_11 rfl gX4_here_X4_find rfl (by decide +kernel) rfl (by decide) b9 (Nat.le_of_ble_eq_true rfl) (Nat.le_refl _) (Nat.le_refl _) F kI_no (kI_kk (fun v_4 h_3 F => ?_))
  exact J_iret dX4_here_14 rfl (Nat.le_refl _) (Nat.le_refl _) F

abbrev mX4_isState (l : Launch) (K : Kx) (As : List Value) (h : Hp) (Post : Rs → Hp → Prop) : Prop := MX l K yX4_isState wsX4_isState 0 0 0 0 As h Post
set_option maxRecDepth 100000 in
set_option maxHeartbeats 4000000 in
theorem fX4_isState {l : Launch} {K : Kx} {a0 : Nat} {x1 : Int32} {h : Hp} {Post : Rs → Hp → Prop} (htr : l.stackTraces = false)
    (F : ((x1 < nI 0 → (Post (.inl (some (.int (nI 0)))) h)) ∧ (¬ x1 < nI 0 → (∃ v_1, gf h a0 4 1 = some (.int v_1) ∧ ((v_1 ≤ x1 → (Post (.inl (some (.int (nI 0)))) h)) ∧ (¬ v_1 ≤ x1 → (Post (.inl (some (.int (nI 1)))) h))))))) :
    mX4_isState l K [.ref a0, .int x1] h Post := by
  refine MX.enter htr (by decide) rfl (Nat.le_of_ble_eq_true rfl) ?_
  refine J_lveq (lv' := [(0, .ref a0), (1, .int x1)]) rfl ?_
  refine J_iload_n dX4_isState_0 1 rfl ?_
  refine J_if_lt (tgt := 16) dX4_isState_1 (by decide) (fun c => ?_) (fun c => ?_)
  · replace F := F.1 c
    refine J_iconst (v := nI 0) dX4_isState_16 (by decide) ?_
    exact J_zret dX4_isState_17 rfl (by decide) (Nat.le_refl _) (Nat.le_refl _) F
  · replace F := F.2 c
    refine J_iload_n dX4_isState_4 1 rfl ?_
    refine J_aload_n dX4_isState_5 0 rfl ?_
    obtain ⟨v_1, g9, F⟩ := F
    refine J_get (ci := 4) (k := 1) dX4_isState_6 rfl in_X4_isState_4 (by decide) lk_X4_isState_102 g9 ?_
    refine J_icmp_ge (tgt := 16) dX4_isState_9 (by decide) (fun c => ?_) (fun c => ?_)
    · replace F := F.1 c
      refine J_iconst (v := nI 0) dX4_isState_16 (by decide) ?_
      exact J_zret dX4_isState_17 rfl (by decide) (Nat.le_refl _) (Nat.le_refl _) F
    · replace F := F.2 c
      refine J_iconst (v := nI 1) dX4_isState_12 (by decide) ?_
      refine J_goto (tgt := 17) dX4_isState_13 (by decide) ?_
      exact J_zret dX4_isState_17 rfl (by decide) (Nat.le_refl _) (Nat.le_refl _) F

abbrev mX4_isRefused (l : Launch) (K : Kx) (As : List Value) (h : Hp) (Post : Rs → Hp → Prop) : Prop := MX l K yX4_isRefused wsX4_isRefused 2 47 0 0 As h Post
set_option maxRecDepth 100000 in
set_option maxHeartbeats 4000000 in
theorem fX4_isRefused {l : Launch} {K : Kx} {a0 : Nat} {x1 : Int32} {x2 : Int32} {x3 : Int32} {x4 : Int64} {h : Hp} {Post : Rs → Hp → Prop} (htr : l.stackTraces = false)
    (F : (∃ h_1, pf h a0 4 0 (.int (nI 0)) = some h_1 ∧ ((∃ fs, h_1 a0 = some (xO 4 fs)) ∧ mX4_isState l K [.ref a0, .int x1] h_1 (kI (fun v_3 h_2 => ((¬ v_3 = nI 0 → (∃ p_4, gf h_2 a0 4 3 = some (.ref p_4) ∧ (∃ v_5, aI K h_2 p_4 x1 = some v_5 ∧ ((v_5 = x2 → (∃ p_6, gf h_2 a0 4 3 = some (.ref p_6) ∧ (∃ v_7, aI K h_2 p_6 x1 = some v_7 ∧ (∃ p_8, gf h_2 a0 4 4 = some (.ref p_8) ∧ (∃ v_9, aI K h_2 p_8 x1 = some v_9 ∧ mX4_fits l K [.int v_7, .int v_9, .long x4] h_2 (kI (fun v_11 h_10 => ((¬ v_11 = nI 0 → (∃ v_12, gf h_10 a0 4 19 = some (.int v_12) ∧ ((¬ v_12 = nI 0 → (∃ v_13, gf h_10 a0 4 0 = some (.int v_13) ∧ ((¬ v_13 = nI 0 → (∃ h_14, pf h_10 a0 4 22 (.int (-nI 1)) = some h_14 ∧ (∃ v_15, gf h_14 a0 4 0 = some (.int v_15) ∧ ((v_15 ≤ nI 0 → (Post (.inl (some (.int (nI 0)))) h_14)) ∧ (¬ v_15 ≤ nI 0 → (Post (.inl (some (.int (nI 1)))) h_14)))))) ∧ (v_13 = nI 0 → ((∃ fs, h_10 a0 = some (xO 4 fs)) ∧ mX4_here l K [.ref a0, .int x1] h_10 (kI (fun v_17 h_16 => (∃ h_18, pf h_16 a0 4 22 (.int v_17) = some h_18 ∧ (∃ v_19, gf h_18 a0 4 0 = some (.int v_19) ∧ ((v_19 ≤ nI 0 → (Post (.inl (some (.int (nI 0)))) h_18)) ∧ (¬ v_19 ≤ nI 0 → (Post (.inl (some (.int (nI 1)))) h_18)))))))))))) ∧ (v_12 = nI 0 → (∃ h_20, pf h_10 a0 4 0 (.int (nI 3)) = some h_20 ∧ (∃ v_21, gf h_20 a0 4 0 = some (.int v_21) ∧ ((¬ v_21 = nI 0 → (∃ h_22, pf h_20 a0 4 22 (.int (-nI 1)) = some h_22 ∧ (∃ v_23, gf h_22 a0 4 0 = some (.int v_23) ∧ ((v_23 ≤ nI 0 → (Post (.inl (some (.int (nI 0)))) h_22)) ∧ (¬ v_23 ≤ nI 0 → (Post (.inl (some (.int (nI 1)))) h_22)))))) ∧ (v_21 = nI 0 → ((∃ fs, h_20 a0 = some (xO 4 fs)) ∧ mX4_here l K [.ref a0, .int x1] h_20 (kI (fun v_25 h_24 => (∃ h_26, pf h_24 a0 4 22 (.int v_25) = some h_26 ∧ (∃ v_27, gf h_26 a0 4 0 = some (.int v_27) ∧ ((v_27 ≤ nI 0 → (Post (.inl (some (.int (nI 0)))) h_26)) ∧ (¬ v_27 ≤ nI 0 → (Post (.inl (some (.int (nI 1)))) h_26)))))))))))))))) ∧ (v_11 = nI 0 → (∃ h_28, pf h_10 a0 4 0 (.int (nI 2)) = some h_28 ∧ (∃ v_29, gf h_28 a0 4 0 = some (.int v_29) ∧ ((¬ v_29 = nI 0 → (∃ h_30, pf h_28 a0 4 22 (.int (-nI 1)) = some h_30 ∧ (∃ v_31, gf h_30 a0 4 0 = some (.int v_31) ∧ ((v_31 ≤ nI 0 → (Post (.inl (some (.int (nI 0)))) h_30)) ∧ (¬ v_31 ≤ nI 0 → (Post (.inl (some (.int (nI 1)))) h_30)))))) ∧ (v_29 = nI 0 → ((∃ fs, h_28 a0 = some (xO 4 fs)) ∧ mX4_here l K [.ref a0, .int x1] h_28 (kI (fun v_33 h_32 => (∃ h_34, pf h_32 a0 4 22 (.int v_33) = some h_34 ∧ (∃ v_35, gf h_34 a0 4 0 = some (.int v_35) ∧ ((v_35 ≤ nI 0 → (Post (.inl (some (.int (nI 0)))) h_34)) ∧ (¬ v_35 ≤ nI 0 → (Post (.inl (some (.int (nI 1)))) h_34))))))))))))))))))))) ∧ (¬ v_5 = x2 → (∃ p_36, gf h_2 a0 4 3 = some (.ref p_36) ∧ (∃ v_37, aI K h_2 p_36 x1 = some v_37 ∧ ((¬ v_37 = x3 → (∃ h_38, pf h_2 a0 4 0 (.int (nI 2)) = some h_38 ∧ (∃ v_39, gf h_38 a0 4 0 = some (.int v_39) ∧ ((¬ v_39 = nI 0 → (∃ h_40, pf h_38 a0 4 22 (.int (-nI 1)) = some h_40 ∧ (∃ v_41, gf h_40 a0 4 0 = some (.int v_41) ∧ ((v_41 ≤ nI 0 → (Post (.inl (some (.int (nI 0)))) h_40)) ∧ (¬ v_41 ≤ nI 0 → (Post (.inl (some (.int (nI 1)))) h_40)))))) ∧ (v_39 = nI 0 → ((∃ fs, h_38 a0 = some (xO 4 fs)) ∧ mX4_here l K [.ref a0, .int x1] h_38 (kI (fun v_43 h_42 => (∃ h_44, pf h_42 a0 4 22 (.int v_43) = some h_44 ∧ (∃ v_45, gf h_44 a0 4 0 = some (.int v_45) ∧ ((v_45 ≤ nI 0 → (Post (.inl (some (.int (nI 0)))) h_44)) ∧ (¬ v_45 ≤ nI 0 → (Post (.inl (some (.int (nI 1)))) h_44))))))))))))) ∧ (v_37 = x3 → (∃ p_46, gf h_2 a0 4 3 = some (.ref p_46) ∧ (∃ v_47, aI K h_2 p_46 x1 = some v_47 ∧ (∃ p_48, gf h_2 a0 4 4 = some (.ref p_48) ∧ (∃ v_49, aI K h_2 p_48 x1 = some v_49 ∧ mX4_fits l K [.int v_47, .int v_49, .long x4] h_2 (kI (fun v_51 h_50 => ((¬ v_51 = nI 0 → (∃ v_52, gf h_50 a0 4 19 = some (.int v_52) ∧ ((¬ v_52 = nI 0 → (∃ v_53, gf h_50 a0 4 0 = some (.int v_53) ∧ ((¬ v_53 = nI 0 → (∃ h_54, pf h_50 a0 4 22 (.int (-nI 1)) = some h_54 ∧ (∃ v_55, gf h_54 a0 4 0 = some (.int v_55) ∧ ((v_55 ≤ nI 0 → (Post (.inl (some (.int (nI 0)))) h_54)) ∧ (¬ v_55 ≤ nI 0 → (Post (.inl (some (.int (nI 1)))) h_54)))))) ∧ (v_53 = nI 0 → ((∃ fs, h_50 a0 = some (xO 4 fs)) ∧ mX4_here l K [.ref a0, .int x1] h_50 (kI (fun v_57 h_56 => (∃ h_58, pf h_56 a0 4 22 (.int v_57) = some h_58 ∧ (∃ v_59, gf h_58 a0 4 0 = some (.int v_59) ∧ ((v_59 ≤ nI 0 → (Post (.inl (some (.int (nI 0)))) h_58)) ∧ (¬ v_59 ≤ nI 0 → (Post (.inl (some (.int (nI 1)))) h_58)))))))))))) ∧ (v_52 = nI 0 → (∃ h_60, pf h_50 a0 4 0 (.int (nI 3)) = some h_60 ∧ (∃ v_61, gf h_60 a0 4 0 = some (.int v_61) ∧ ((¬ v_61 = nI 0 → (∃ h_62, pf h_60 a0 4 22 (.int (-nI 1)) = some h_62 ∧ (∃ v_63, gf h_62 a0 4 0 = some (.int v_63) ∧ ((v_63 ≤ nI 0 → (Post (.inl (some (.int (nI 0)))) h_62)) ∧ (¬ v_63 ≤ nI 0 → (Post (.inl (some (.int (nI 1)))) h_62)))))) ∧ (v_61 = nI 0 → ((∃ fs, h_60 a0 = some (xO 4 fs)) ∧ mX4_here l K [.ref a0, .int x1] h_60 (kI (fun v_65 h_64 => (∃ h_66, pf h_64 a0 4 22 (.int v_65) = some h_66 ∧ (∃ v_67, gf h_66 a0 4 0 = some (.int v_67) ∧ ((v_67 ≤ nI 0 → (Post (.inl (some (.int (nI 0)))) h_66)) ∧ (¬ v_67 ≤ nI 0 → (Post (.inl (some (.int (nI 1)))) h_66)))))))))))))))) ∧ (v_51 = nI 0 → (∃ h_68, pf h_50 a0 4 0 (.int (nI 2)) = some h_68 ∧ (∃ v_69, gf h_68 a0 4 0 = some (.int v_69) ∧ ((¬ v_69 = nI 0 → (∃ h_70, pf h_68 a0 4 22 (.int (-nI 1)) = some h_70 ∧ (∃ v_71, gf h_70 a0 4 0 = some (.int v_71) ∧ ((v_71 ≤ nI 0 → (Post (.inl (some (.int (nI 0)))) h_70)) ∧ (¬ v_71 ≤ nI 0 → (Post (.inl (some (.int (nI 1)))) h_70)))))) ∧ (v_69 = nI 0 → ((∃ fs, h_68 a0 = some (xO 4 fs)) ∧ mX4_here l K [.ref a0, .int x1] h_68 (kI (fun v_73 h_72 => (∃ h_74, pf h_72 a0 4 22 (.int v_73) = some h_74 ∧ (∃ v_75, gf h_74 a0 4 0 = some (.int v_75) ∧ ((v_75 ≤ nI 0 → (Post (.inl (some (.int (nI 0)))) h_74)) ∧ (¬ v_75 ≤ nI 0 → (Post (.inl (some (.int (nI 1)))) h_74))))))))))))))))))))))))))))) ∧ (v_3 = nI 0 → (∃ h_76, pf h_2 a0 4 0 (.int (nI 1)) = some h_76 ∧ (∃ v_77, gf h_76 a0 4 0 = some (.int v_77) ∧ ((¬ v_77 = nI 0 → (∃ h_78, pf h_76 a0 4 22 (.int (-nI 1)) = some h_78 ∧ (∃ v_79, gf h_78 a0 4 0 = some (.int v_79) ∧ ((v_79 ≤ nI 0 → (Post (.inl (some (.int (nI 0)))) h_78)) ∧ (¬ v_79 ≤ nI 0 → (Post (.inl (some (.int (nI 1)))) h_78)))))) ∧ (v_77 = nI 0 → ((∃ fs, h_76 a0 = some (xO 4 fs)) ∧ mX4_here l K [.ref a0, .int x1] h_76 (kI (fun v_81 h_80 => (∃ h_82, pf h_80 a0 4 22 (.int v_81) = some h_82 ∧ (∃ v_83, gf h_82 a0 4 0 = some (.int v_83) ∧ ((v_83 ≤ nI 0 → (Post (.inl (some (.int (nI 0)))) h_82)) ∧ (¬ v_83 ≤ nI 0 → (Post (.inl (some (.int (nI 1)))) h_82))))))))))))))))))) :
    mX4_isRefused l K [.ref a0, .int x1, .int x2, .int x3, .long x4] h Post := by
  refine MX.enter htr (by decide) rfl (Nat.le_of_ble_eq_true rfl) ?_
  refine J_lveq (lv' := [(0, .ref a0), (1, .int x1), (2, .int x2), (3, .int x3), (4, .long x4)]) rfl ?_
  refine J_aload_n dX4_isRefused_0 0 rfl ?_
  refine J_iconst (v := nI 0) dX4_isRefused_1 (by decide) ?_
  obtain ⟨h_1, g9, F⟩ := F
  refine J_put (ci := 4) (k := 0) dX4_isRefused_2 rfl in_X4_isRefused_4 tyX4 tyX4_ok nmX4 (by decide) lk_X4_isRefused_58 rfl rfl rfl rfl g9 ?_
  refine J_aload_n dX4_isRefused_5 0 rfl ?_
  refine J_iload_n dX4_isRefused_6 1 rfl ?_
  obtain ⟨b9, F⟩ := F
  refine J_callV0 (ci := 4) (n := 1) (As := [.int x1]) (rest := []) dX4_isRefused_7 rfl gX4_isRefused_X4_isState rfl (by decide +kernel) rfl (by decide) b9 (Nat.le_of_ble_eq_true rfl) (Nat.le_refl _) (Nat.le_refl _) F kI_no (kI_kk (fun v_3 h_2 F => ?_))
  refine J_if_ne (tgt := 21) dX4_isRefused_10 (by decide) (fun c => ?_) (fun c => ?_)
  · replace F := F.1 c
    refine J_aload_n dX4_isRefused_21 0 rfl ?_
    obtain ⟨p_4, g9, F⟩ := F
    refine J_get (ci := 4) (k := 3) dX4_isRefused_22 rfl in_X4_isRefused_4 (by decide) lk_X4_isRefused_13 g9 ?_
    refine J_iload_n dX4_isRefused_25 1 rfl ?_
    obtain ⟨v_5, g9, F⟩ := F
    refine J_iald dX4_isRefused_26 g9 ?_
    refine J_iload_n dX4_isRefused_27 2 rfl ?_
    refine J_icmp_eq (tgt := 41) dX4_isRefused_28 (by decide) (fun c => ?_) (fun c => ?_)
    · replace F := F.1 c
      refine J_aload_n dX4_isRefused_41 0 rfl ?_
      obtain ⟨p_6, g9, F⟩ := F
      refine J_get (ci := 4) (k := 3) dX4_isRefused_42 rfl in_X4_isRefused_4 (by decide) lk_X4_isRefused_13 g9 ?_
      refine J_iload_n dX4_isRefused_45 1 rfl ?_
      obtain ⟨v_7, g9, F⟩ := F
      refine J_iald dX4_isRefused_46 g9 ?_
      refine J_aload_n dX4_isRefused_47 0 rfl ?_
      obtain ⟨p_8, g9, F⟩ := F
      refine J_get (ci := 4) (k := 4) dX4_isRefused_48 rfl in_X4_isRefused_4 (by decide) lk_X4_isRefused_16 g9 ?_
      refine J_iload_n dX4_isRefused_51 1 rfl ?_
      obtain ⟨v_9, g9, F⟩ := F
      refine J_iald dX4_isRefused_52 g9 ?_
      refine J_lload dX4_isRefused_53 4 rfl ?_
      refine J_callS0 (n := 3) (As := [.int v_7, .int v_9, .long x4]) (rest := []) dX4_isRefused_55 gX4_isRefused_X4_fits rfl (by decide +kernel) rfl (by decide) (Nat.le_of_ble_eq_true rfl) (Nat.le_refl _) (Nat.le_refl _) F kI_no (kI_kk (fun v_11 h_10 F => ?_))
      refine J_if_ne (tgt := 69) dX4_isRefused_58 (by decide) (fun c => ?_) (fun c => ?_)
      · replace F := F.1 c
        refine J_aload_n dX4_isRefused_69 0 rfl ?_
        obtain ⟨v_12, g9, F⟩ := F
        refine J_get (ci := 4) (k := 19) dX4_isRefused_70 rfl in_X4_isRefused_4 (by decide) lk_X4_isRefused_112 g9 ?_
        refine J_if_ne (tgt := 81) dX4_isRefused_73 (by decide) (fun c => ?_) (fun c => ?_)
        · replace F := F.1 c
          refine J_aload_n dX4_isRefused_81 0 rfl ?_
          refine J_aload_n dX4_isRefused_82 0 rfl ?_
          obtain ⟨v_13, g9, F⟩ := F
          refine J_get (ci := 4) (k := 0) dX4_isRefused_83 rfl in_X4_isRefused_4 (by decide) lk_X4_isRefused_58 g9 ?_
          refine J_if_ne (tgt := 97) dX4_isRefused_86 (by decide) (fun c => ?_) (fun c => ?_)
          · replace F := F.1 c
            refine J_iconst (v := -nI 1) dX4_isRefused_97 (by decide) ?_
            obtain ⟨h_14, g9, F⟩ := F
            refine J_put (ci := 4) (k := 22) dX4_isRefused_98 rfl in_X4_isRefused_4 tyX4 tyX4_ok nmX4 (by decide) lk_X4_isRefused_120 rfl rfl rfl rfl g9 ?_
            refine J_aload_n dX4_isRefused_101 0 rfl ?_
            obtain ⟨v_15, g9, F⟩ := F
            refine J_get (ci := 4) (k := 0) dX4_isRefused_102 rfl in_X4_isRefused_4 (by decide) lk_X4_isRefused_58 g9 ?_
            refine J_if_le (tgt := 112) dX4_isRefused_105 (by decide) (fun c => ?_) (fun c => ?_)
            · replace F := F.1 c
              refine J_iconst (v := nI 0) dX4_isRefused_112 (by decide) ?_
              exact J_zret dX4_isRefused_113 rfl (by decide) (Nat.le_refl _) (Nat.le_refl _) F
            · replace F := F.2 c
              refine J_iconst (v := nI 1) dX4_isRefused_108 (by decide) ?_
              refine J_goto (tgt := 113) dX4_isRefused_109 (by decide) ?_
              exact J_zret dX4_isRefused_113 rfl (by decide) (Nat.le_refl _) (Nat.le_refl _) F
          · replace F := F.2 c
            refine J_aload_n dX4_isRefused_89 0 rfl ?_
            refine J_iload_n dX4_isRefused_90 1 rfl ?_
            obtain ⟨b9, F⟩ := F
            refine J_callV0 (ci := 4) (n := 1) (As := [.int x1]) (rest := [.ref a0]) dX4_isRefused_91 rfl gX4_isRefused_X4_here rfl (by decide +kernel) rfl (by decide) b9 (Nat.le_of_ble_eq_true rfl) (Nat.le_refl _) (Nat.le_refl _) F kI_no (kI_kk (fun v_17 h_16 F => ?_))
            refine J_goto (tgt := 98) dX4_isRefused_94 (by decide) ?_
            obtain ⟨h_18, g9, F⟩ := F
            refine J_put (ci := 4) (k := 22) dX4_isRefused_98 rfl in_X4_isRefused_4 tyX4 tyX4_ok nmX4 (by decide) lk_X4_isRefused_120 rfl rfl rfl rfl g9 ?_
            refine J_aload_n dX4_isRefused_101 0 rfl ?_
            obtain ⟨v_19, g9, F⟩ := F
            refine J_get (ci := 4) (k := 0) dX4_isRefused_102 rfl in_X4_isRefused_4 (by decide) lk_X4_isRefused_58 g9 ?_
            refine J_if_le (tgt := 112) dX4_isRefused_105 (by decide) (fun c => ?_) (fun c => ?_)
            · replace F := F.1 c
              refine J_iconst (v := nI 0) dX4_isRefused_112 (by decide) ?_
              exact J_zret dX4_isRefused_113 rfl (by decide) (Nat.le_refl _) (Nat.le_refl _) F
            · replace F := F.2 c
              refine J_iconst (v := nI 1) dX4_isRefused_108 (by decide) ?_
              refine J_goto (tgt := 113) dX4_isRefused_109 (by decide) ?_
              exact J_zret dX4_isRefused_113 rfl (by decide) (Nat.le_refl _) (Nat.le_refl _) F
        · replace F := F.2 c
          refine J_aload_n dX4_isRefused_76 0 rfl ?_
          refine J_iconst (v := nI 3) dX4_isRefused_77 (by decide) ?_
          obtain ⟨h_20, g9, F⟩ := F
          refine J_put (ci := 4) (k := 0) dX4_isRefused_78 rfl in_X4_isRefused_4 tyX4 tyX4_ok nmX4 (by decide) lk_X4_isRefused_58 rfl rfl rfl rfl g9 ?_
          refine J_aload_n dX4_isRefused_81 0 rfl ?_
          refine J_aload_n dX4_isRefused_82 0 rfl ?_
          obtain ⟨v_21, g9, F⟩ := F
          refine J_get (ci := 4) (k := 0) dX4_isRefused_83 rfl in_X4_isRefused_4 (by decide) lk_X4_isRefused_58 g9 ?_
          refine J_if_ne (tgt := 97) dX4_isRefused_86 (by decide) (fun c => ?_) (fun c => ?_)
          · replace F := F.1 c
            refine J_iconst (v := -nI 1) dX4_isRefused_97 (by decide) ?_
            obtain ⟨h_22, g9, F⟩ := F
            refine J_put (ci := 4) (k := 22) dX4_isRefused_98 rfl in_X4_isRefused_4 tyX4 tyX4_ok nmX4 (by decide) lk_X4_isRefused_120 rfl rfl rfl rfl g9 ?_
            refine J_aload_n dX4_isRefused_101 0 rfl ?_
            obtain ⟨v_23, g9, F⟩ := F
            refine J_get (ci := 4) (k := 0) dX4_isRefused_102 rfl in_X4_isRefused_4 (by decide) lk_X4_isRefused_58 g9 ?_
            refine J_if_le (tgt := 112) dX4_isRefused_105 (by decide) (fun c => ?_) (fun c => ?_)
            · replace F := F.1 c
              refine J_iconst (v := nI 0) dX4_isRefused_112 (by decide) ?_
              exact J_zret dX4_isRefused_113 rfl (by decide) (Nat.le_refl _) (Nat.le_refl _) F
            · replace F := F.2 c
              refine J_iconst (v := nI 1) dX4_isRefused_108 (by decide) ?_
              refine J_goto (tgt := 113) dX4_isRefused_109 (by decide) ?_
              exact J_zret dX4_isRefused_113 rfl (by decide) (Nat.le_refl _) (Nat.le_refl _) F
          · replace F := F.2 c
            refine J_aload_n dX4_isRefused_89 0 rfl ?_
            refine J_iload_n dX4_isRefused_90 1 rfl ?_
            obtain ⟨b9, F⟩ := F
            refine J_callV0 (ci := 4) (n := 1) (As := [.int x1]) (rest := [.ref a0]) dX4_isRefused_91 rfl gX4_isRefused_X4_here rfl (by decide +kernel) rfl (by decide) b9 (Nat.le_of_ble_eq_true rfl) (Nat.le_refl _) (Nat.le_refl _) F kI_no (kI_kk (fun v_25 h_24 F => ?_))
            refine J_goto (tgt := 98) dX4_isRefused_94 (by decide) ?_
            obtain ⟨h_26, g9, F⟩ := F
            refine J_put (ci := 4) (k := 22) dX4_isRefused_98 rfl in_X4_isRefused_4 tyX4 tyX4_ok nmX4 (by decide) lk_X4_isRefused_120 rfl rfl rfl rfl g9 ?_
            refine J_aload_n dX4_isRefused_101 0 rfl ?_
            obtain ⟨v_27, g9, F⟩ := F
            refine J_get (ci := 4) (k := 0) dX4_isRefused_102 rfl in_X4_isRefused_4 (by decide) lk_X4_isRefused_58 g9 ?_
            refine J_if_le (tgt := 112) dX4_isRefused_105 (by decide) (fun c => ?_) (fun c => ?_)
            · replace F := F.1 c
              refine J_iconst (v := nI 0) dX4_isRefused_112 (by decide) ?_
              exact J_zret dX4_isRefused_113 rfl (by decide) (Nat.le_refl _) (Nat.le_refl _) F
            · replace F := F.2 c
              refine J_iconst (v := nI 1) dX4_isRefused_108 (by decide) ?_
              refine J_goto (tgt := 113) dX4_isRefused_109 (by decide) ?_
              exact J_zret dX4_isRefused_113 rfl (by decide) (Nat.le_refl _) (Nat.le_refl _) F
      · replace F := F.2 c
        refine J_aload_n dX4_isRefused_61 0 rfl ?_
        refine J_iconst (v := nI 2) dX4_isRefused_62 (by decide) ?_
        obtain ⟨h_28, g9, F⟩ := F
        refine J_put (ci := 4) (k := 0) dX4_isRefused_63 rfl in_X4_isRefused_4 tyX4 tyX4_ok nmX4 (by decide) lk_X4_isRefused_58 rfl rfl rfl rfl g9 ?_
        refine J_goto (tgt := 81) dX4_isRefused_66 (by decide) ?_
        refine J_aload_n dX4_isRefused_81 0 rfl ?_
        refine J_aload_n dX4_isRefused_82 0 rfl ?_
        obtain ⟨v_29, g9, F⟩ := F
        refine J_get (ci := 4) (k := 0) dX4_isRefused_83 rfl in_X4_isRefused_4 (by decide) lk_X4_isRefused_58 g9 ?_
        refine J_if_ne (tgt := 97) dX4_isRefused_86 (by decide) (fun c => ?_) (fun c => ?_)
        · replace F := F.1 c
          refine J_iconst (v := -nI 1) dX4_isRefused_97 (by decide) ?_
          obtain ⟨h_30, g9, F⟩ := F
          refine J_put (ci := 4) (k := 22) dX4_isRefused_98 rfl in_X4_isRefused_4 tyX4 tyX4_ok nmX4 (by decide) lk_X4_isRefused_120 rfl rfl rfl rfl g9 ?_
          refine J_aload_n dX4_isRefused_101 0 rfl ?_
          obtain ⟨v_31, g9, F⟩ := F
          refine J_get (ci := 4) (k := 0) dX4_isRefused_102 rfl in_X4_isRefused_4 (by decide) lk_X4_isRefused_58 g9 ?_
          refine J_if_le (tgt := 112) dX4_isRefused_105 (by decide) (fun c => ?_) (fun c => ?_)
          · replace F := F.1 c
            refine J_iconst (v := nI 0) dX4_isRefused_112 (by decide) ?_
            exact J_zret dX4_isRefused_113 rfl (by decide) (Nat.le_refl _) (Nat.le_refl _) F
          · replace F := F.2 c
            refine J_iconst (v := nI 1) dX4_isRefused_108 (by decide) ?_
            refine J_goto (tgt := 113) dX4_isRefused_109 (by decide) ?_
            exact J_zret dX4_isRefused_113 rfl (by decide) (Nat.le_refl _) (Nat.le_refl _) F
        · replace F := F.2 c
          refine J_aload_n dX4_isRefused_89 0 rfl ?_
          refine J_iload_n dX4_isRefused_90 1 rfl ?_
          obtain ⟨b9, F⟩ := F
          refine J_callV0 (ci := 4) (n := 1) (As := [.int x1]) (rest := [.ref a0]) dX4_isRefused_91 rfl gX4_isRefused_X4_here rfl (by decide +kernel) rfl (by decide) b9 (Nat.le_of_ble_eq_true rfl) (Nat.le_refl _) (Nat.le_refl _) F kI_no (kI_kk (fun v_33 h_32 F => ?_))
          refine J_goto (tgt := 98) dX4_isRefused_94 (by decide) ?_
          obtain ⟨h_34, g9, F⟩ := F
          refine J_put (ci := 4) (k := 22) dX4_isRefused_98 rfl in_X4_isRefused_4 tyX4 tyX4_ok nmX4 (by decide) lk_X4_isRefused_120 rfl rfl rfl rfl g9 ?_
          refine J_aload_n dX4_isRefused_101 0 rfl ?_
          obtain ⟨v_35, g9, F⟩ := F
          refine J_get (ci := 4) (k := 0) dX4_isRefused_102 rfl in_X4_isRefused_4 (by decide) lk_X4_isRefused_58 g9 ?_
          refine J_if_le (tgt := 112) dX4_isRefused_105 (by decide) (fun c => ?_) (fun c => ?_)
          · replace F := F.1 c
            refine J_iconst (v := nI 0) dX4_isRefused_112 (by decide) ?_
            exact J_zret dX4_isRefused_113 rfl (by decide) (Nat.le_refl _) (Nat.le_refl _) F
          · replace F := F.2 c
            refine J_iconst (v := nI 1) dX4_isRefused_108 (by decide) ?_
            refine J_goto (tgt := 113) dX4_isRefused_109 (by decide) ?_
            exact J_zret dX4_isRefused_113 rfl (by decide) (Nat.le_refl _) (Nat.le_refl _) F
    · replace F := F.2 c
      refine J_aload_n dX4_isRefused_31 0 rfl ?_
      obtain ⟨p_36, g9, F⟩ := F
      refine J_get (ci := 4) (k := 3) dX4_isRefused_32 rfl in_X4_isRefused_4 (by decide) lk_X4_isRefused_13 g9 ?_
      refine J_iload_n dX4_isRefused_35 1 rfl ?_
      obtain ⟨v_37, g9, F⟩ := F
      refine J_iald dX4_isRefused_36 g9 ?_
      refine J_iload_n dX4_isRefused_37 3 rfl ?_
      refine J_icmp_ne (tgt := 61) dX4_isRefused_38 (by decide) (fun c => ?_) (fun c => ?_)
      · replace F := F.1 c
        refine J_aload_n dX4_isRefused_61 0 rfl ?_
        refine J_iconst (v := nI 2) dX4_isRefused_62 (by decide) ?_
        obtain ⟨h_38, g9, F⟩ := F
        refine J_put (ci := 4) (k := 0) dX4_isRefused_63 rfl in_X4_isRefused_4 tyX4 tyX4_ok nmX4 (by decide) lk_X4_isRefused_58 rfl rfl rfl rfl g9 ?_
        refine J_goto (tgt := 81) dX4_isRefused_66 (by decide) ?_
        refine J_aload_n dX4_isRefused_81 0 rfl ?_
        refine J_aload_n dX4_isRefused_82 0 rfl ?_
        obtain ⟨v_39, g9, F⟩ := F
        refine J_get (ci := 4) (k := 0) dX4_isRefused_83 rfl in_X4_isRefused_4 (by decide) lk_X4_isRefused_58 g9 ?_
        refine J_if_ne (tgt := 97) dX4_isRefused_86 (by decide) (fun c => ?_) (fun c => ?_)
        · replace F := F.1 c
          refine J_iconst (v := -nI 1) dX4_isRefused_97 (by decide) ?_
          obtain ⟨h_40, g9, F⟩ := F
          refine J_put (ci := 4) (k := 22) dX4_isRefused_98 rfl in_X4_isRefused_4 tyX4 tyX4_ok nmX4 (by decide) lk_X4_isRefused_120 rfl rfl rfl rfl g9 ?_
          refine J_aload_n dX4_isRefused_101 0 rfl ?_
          obtain ⟨v_41, g9, F⟩ := F
          refine J_get (ci := 4) (k := 0) dX4_isRefused_102 rfl in_X4_isRefused_4 (by decide) lk_X4_isRefused_58 g9 ?_
          refine J_if_le (tgt := 112) dX4_isRefused_105 (by decide) (fun c => ?_) (fun c => ?_)
          · replace F := F.1 c
            refine J_iconst (v := nI 0) dX4_isRefused_112 (by decide) ?_
            exact J_zret dX4_isRefused_113 rfl (by decide) (Nat.le_refl _) (Nat.le_refl _) F
          · replace F := F.2 c
            refine J_iconst (v := nI 1) dX4_isRefused_108 (by decide) ?_
            refine J_goto (tgt := 113) dX4_isRefused_109 (by decide) ?_
            exact J_zret dX4_isRefused_113 rfl (by decide) (Nat.le_refl _) (Nat.le_refl _) F
        · replace F := F.2 c
          refine J_aload_n dX4_isRefused_89 0 rfl ?_
          refine J_iload_n dX4_isRefused_90 1 rfl ?_
          obtain ⟨b9, F⟩ := F
          refine J_callV0 (ci := 4) (n := 1) (As := [.int x1]) (rest := [.ref a0]) dX4_isRefused_91 rfl gX4_isRefused_X4_here rfl (by decide +kernel) rfl (by decide) b9 (Nat.le_of_ble_eq_true rfl) (Nat.le_refl _) (Nat.le_refl _) F kI_no (kI_kk (fun v_43 h_42 F => ?_))
          refine J_goto (tgt := 98) dX4_isRefused_94 (by decide) ?_
          obtain ⟨h_44, g9, F⟩ := F
          refine J_put (ci := 4) (k := 22) dX4_isRefused_98 rfl in_X4_isRefused_4 tyX4 tyX4_ok nmX4 (by decide) lk_X4_isRefused_120 rfl rfl rfl rfl g9 ?_
          refine J_aload_n dX4_isRefused_101 0 rfl ?_
          obtain ⟨v_45, g9, F⟩ := F
          refine J_get (ci := 4) (k := 0) dX4_isRefused_102 rfl in_X4_isRefused_4 (by decide) lk_X4_isRefused_58 g9 ?_
          refine J_if_le (tgt := 112) dX4_isRefused_105 (by decide) (fun c => ?_) (fun c => ?_)
          · replace F := F.1 c
            refine J_iconst (v := nI 0) dX4_isRefused_112 (by decide) ?_
            exact J_zret dX4_isRefused_113 rfl (by decide) (Nat.le_refl _) (Nat.le_refl _) F
          · replace F := F.2 c
            refine J_iconst (v := nI 1) dX4_isRefused_108 (by decide) ?_
            refine J_goto (tgt := 113) dX4_isRefused_109 (by decide) ?_
            exact J_zret dX4_isRefused_113 rfl (by decide) (Nat.le_refl _) (Nat.le_refl _) F
      · replace F := F.2 c
        refine J_aload_n dX4_isRefused_41 0 rfl ?_
        obtain ⟨p_46, g9, F⟩ := F
        refine J_get (ci := 4) (k := 3) dX4_isRefused_42 rfl in_X4_isRefused_4 (by decide) lk_X4_isRefused_13 g9 ?_
        refine J_iload_n dX4_isRefused_45 1 rfl ?_
        obtain ⟨v_47, g9, F⟩ := F
        refine J_iald dX4_isRefused_46 g9 ?_
        refine J_aload_n dX4_isRefused_47 0 rfl ?_
        obtain ⟨p_48, g9, F⟩ := F
        refine J_get (ci := 4) (k := 4) dX4_isRefused_48 rfl in_X4_isRefused_4 (by decide) lk_X4_isRefused_16 g9 ?_
        refine J_iload_n dX4_isRefused_51 1 rfl ?_
        obtain ⟨v_49, g9, F⟩ := F
        refine J_iald dX4_isRefused_52 g9 ?_
        refine J_lload dX4_isRefused_53 4 rfl ?_
        refine J_callS0 (n := 3) (As := [.int v_47, .int v_49, .long x4]) (rest := []) dX4_isRefused_55 gX4_isRefused_X4_fits rfl (by decide +kernel) rfl (by decide) (Nat.le_of_ble_eq_true rfl) (Nat.le_refl _) (Nat.le_refl _) F kI_no (kI_kk (fun v_51 h_50 F => ?_))
        refine J_if_ne (tgt := 69) dX4_isRefused_58 (by decide) (fun c => ?_) (fun c => ?_)
        · replace F := F.1 c
          refine J_aload_n dX4_isRefused_69 0 rfl ?_
          obtain ⟨v_52, g9, F⟩ := F
          refine J_get (ci := 4) (k := 19) dX4_isRefused_70 rfl in_X4_isRefused_4 (by decide) lk_X4_isRefused_112 g9 ?_
          refine J_if_ne (tgt := 81) dX4_isRefused_73 (by decide) (fun c => ?_) (fun c => ?_)
          · replace F := F.1 c
            refine J_aload_n dX4_isRefused_81 0 rfl ?_
            refine J_aload_n dX4_isRefused_82 0 rfl ?_
            obtain ⟨v_53, g9, F⟩ := F
            refine J_get (ci := 4) (k := 0) dX4_isRefused_83 rfl in_X4_isRefused_4 (by decide) lk_X4_isRefused_58 g9 ?_
            refine J_if_ne (tgt := 97) dX4_isRefused_86 (by decide) (fun c => ?_) (fun c => ?_)
            · replace F := F.1 c
              refine J_iconst (v := -nI 1) dX4_isRefused_97 (by decide) ?_
              obtain ⟨h_54, g9, F⟩ := F
              refine J_put (ci := 4) (k := 22) dX4_isRefused_98 rfl in_X4_isRefused_4 tyX4 tyX4_ok nmX4 (by decide) lk_X4_isRefused_120 rfl rfl rfl rfl g9 ?_
              refine J_aload_n dX4_isRefused_101 0 rfl ?_
              obtain ⟨v_55, g9, F⟩ := F
              refine J_get (ci := 4) (k := 0) dX4_isRefused_102 rfl in_X4_isRefused_4 (by decide) lk_X4_isRefused_58 g9 ?_
              refine J_if_le (tgt := 112) dX4_isRefused_105 (by decide) (fun c => ?_) (fun c => ?_)
              · replace F := F.1 c
                refine J_iconst (v := nI 0) dX4_isRefused_112 (by decide) ?_
                exact J_zret dX4_isRefused_113 rfl (by decide) (Nat.le_refl _) (Nat.le_refl _) F
              · replace F := F.2 c
                refine J_iconst (v := nI 1) dX4_isRefused_108 (by decide) ?_
                refine J_goto (tgt := 113) dX4_isRefused_109 (by decide) ?_
                exact J_zret dX4_isRefused_113 rfl (by decide) (Nat.le_refl _) (Nat.le_refl _) F
            · replace F := F.2 c
              refine J_aload_n dX4_isRefused_89 0 rfl ?_
              refine J_iload_n dX4_isRefused_90 1 rfl ?_
              obtain ⟨b9, F⟩ := F
              refine J_callV0 (ci := 4) (n := 1) (As := [.int x1]) (rest := [.ref a0]) dX4_isRefused_91 rfl gX4_isRefused_X4_here rfl (by decide +kernel) rfl (by decide) b9 (Nat.le_of_ble_eq_true rfl) (Nat.le_refl _) (Nat.le_refl _) F kI_no (kI_kk (fun v_57 h_56 F => ?_))
              refine J_goto (tgt := 98) dX4_isRefused_94 (by decide) ?_
              obtain ⟨h_58, g9, F⟩ := F
              refine J_put (ci := 4) (k := 22) dX4_isRefused_98 rfl in_X4_isRefused_4 tyX4 tyX4_ok nmX4 (by decide) lk_X4_isRefused_120 rfl rfl rfl rfl g9 ?_
              refine J_aload_n dX4_isRefused_101 0 rfl ?_
              obtain ⟨v_59, g9, F⟩ := F
              refine J_get (ci := 4) (k := 0) dX4_isRefused_102 rfl in_X4_isRefused_4 (by decide) lk_X4_isRefused_58 g9 ?_
              refine J_if_le (tgt := 112) dX4_isRefused_105 (by decide) (fun c => ?_) (fun c => ?_)
              · replace F := F.1 c
                refine J_iconst (v := nI 0) dX4_isRefused_112 (by decide) ?_
                exact J_zret dX4_isRefused_113 rfl (by decide) (Nat.le_refl _) (Nat.le_refl _) F
              · replace F := F.2 c
                refine J_iconst (v := nI 1) dX4_isRefused_108 (by decide) ?_
                refine J_goto (tgt := 113) dX4_isRefused_109 (by decide) ?_
                exact J_zret dX4_isRefused_113 rfl (by decide) (Nat.le_refl _) (Nat.le_refl _) F
          · replace F := F.2 c
            refine J_aload_n dX4_isRefused_76 0 rfl ?_
            refine J_iconst (v := nI 3) dX4_isRefused_77 (by decide) ?_
            obtain ⟨h_60, g9, F⟩ := F
            refine J_put (ci := 4) (k := 0) dX4_isRefused_78 rfl in_X4_isRefused_4 tyX4 tyX4_ok nmX4 (by decide) lk_X4_isRefused_58 rfl rfl rfl rfl g9 ?_
            refine J_aload_n dX4_isRefused_81 0 rfl ?_
            refine J_aload_n dX4_isRefused_82 0 rfl ?_
            obtain ⟨v_61, g9, F⟩ := F
            refine J_get (ci := 4) (k := 0) dX4_isRefused_83 rfl in_X4_isRefused_4 (by decide) lk_X4_isRefused_58 g9 ?_
            refine J_if_ne (tgt := 97) dX4_isRefused_86 (by decide) (fun c => ?_) (fun c => ?_)
            · replace F := F.1 c
              refine J_iconst (v := -nI 1) dX4_isRefused_97 (by decide) ?_
              obtain ⟨h_62, g9, F⟩ := F
              refine J_put (ci := 4) (k := 22) dX4_isRefused_98 rfl in_X4_isRefused_4 tyX4 tyX4_ok nmX4 (by decide) lk_X4_isRefused_120 rfl rfl rfl rfl g9 ?_
              refine J_aload_n dX4_isRefused_101 0 rfl ?_
              obtain ⟨v_63, g9, F⟩ := F
              refine J_get (ci := 4) (k := 0) dX4_isRefused_102 rfl in_X4_isRefused_4 (by decide) lk_X4_isRefused_58 g9 ?_
              refine J_if_le (tgt := 112) dX4_isRefused_105 (by decide) (fun c => ?_) (fun c => ?_)
              · replace F := F.1 c
                refine J_iconst (v := nI 0) dX4_isRefused_112 (by decide) ?_
                exact J_zret dX4_isRefused_113 rfl (by decide) (Nat.le_refl _) (Nat.le_refl _) F
              · replace F := F.2 c
                refine J_iconst (v := nI 1) dX4_isRefused_108 (by decide) ?_
                refine J_goto (tgt := 113) dX4_isRefused_109 (by decide) ?_
                exact J_zret dX4_isRefused_113 rfl (by decide) (Nat.le_refl _) (Nat.le_refl _) F
            · replace F := F.2 c
              refine J_aload_n dX4_isRefused_89 0 rfl ?_
              refine J_iload_n dX4_isRefused_90 1 rfl ?_
              obtain ⟨b9, F⟩ := F
              refine J_callV0 (ci := 4) (n := 1) (As := [.int x1]) (rest := [.ref a0]) dX4_isRefused_91 rfl gX4_isRefused_X4_here rfl (by decide +kernel) rfl (by decide) b9 (Nat.le_of_ble_eq_true rfl) (Nat.le_refl _) (Nat.le_refl _) F kI_no (kI_kk (fun v_65 h_64 F => ?_))
              refine J_goto (tgt := 98) dX4_isRefused_94 (by decide) ?_
              obtain ⟨h_66, g9, F⟩ := F
              refine J_put (ci := 4) (k := 22) dX4_isRefused_98 rfl in_X4_isRefused_4 tyX4 tyX4_ok nmX4 (by decide) lk_X4_isRefused_120 rfl rfl rfl rfl g9 ?_
              refine J_aload_n dX4_isRefused_101 0 rfl ?_
              obtain ⟨v_67, g9, F⟩ := F
              refine J_get (ci := 4) (k := 0) dX4_isRefused_102 rfl in_X4_isRefused_4 (by decide) lk_X4_isRefused_58 g9 ?_
              refine J_if_le (tgt := 112) dX4_isRefused_105 (by decide) (fun c => ?_) (fun c => ?_)
              · replace F := F.1 c
                refine J_iconst (v := nI 0) dX4_isRefused_112 (by decide) ?_
                exact J_zret dX4_isRefused_113 rfl (by decide) (Nat.le_refl _) (Nat.le_refl _) F
              · replace F := F.2 c
                refine J_iconst (v := nI 1) dX4_isRefused_108 (by decide) ?_
                refine J_goto (tgt := 113) dX4_isRefused_109 (by decide) ?_
                exact J_zret dX4_isRefused_113 rfl (by decide) (Nat.le_refl _) (Nat.le_refl _) F
        · replace F := F.2 c
          refine J_aload_n dX4_isRefused_61 0 rfl ?_
          refine J_iconst (v := nI 2) dX4_isRefused_62 (by decide) ?_
          obtain ⟨h_68, g9, F⟩ := F
          refine J_put (ci := 4) (k := 0) dX4_isRefused_63 rfl in_X4_isRefused_4 tyX4 tyX4_ok nmX4 (by decide) lk_X4_isRefused_58 rfl rfl rfl rfl g9 ?_
          refine J_goto (tgt := 81) dX4_isRefused_66 (by decide) ?_
          refine J_aload_n dX4_isRefused_81 0 rfl ?_
          refine J_aload_n dX4_isRefused_82 0 rfl ?_
          obtain ⟨v_69, g9, F⟩ := F
          refine J_get (ci := 4) (k := 0) dX4_isRefused_83 rfl in_X4_isRefused_4 (by decide) lk_X4_isRefused_58 g9 ?_
          refine J_if_ne (tgt := 97) dX4_isRefused_86 (by decide) (fun c => ?_) (fun c => ?_)
          · replace F := F.1 c
            refine J_iconst (v := -nI 1) dX4_isRefused_97 (by decide) ?_
            obtain ⟨h_70, g9, F⟩ := F
            refine J_put (ci := 4) (k := 22) dX4_isRefused_98 rfl in_X4_isRefused_4 tyX4 tyX4_ok nmX4 (by decide) lk_X4_isRefused_120 rfl rfl rfl rfl g9 ?_
            refine J_aload_n dX4_isRefused_101 0 rfl ?_
            obtain ⟨v_71, g9, F⟩ := F
            refine J_get (ci := 4) (k := 0) dX4_isRefused_102 rfl in_X4_isRefused_4 (by decide) lk_X4_isRefused_58 g9 ?_
            refine J_if_le (tgt := 112) dX4_isRefused_105 (by decide) (fun c => ?_) (fun c => ?_)
            · replace F := F.1 c
              refine J_iconst (v := nI 0) dX4_isRefused_112 (by decide) ?_
              exact J_zret dX4_isRefused_113 rfl (by decide) (Nat.le_refl _) (Nat.le_refl _) F
            · replace F := F.2 c
              refine J_iconst (v := nI 1) dX4_isRefused_108 (by decide) ?_
              refine J_goto (tgt := 113) dX4_isRefused_109 (by decide) ?_
              exact J_zret dX4_isRefused_113 rfl (by decide) (Nat.le_refl _) (Nat.le_refl _) F
          · replace F := F.2 c
            refine J_aload_n dX4_isRefused_89 0 rfl ?_
            refine J_iload_n dX4_isRefused_90 1 rfl ?_
            obtain ⟨b9, F⟩ := F
            refine J_callV0 (ci := 4) (n := 1) (As := [.int x1]) (rest := [.ref a0]) dX4_isRefused_91 rfl gX4_isRefused_X4_here rfl (by decide +kernel) rfl (by decide) b9 (Nat.le_of_ble_eq_true rfl) (Nat.le_refl _) (Nat.le_refl _) F kI_no (kI_kk (fun v_73 h_72 F => ?_))
            refine J_goto (tgt := 98) dX4_isRefused_94 (by decide) ?_
            obtain ⟨h_74, g9, F⟩ := F
            refine J_put (ci := 4) (k := 22) dX4_isRefused_98 rfl in_X4_isRefused_4 tyX4 tyX4_ok nmX4 (by decide) lk_X4_isRefused_120 rfl rfl rfl rfl g9 ?_
            refine J_aload_n dX4_isRefused_101 0 rfl ?_
            obtain ⟨v_75, g9, F⟩ := F
            refine J_get (ci := 4) (k := 0) dX4_isRefused_102 rfl in_X4_isRefused_4 (by decide) lk_X4_isRefused_58 g9 ?_
            refine J_if_le (tgt := 112) dX4_isRefused_105 (by decide) (fun c => ?_) (fun c => ?_)
            · replace F := F.1 c
              refine J_iconst (v := nI 0) dX4_isRefused_112 (by decide) ?_
              exact J_zret dX4_isRefused_113 rfl (by decide) (Nat.le_refl _) (Nat.le_refl _) F
            · replace F := F.2 c
              refine J_iconst (v := nI 1) dX4_isRefused_108 (by decide) ?_
              refine J_goto (tgt := 113) dX4_isRefused_109 (by decide) ?_
              exact J_zret dX4_isRefused_113 rfl (by decide) (Nat.le_refl _) (Nat.le_refl _) F
  · replace F := F.2 c
    refine J_aload_n dX4_isRefused_13 0 rfl ?_
    refine J_iconst (v := nI 1) dX4_isRefused_14 (by decide) ?_
    obtain ⟨h_76, g9, F⟩ := F
    refine J_put (ci := 4) (k := 0) dX4_isRefused_15 rfl in_X4_isRefused_4 tyX4 tyX4_ok nmX4 (by decide) lk_X4_isRefused_58 rfl rfl rfl rfl g9 ?_
    refine J_goto (tgt := 81) dX4_isRefused_18 (by decide) ?_
    refine J_aload_n dX4_isRefused_81 0 rfl ?_
    refine J_aload_n dX4_isRefused_82 0 rfl ?_
    obtain ⟨v_77, g9, F⟩ := F
    refine J_get (ci := 4) (k := 0) dX4_isRefused_83 rfl in_X4_isRefused_4 (by decide) lk_X4_isRefused_58 g9 ?_
    refine J_if_ne (tgt := 97) dX4_isRefused_86 (by decide) (fun c => ?_) (fun c => ?_)
    · replace F := F.1 c
      refine J_iconst (v := -nI 1) dX4_isRefused_97 (by decide) ?_
      obtain ⟨h_78, g9, F⟩ := F
      refine J_put (ci := 4) (k := 22) dX4_isRefused_98 rfl in_X4_isRefused_4 tyX4 tyX4_ok nmX4 (by decide) lk_X4_isRefused_120 rfl rfl rfl rfl g9 ?_
      refine J_aload_n dX4_isRefused_101 0 rfl ?_
      obtain ⟨v_79, g9, F⟩ := F
      refine J_get (ci := 4) (k := 0) dX4_isRefused_102 rfl in_X4_isRefused_4 (by decide) lk_X4_isRefused_58 g9 ?_
      refine J_if_le (tgt := 112) dX4_isRefused_105 (by decide) (fun c => ?_) (fun c => ?_)
      · replace F := F.1 c
        refine J_iconst (v := nI 0) dX4_isRefused_112 (by decide) ?_
        exact J_zret dX4_isRefused_113 rfl (by decide) (Nat.le_refl _) (Nat.le_refl _) F
      · replace F := F.2 c
        refine J_iconst (v := nI 1) dX4_isRefused_108 (by decide) ?_
        refine J_goto (tgt := 113) dX4_isRefused_109 (by decide) ?_
        exact J_zret dX4_isRefused_113 rfl (by decide) (Nat.le_refl _) (Nat.le_refl _) F
    · replace F := F.2 c
      refine J_aload_n dX4_isRefused_89 0 rfl ?_
      refine J_iload_n dX4_isRefused_90 1 rfl ?_
      obtain ⟨b9, F⟩ := F
      refine J_callV0 (ci := 4) (n := 1) (As := [.int x1]) (rest := [.ref a0]) dX4_isRefused_91 rfl gX4_isRefused_X4_here rfl (by decide +kernel) rfl (by decide) b9 (Nat.le_of_ble_eq_true rfl) (Nat.le_refl _) (Nat.le_refl _) F kI_no (kI_kk (fun v_81 h_80 F => ?_))
      refine J_goto (tgt := 98) dX4_isRefused_94 (by decide) ?_
      obtain ⟨h_82, g9, F⟩ := F
      refine J_put (ci := 4) (k := 22) dX4_isRefused_98 rfl in_X4_isRefused_4 tyX4 tyX4_ok nmX4 (by decide) lk_X4_isRefused_120 rfl rfl rfl rfl g9 ?_
      refine J_aload_n dX4_isRefused_101 0 rfl ?_
      obtain ⟨v_83, g9, F⟩ := F
      refine J_get (ci := 4) (k := 0) dX4_isRefused_102 rfl in_X4_isRefused_4 (by decide) lk_X4_isRefused_58 g9 ?_
      refine J_if_le (tgt := 112) dX4_isRefused_105 (by decide) (fun c => ?_) (fun c => ?_)
      · replace F := F.1 c
        refine J_iconst (v := nI 0) dX4_isRefused_112 (by decide) ?_
        exact J_zret dX4_isRefused_113 rfl (by decide) (Nat.le_refl _) (Nat.le_refl _) F
      · replace F := F.2 c
        refine J_iconst (v := nI 1) dX4_isRefused_108 (by decide) ?_
        refine J_goto (tgt := 113) dX4_isRefused_109 (by decide) ?_
        exact J_zret dX4_isRefused_113 rfl (by decide) (Nat.le_refl _) (Nat.le_refl _) F

abbrev mX4_newEntry (l : Launch) (K : Kx) (As : List Value) (h : Hp) (Post : Rs → Hp → Prop) : Prop := MX l K yX4_newEntry wsX4_newEntry 0 0 0 0 As h Post
set_option maxRecDepth 100000 in
set_option maxHeartbeats 4000000 in
theorem fX4_newEntry {l : Launch} {K : Kx} {a0 : Nat} {x1 : Int32} {h : Hp} {Post : Rs → Hp → Prop} (htr : l.stackTraces = false)
    (F : (∃ p_1, gf h a0 4 6 = some (.ref p_1) ∧ (∃ v_2, aI K h p_1 (nI 0) = some v_2 ∧ (∃ p_3, gf h a0 4 7 = some (.ref p_3) ∧ (∃ h_4, wI K h p_3 v_2 x1 = some h_4 ∧ (∃ p_5, gf h_4 a0 4 8 = some (.ref p_5) ∧ (∃ u_6, gf h_4 a0 4 20 = some (.long u_6) ∧ (∃ h_7, wJ K h_4 p_5 v_2 u_6 = some h_7 ∧ (∃ p_8, gf h_7 a0 4 9 = some (.ref p_8) ∧ (∃ v_9, gf h_7 a0 4 21 = some (.int v_9) ∧ (∃ h_10, wI K h_7 p_8 v_2 v_9 = some h_10 ∧ (∃ p_11, gf h_10 a0 4 10 = some (.ref p_11) ∧ (∃ h_12, wI K h_10 p_11 v_2 (nI 0) = some h_12 ∧ (∃ p_13, gf h_12 a0 4 6 = some (.ref p_13) ∧ (∃ v_14, aI K h_12 p_13 (nI 0) = some v_14 ∧ (∃ h_15, wI K h_12 p_13 (nI 0) (v_14 + (nI 1)) = some h_15 ∧ (Post (.inl (some (.int v_2))) h_15))))))))))))))))) :
    mX4_newEntry l K [.ref a0, .int x1] h Post := by
  refine MX.enter htr (by decide) rfl (Nat.le_of_ble_eq_true rfl) ?_
  refine J_lveq (lv' := [(0, .ref a0), (1, .int x1)]) rfl ?_
  refine J_aload_n dX4_newEntry_0 0 rfl ?_
  obtain ⟨p_1, g9, F⟩ := F
  refine J_get (ci := 4) (k := 6) dX4_newEntry_1 rfl in_X4_newEntry_4 (by decide) lk_X4_newEntry_22 g9 ?_
  refine J_iconst (v := nI 0) dX4_newEntry_4 (by decide) ?_
  obtain ⟨v_2, g9, F⟩ := F
  refine J_iald dX4_newEntry_5 g9 ?_
  refine J_istore_n (lv' := [(2, .int v_2), (0, .ref a0), (1, .int x1)]) dX4_newEntry_6 rfl (by decide) rfl ?_
  refine J_aload_n dX4_newEntry_7 1 rfl ?_
  obtain ⟨p_3, g9, F⟩ := F
  refine J_get (ci := 4) (k := 7) dX4_newEntry_8 rfl in_X4_newEntry_4 (by decide) lk_X4_newEntry_25 g9 ?_
  refine J_iload_n dX4_newEntry_11 0 rfl ?_
  refine J_iload_n dX4_newEntry_12 2 rfl ?_
  obtain ⟨h_4, g9, F⟩ := F
  refine J_iast dX4_newEntry_13 g9 ?_
  refine J_aload_n dX4_newEntry_14 1 rfl ?_
  obtain ⟨p_5, g9, F⟩ := F
  refine J_get (ci := 4) (k := 8) dX4_newEntry_15 rfl in_X4_newEntry_4 (by decide) lk_X4_newEntry_28 g9 ?_
  refine J_iload_n dX4_newEntry_18 0 rfl ?_
  refine J_aload_n dX4_newEntry_19 1 rfl ?_
  obtain ⟨u_6, g9, F⟩ := F
  refine J_get (ci := 4) (k := 20) dX4_newEntry_20 rfl in_X4_newEntry_4 (by decide) lk_X4_newEntry_80 g9 ?_
  obtain ⟨h_7, g9, F⟩ := F
  refine J_last dX4_newEntry_23 g9 ?_
  refine J_aload_n dX4_newEntry_24 1 rfl ?_
  obtain ⟨p_8, g9, F⟩ := F
  refine J_get (ci := 4) (k := 9) dX4_newEntry_25 rfl in_X4_newEntry_4 (by decide) lk_X4_newEntry_32 g9 ?_
  refine J_iload_n dX4_newEntry_28 0 rfl ?_
  refine J_aload_n dX4_newEntry_29 1 rfl ?_
  obtain ⟨v_9, g9, F⟩ := F
  refine J_get (ci := 4) (k := 21) dX4_newEntry_30 rfl in_X4_newEntry_4 (by decide) lk_X4_newEntry_84 g9 ?_
  obtain ⟨h_10, g9, F⟩ := F
  refine J_iast dX4_newEntry_33 g9 ?_
  refine J_aload_n dX4_newEntry_34 1 rfl ?_
  obtain ⟨p_11, g9, F⟩ := F
  refine J_get (ci := 4) (k := 10) dX4_newEntry_35 rfl in_X4_newEntry_4 (by decide) lk_X4_newEntry_35 g9 ?_
  refine J_iload_n dX4_newEntry_38 0 rfl ?_
  refine J_iconst (v := nI 0) dX4_newEntry_39 (by decide) ?_
  obtain ⟨h_12, g9, F⟩ := F
  refine J_iast dX4_newEntry_40 g9 ?_
  refine J_aload_n dX4_newEntry_41 1 rfl ?_
  obtain ⟨p_13, g9, F⟩ := F
  refine J_get (ci := 4) (k := 6) dX4_newEntry_42 rfl in_X4_newEntry_4 (by decide) lk_X4_newEntry_22 g9 ?_
  refine J_iconst (v := nI 0) dX4_newEntry_45 (by decide) ?_
  refine J_dup2 dX4_newEntry_46 rfl rfl ?_
  obtain ⟨v_14, g9, F⟩ := F
  refine J_iald dX4_newEntry_47 g9 ?_
  refine J_iconst (v := nI 1) dX4_newEntry_48 (by decide) ?_
  refine J_iadd dX4_newEntry_49 ?_
  obtain ⟨h_15, g9, F⟩ := F
  refine J_iast dX4_newEntry_50 g9 ?_
  refine J_iload_n dX4_newEntry_51 0 rfl ?_
  exact J_iret dX4_newEntry_52 rfl (Nat.le_refl _) (Nat.le_refl _) F

abbrev mX4_pageOf (l : Launch) (K : Kx) (As : List Value) (h : Hp) (Post : Rs → Hp → Prop) : Prop := MX l K yX4_pageOf wsX4_pageOf 0 0 0 0 As h Post
set_option maxRecDepth 100000 in
set_option maxHeartbeats 4000000 in
theorem fX4_pageOf {l : Launch} {K : Kx} {a0 : Nat} {x1 : Int32} {x2 : Int64} {x3 : Int32} {h : Hp} {Post : Rs → Hp → Prop} (htr : l.stackTraces = false)
    (F : (Post (.inl (some (.int ((((((x2.toInt32 ^^^ (((x2.toUInt64 >>> ((nI 32).toInt64.toUInt64 &&& Int64.toUInt64 63)).toInt64).toInt32)) * (nI 31)) + x3) * (nI 31)) + x1) &&& (nI 15))))) h)) :
    mX4_pageOf l K [.ref a0, .int x1, .long x2, .int x3] h Post := by
  refine MX.enter htr (by decide) rfl (Nat.le_of_ble_eq_true rfl) ?_
  refine J_lveq (lv' := [(0, .ref a0), (1, .int x1), (2, .long x2), (4, .int x3)]) rfl ?_
  refine J_lload_n dX4_pageOf_0 2 rfl ?_
  refine J_l2i dX4_pageOf_1 ?_
  refine J_lload_n dX4_pageOf_2 2 rfl ?_
  refine J_bipush (v := nI 32) dX4_pageOf_3 (by decide) ?_
  refine J_lushr dX4_pageOf_5 ?_
  refine J_l2i dX4_pageOf_6 ?_
  refine J_ixor dX4_pageOf_7 ?_
  refine J_istore (lv' := [(5, .int (x2.toInt32 ^^^ (((x2.toUInt64 >>> ((nI 32).toInt64.toUInt64 &&& Int64.toUInt64 63)).toInt64).toInt32))), (0, .ref a0), (1, .int x1), (2, .long x2), (4, .int x3)]) dX4_pageOf_8 (by decide) rfl ?_
  refine J_iload dX4_pageOf_10 0 rfl ?_
  refine J_bipush (v := nI 31) dX4_pageOf_12 (by decide) ?_
  refine J_imul dX4_pageOf_14 ?_
  refine J_iload dX4_pageOf_15 4 rfl ?_
  refine J_iadd dX4_pageOf_17 ?_
  refine J_bipush (v := nI 31) dX4_pageOf_18 (by decide) ?_
  refine J_imul dX4_pageOf_20 ?_
  refine J_iload_n dX4_pageOf_21 2 rfl ?_
  refine J_iadd dX4_pageOf_22 ?_
  refine J_bipush (v := nI 15) dX4_pageOf_23 (by decide) ?_
  refine J_iand dX4_pageOf_25 ?_
  exact J_iret dX4_pageOf_26 rfl (Nat.le_refl _) (Nat.le_refl _) F

abbrev mX4_isShared (l : Launch) (K : Kx) (As : List Value) (h : Hp) (Post : Rs → Hp → Prop) : Prop := MX l K yX4_isShared wsX4_isShared 0 0 0 0 As h Post
set_option maxRecDepth 100000 in
set_option maxHeartbeats 4000000 in
theorem fX4_isShared {l : Launch} {K : Kx} {a0 : Nat} {x1 : Int32} {h : Hp} {Post : Rs → Hp → Prop} (htr : l.stackTraces = false)
    (F : (∀ X_3 : Int32 → Int32 → Prop, (∀ (i_1 : Int32) (i_2 : Int32), ((((nI 7) ≤ i_2 → ((i_1 = nI 0 ∨ i_1 = nI 1) ∧ Post (.inl (some (.int i_1))) h)) ∧ (¬ (nI 7) ≤ i_2 → (∃ p_4, gf h a0 4 14 = some (.ref p_4) ∧ (∃ v_5, aZ K h p_4 i_2 = some v_5 ∧ ((v_5 = nI 0 → X_3 (i_1 ||| (nI 0)) (i_2 + nI 1)) ∧ (¬ v_5 = nI 0 → (∃ p_6, gf h a0 4 13 = some (.ref p_6) ∧ (∃ v_7, aI K h p_6 (((nI 16) * i_2) + x1) = some v_7 ∧ (∃ p_8, gf h a0 4 13 = some (.ref p_8) ∧ (∃ v_9, aI K h p_8 x1 = some v_9 ∧ ((¬ v_7 = v_9 → X_3 (i_1 ||| (nI 0)) (i_2 + nI 1)) ∧ (v_7 = v_9 → X_3 (i_1 ||| (nI 1)) (i_2 + nI 1)))))))))))))) → X_3 i_1 i_2) → X_3 (nI 0) (nI 1))) :
    mX4_isShared l K [.ref a0, .int x1] h Post := by
  refine MX.enter htr (by decide) rfl (Nat.le_of_ble_eq_true rfl) ?_
  refine J_lveq (lv' := [(0, .ref a0), (1, .int x1)]) rfl ?_
  refine J_iconst (v := nI 0) dX4_isShared_0 (by decide) ?_
  refine J_istore_n (lv' := [(2, .int (nI 0)), (0, .ref a0), (1, .int x1)]) dX4_isShared_1 rfl (by decide) rfl ?_
  refine J_iconst (v := nI 1) dX4_isShared_2 (by decide) ?_
  refine J_istore_n (lv' := [(3, .int (nI 1)), (2, .int (nI 0)), (0, .ref a0), (1, .int x1)]) dX4_isShared_3 rfl (by decide) rfl ?_
  refine J_sub [2, 3, 1, 0] rfl ?_
  refine F (fun (i_1 : Int32) (i_2 : Int32) => J l K yX4_isShared.cls cX4_isShared 4 (some .boolean) wsX4_isShared [] yX4_isShared.name 0 0 0 0 (QM K 0 0 Post) 4 [] [(0, .ref a0), (1, .int x1), (2, .int i_1), (3, .int i_2)] h 0 0) ?_
  intro i_1 i_2 F
  refine J_iload_n dX4_isShared_4 3 rfl ?_
  refine J_bipush (v := nI 7) dX4_isShared_5 (by decide) ?_
  refine J_icmp_ge (tgt := 53) dX4_isShared_7 (by decide) (fun c => ?_) (fun c => ?_)
  · replace F := F.1 c
    refine J_iload_n dX4_isShared_53 2 rfl ?_
    exact J_zret dX4_isShared_54 rfl F.1 (Nat.le_refl _) (Nat.le_refl _) F.2
  · replace F := F.2 c
    refine J_iload_n dX4_isShared_10 2 rfl ?_
    refine J_aload_n dX4_isShared_11 0 rfl ?_
    obtain ⟨p_4, g9, F⟩ := F
    refine J_get (ci := 4) (k := 14) dX4_isShared_12 rfl in_X4_isShared_4 (by decide) lk_X4_isShared_47 g9 ?_
    refine J_iload_n dX4_isShared_15 3 rfl ?_
    obtain ⟨v_5, g9, F⟩ := F
    refine J_zald dX4_isShared_16 g9 ?_
    refine J_if_eq (tgt := 44) dX4_isShared_17 (by decide) (fun c => ?_) (fun c => ?_)
    · replace F := F.1 c
      refine J_iconst (v := nI 0) dX4_isShared_44 (by decide) ?_
      refine J_ior dX4_isShared_45 ?_
      refine J_istore_n (lv' := [(2, .int (i_1 ||| (nI 0))), (0, .ref a0), (1, .int x1), (3, .int i_2)]) dX4_isShared_46 rfl (by decide) rfl ?_
      refine J_iinc (v := i_2 + nI 1) (lv' := [(3, .int (i_2 + nI 1)), (2, .int (i_1 ||| (nI 0))), (0, .ref a0), (1, .int x1)]) dX4_isShared_47 3 rfl rfl (by decide) rfl ?_
      refine J_goto (tgt := 4) dX4_isShared_50 (by decide) ?_
      exact J_sub [2, 3, 1, 0] rfl F
    · replace F := F.2 c
      refine J_aload_n dX4_isShared_20 0 rfl ?_
      obtain ⟨p_6, g9, F⟩ := F
      refine J_get (ci := 4) (k := 13) dX4_isShared_21 rfl in_X4_isShared_4 (by decide) lk_X4_isShared_44 g9 ?_
      refine J_bipush (v := nI 16) dX4_isShared_24 (by decide) ?_
      refine J_iload_n dX4_isShared_26 3 rfl ?_
      refine J_imul dX4_isShared_27 ?_
      refine J_iload_n dX4_isShared_28 1 rfl ?_
      refine J_iadd dX4_isShared_29 ?_
      obtain ⟨v_7, g9, F⟩ := F
      refine J_iald dX4_isShared_30 g9 ?_
      refine J_aload_n dX4_isShared_31 0 rfl ?_
      obtain ⟨p_8, g9, F⟩ := F
      refine J_get (ci := 4) (k := 13) dX4_isShared_32 rfl in_X4_isShared_4 (by decide) lk_X4_isShared_44 g9 ?_
      refine J_iload_n dX4_isShared_35 1 rfl ?_
      obtain ⟨v_9, g9, F⟩ := F
      refine J_iald dX4_isShared_36 g9 ?_
      refine J_icmp_ne (tgt := 44) dX4_isShared_37 (by decide) (fun c => ?_) (fun c => ?_)
      · replace F := F.1 c
        refine J_iconst (v := nI 0) dX4_isShared_44 (by decide) ?_
        refine J_ior dX4_isShared_45 ?_
        refine J_istore_n (lv' := [(2, .int (i_1 ||| (nI 0))), (0, .ref a0), (1, .int x1), (3, .int i_2)]) dX4_isShared_46 rfl (by decide) rfl ?_
        refine J_iinc (v := i_2 + nI 1) (lv' := [(3, .int (i_2 + nI 1)), (2, .int (i_1 ||| (nI 0))), (0, .ref a0), (1, .int x1)]) dX4_isShared_47 3 rfl rfl (by decide) rfl ?_
        refine J_goto (tgt := 4) dX4_isShared_50 (by decide) ?_
        exact J_sub [2, 3, 1, 0] rfl F
      · replace F := F.2 c
        refine J_iconst (v := nI 1) dX4_isShared_40 (by decide) ?_
        refine J_goto (tgt := 45) dX4_isShared_41 (by decide) ?_
        refine J_ior dX4_isShared_45 ?_
        refine J_istore_n (lv' := [(2, .int (i_1 ||| (nI 1))), (0, .ref a0), (1, .int x1), (3, .int i_2)]) dX4_isShared_46 rfl (by decide) rfl ?_
        refine J_iinc (v := i_2 + nI 1) (lv' := [(3, .int (i_2 + nI 1)), (2, .int (i_1 ||| (nI 1))), (0, .ref a0), (1, .int x1)]) dX4_isShared_47 3 rfl rfl (by decide) rfl ?_
        refine J_goto (tgt := 4) dX4_isShared_50 (by decide) ?_
        exact J_sub [2, 3, 1, 0] rfl F

abbrev mX4_newPage (l : Launch) (K : Kx) (As : List Value) (h : Hp) (Post : Rs → Hp → Prop) : Prop := MX l K yX4_newPage wsX4_newPage 0 0 0 0 As h Post
set_option maxRecDepth 100000 in
set_option maxHeartbeats 4000000 in
theorem fX4_newPage {l : Launch} {K : Kx} {a0 : Nat} {h : Hp} {Post : Rs → Hp → Prop} (htr : l.stackTraces = false)
    (F : (∃ v_1, gf h a0 4 17 = some (.int v_1) ∧ (∃ h_2, pf h a0 4 17 (.int (v_1 + (nI 1))) = some h_2 ∧ (∃ v_3, gf h_2 a0 4 17 = some (.int v_3) ∧ (Post (.inl (some (.int v_3))) h_2))))) :
    mX4_newPage l K [.ref a0] h Post := by
  refine MX.enter htr (by decide) rfl (Nat.le_of_ble_eq_true rfl) ?_
  refine J_lveq (lv' := [(0, .ref a0)]) rfl ?_
  refine J_aload_n dX4_newPage_0 0 rfl ?_
  refine J_dup dX4_newPage_1 (rfl) ?_
  obtain ⟨v_1, g9, F⟩ := F
  refine J_get (ci := 4) (k := 17) dX4_newPage_2 rfl in_X4_newPage_4 (by decide) lk_X4_newPage_62 g9 ?_
  refine J_iconst (v := nI 1) dX4_newPage_5 (by decide) ?_
  refine J_iadd dX4_newPage_6 ?_
  obtain ⟨h_2, g9, F⟩ := F
  refine J_put (ci := 4) (k := 17) dX4_newPage_7 rfl in_X4_newPage_4 tyX4 tyX4_ok nmX4 (by decide) lk_X4_newPage_62 rfl rfl rfl rfl g9 ?_
  refine J_aload_n dX4_newPage_10 0 rfl ?_
  obtain ⟨v_3, g9, F⟩ := F
  refine J_get (ci := 4) (k := 17) dX4_newPage_11 rfl in_X4_newPage_4 (by decide) lk_X4_newPage_62 g9 ?_
  exact J_iret dX4_newPage_14 rfl (Nat.le_refl _) (Nat.le_refl _) F

abbrev mX4_touch (l : Launch) (K : Kx) (As : List Value) (h : Hp) (Post : Rs → Hp → Prop) : Prop := MX l K yX4_touch wsX4_touch 1 23 0 0 As h Post
set_option maxRecDepth 100000 in
set_option maxHeartbeats 4000000 in
theorem fX4_touch {l : Launch} {K : Kx} {a0 : Nat} {x1 : Int32} {h : Hp} {Post : Rs → Hp → Prop} (htr : l.stackTraces = false)
    (F : ((∃ fs, h a0 = some (xO 4 fs)) ∧ mX4_isShared l K [.ref a0, .int x1] h (kI (fun v_2 h_1 => ((v_2 = nI 0 → (Post (.inl none) h_1)) ∧ (¬ v_2 = nI 0 → (∃ v_3, gf h_1 a0 4 18 = some (.int v_3) ∧ (∃ h_4, pf h_1 a0 4 18 (.int (v_3 + (nI 1))) = some h_4 ∧ (∃ p_5, gf h_4 a0 4 13 = some (.ref p_5) ∧ ((∃ fs, h_4 a0 = some (xO 4 fs)) ∧ mX4_newPage l K [.ref a0] h_4 (kI (fun v_7 h_6 => (∃ h_8, wI K h_6 p_5 x1 v_7 = some h_8 ∧ (Post (.inl none) h_8)))))))))))))) :
    mX4_touch l K [.ref a0, .int x1] h Post := by
  refine MX.enter htr (by decide) rfl (Nat.le_of_ble_eq_true rfl) ?_
  refine J_lveq (lv' := [(0, .ref a0), (1, .int x1)]) rfl ?_
  refine J_aload_n dX4_touch_0 0 rfl ?_
  refine J_iload_n dX4_touch_1 1 rfl ?_
  obtain ⟨b9, F⟩ := F
  refine J_callV0 (ci := 4) (n := 1) (As := [.int x1]) (rest := []) dX4_touch_2 rfl gX4_touch_X4_isShared rfl (by decide +kernel) rfl (by decide) b9 (Nat.le_of_ble_eq_true rfl) (Nat.le_refl _) (Nat.le_refl _) F kI_no (kI_kk (fun v_2 h_1 F => ?_))
  refine J_if_eq (tgt := 28) dX4_touch_5 (by decide) (fun c => ?_) (fun c => ?_)
  · replace F := F.1 c
    exact J_vret dX4_touch_28 rfl (Nat.le_refl _) (Nat.le_refl _) F
  · replace F := F.2 c
    refine J_aload_n dX4_touch_8 0 rfl ?_
    refine J_dup dX4_touch_9 (rfl) ?_
    obtain ⟨v_3, g9, F⟩ := F
    refine J_get (ci := 4) (k := 18) dX4_touch_10 rfl in_X4_touch_4 (by decide) lk_X4_touch_69 g9 ?_
    refine J_iconst (v := nI 1) dX4_touch_13 (by decide) ?_
    refine J_iadd dX4_touch_14 ?_
    obtain ⟨h_4, g9, F⟩ := F
    refine J_put (ci := 4) (k := 18) dX4_touch_15 rfl in_X4_touch_4 tyX4 tyX4_ok nmX4 (by decide) lk_X4_touch_69 rfl rfl rfl rfl g9 ?_
    refine J_aload_n dX4_touch_18 0 rfl ?_
    obtain ⟨p_5, g9, F⟩ := F
    refine J_get (ci := 4) (k := 13) dX4_touch_19 rfl in_X4_touch_4 (by decide) lk_X4_touch_44 g9 ?_
    refine J_iload_n dX4_touch_22 1 rfl ?_
    refine J_aload_n dX4_touch_23 0 rfl ?_
    obtain ⟨b9, F⟩ := F
    refine J_callV0 (ci := 4) (n := 0) (As := []) (rest := [.int x1, .ref p_5]) dX4_touch_24 rfl gX4_touch_X4_newPage rfl (by decide +kernel) rfl (by decide) b9 (Nat.le_of_ble_eq_true rfl) (Nat.le_refl _) (Nat.le_refl _) F kI_no (kI_kk (fun v_7 h_6 F => ?_))
    obtain ⟨h_8, g9, F⟩ := F
    refine J_iast dX4_touch_27 g9 ?_
    exact J_vret dX4_touch_28 rfl (Nat.le_refl _) (Nat.le_refl _) F

abbrev mX4_touchOf (l : Launch) (K : Kx) (As : List Value) (h : Hp) (Post : Rs → Hp → Prop) : Prop := MX l K yX4_touchOf wsX4_touchOf 2 44 0 0 As h Post
set_option maxRecDepth 100000 in
set_option maxHeartbeats 4000000 in
theorem fX4_touchOf {l : Launch} {K : Kx} {a0 : Nat} {x1 : Int32} {h : Hp} {Post : Rs → Hp → Prop} (htr : l.stackTraces = false)
    (F : (∃ p_1, gf h a0 4 7 = some (.ref p_1) ∧ (∃ v_2, aI K h p_1 x1 = some v_2 ∧ (∃ p_3, gf h a0 4 8 = some (.ref p_3) ∧ (∃ u_4, aJ K h p_3 x1 = some u_4 ∧ (∃ p_5, gf h a0 4 9 = some (.ref p_5) ∧ (∃ v_6, aI K h p_5 x1 = some v_6 ∧ ((∃ fs, h a0 = some (xO 4 fs)) ∧ mX4_pageOf l K [.ref a0, .int v_2, .long u_4, .int v_6] h (kI (fun v_8 h_7 => ((∃ fs, h_7 a0 = some (xO 4 fs)) ∧ mX4_touch l K [.ref a0, .int v_8] h_7 (kV (fun h_9 => (Post (.inl none) h_9)))))))))))))) :
    mX4_touchOf l K [.ref a0, .int x1] h Post := by
  refine MX.enter htr (by decide) rfl (Nat.le_of_ble_eq_true rfl) ?_
  refine J_lveq (lv' := [(0, .ref a0), (1, .int x1)]) rfl ?_
  refine J_aload_n dX4_touchOf_0 0 rfl ?_
  refine J_aload_n dX4_touchOf_1 0 rfl ?_
  refine J_aload_n dX4_touchOf_2 0 rfl ?_
  obtain ⟨p_1, g9, F⟩ := F
  refine J_get (ci := 4) (k := 7) dX4_touchOf_3 rfl in_X4_touchOf_4 (by decide) lk_X4_touchOf_25 g9 ?_
  refine J_iload_n dX4_touchOf_6 1 rfl ?_
  obtain ⟨v_2, g9, F⟩ := F
  refine J_iald dX4_touchOf_7 g9 ?_
  refine J_aload_n dX4_touchOf_8 0 rfl ?_
  obtain ⟨p_3, g9, F⟩ := F
  refine J_get (ci := 4) (k := 8) dX4_touchOf_9 rfl in_X4_touchOf_4 (by decide) lk_X4_touchOf_28 g9 ?_
  refine J_iload_n dX4_touchOf_12 1 rfl ?_
  obtain ⟨u_4, g9, F⟩ := F
  refine J_lald dX4_touchOf_13 g9 ?_
  refine J_aload_n dX4_touchOf_14 0 rfl ?_
  obtain ⟨p_5, g9, F⟩ := F
  refine J_get (ci := 4) (k := 9) dX4_touchOf_15 rfl in_X4_touchOf_4 (by decide) lk_X4_touchOf_32 g9 ?_
  refine J_iload_n dX4_touchOf_18 1 rfl ?_
  obtain ⟨v_6, g9, F⟩ := F
  refine J_iald dX4_touchOf_19 g9 ?_
  obtain ⟨b9, F⟩ := F
  refine J_callV0 (ci := 4) (n := 3) (As := [.int v_2, .long u_4, .int v_6]) (rest := [.ref a0]) dX4_touchOf_20 rfl gX4_touchOf_X4_pageOf rfl (by decide +kernel) rfl (by decide) b9 (Nat.le_of_ble_eq_true rfl) (Nat.le_refl _) (Nat.le_refl _) F kI_no (kI_kk (fun v_8 h_7 F => ?_))
  obtain ⟨b9, F⟩ := F
  refine J_callV0 (ci := 4) (n := 1) (As := [.int v_8]) (rest := []) dX4_touchOf_23 rfl gX4_touchOf_X4_touch rfl (by decide +kernel) rfl (by decide) b9 (Nat.le_of_ble_eq_true rfl) (Nat.le_refl _) (Nat.le_refl _) F kV_no (kV_kk (fun h_9 F => ?_))
  exact J_vret dX4_touchOf_26 rfl (Nat.le_refl _) (Nat.le_refl _) F

abbrev mX4_add (l : Launch) (K : Kx) (As : List Value) (h : Hp) (Post : Rs → Hp → Prop) : Prop := MX l K yX4_add wsX4_add 3 72 0 0 As h Post
set_option maxRecDepth 100000 in
set_option maxHeartbeats 4000000 in
theorem fX4_add {l : Launch} {K : Kx} {a0 : Nat} {x1 : Int32} {x2 : Int64} {h : Hp} {Post : Rs → Hp → Prop} (htr : l.stackTraces = false)
    (F : ((∃ fs, h a0 = some (xO 4 fs)) ∧ mX4_isRefused l K [.ref a0, .int x1, .int (nI 1), .int (nI 1), .long x2] h (kI (fun v_2 h_1 => ((v_2 = nI 0 → (∃ v_3, gf h_1 a0 4 22 = some (.int v_3) ∧ ((nI 0 ≤ v_3 → (∃ p_4, gf h_1 a0 4 10 = some (.ref p_4) ∧ (∃ v_5, gf h_1 a0 4 22 = some (.int v_5) ∧ (∃ v_6, aI K h_1 p_4 v_5 = some v_6 ∧ ((¬ v_6 = (nI 10) → (∃ v_7, gf h_1 a0 4 22 = some (.int v_7) ∧ ((nI 0 ≤ v_7 → (∃ v_8, gf h_1 a0 4 22 = some (.int v_8) ∧ ((∃ fs, h_1 a0 = some (xO 4 fs)) ∧ mX4_touchOf l K [.ref a0, .int v_8] h_1 (kV (fun h_9 => (∃ p_10, gf h_9 a0 4 11 = some (.ref p_10) ∧ (∃ p_11, gf h_9 a0 4 10 = some (.ref p_11) ∧ (∃ v_12, aI K h_9 p_11 v_8 = some v_12 ∧ (∃ h_13, wJ K h_9 p_10 (((nI 10) * v_8) + v_12) x2 = some h_13 ∧ (∃ p_14, gf h_13 a0 4 10 = some (.ref p_14) ∧ (∃ v_15, aI K h_13 p_14 v_8 = some v_15 ∧ (∃ h_16, wI K h_13 p_14 v_8 (v_15 + (nI 1)) = some h_16 ∧ (∃ p_17, gf h_16 a0 4 10 = some (.ref p_17) ∧ (∃ v_18, aI K h_16 p_17 v_8 = some v_18 ∧ (Post (.inl (some (.int v_18))) h_16))))))))))))))) ∧ (¬ nI 0 ≤ v_7 → ((∃ fs, h_1 a0 = some (xO 4 fs)) ∧ mX4_newEntry l K [.ref a0, .int x1] h_1 (kI (fun v_20 h_19 => ((∃ fs, h_19 a0 = some (xO 4 fs)) ∧ mX4_touchOf l K [.ref a0, .int v_20] h_19 (kV (fun h_21 => (∃ p_22, gf h_21 a0 4 11 = some (.ref p_22) ∧ (∃ p_23, gf h_21 a0 4 10 = some (.ref p_23) ∧ (∃ v_24, aI K h_21 p_23 v_20 = some v_24 ∧ (∃ h_25, wJ K h_21 p_22 (((nI 10) * v_20) + v_24) x2 = some h_25 ∧ (∃ p_26, gf h_25 a0 4 10 = some (.ref p_26) ∧ (∃ v_27, aI K h_25 p_26 v_20 = some v_27 ∧ (∃ h_28, wI K h_25 p_26 v_20 (v_27 + (nI 1)) = some h_28 ∧ (∃ p_29, gf h_28 a0 4 10 = some (.ref p_29) ∧ (∃ v_30, aI K h_28 p_29 v_20 = some v_30 ∧ (Post (.inl (some (.int v_30))) h_28)))))))))))))))))))) ∧ (v_6 = (nI 10) → (Post (.inl (some (.int (-nI 4)))) h_1))))))) ∧ (¬ nI 0 ≤ v_3 → (∃ p_31, gf h_1 a0 4 6 = some (.ref p_31) ∧ (∃ v_32, aI K h_1 p_31 (nI 0) = some v_32 ∧ ((¬ v_32 = (nI 150) → (∃ v_33, gf h_1 a0 4 22 = some (.int v_33) ∧ ((nI 0 ≤ v_33 → (∃ v_34, gf h_1 a0 4 22 = some (.int v_34) ∧ ((∃ fs, h_1 a0 = some (xO 4 fs)) ∧ mX4_touchOf l K [.ref a0, .int v_34] h_1 (kV (fun h_35 => (∃ p_36, gf h_35 a0 4 11 = some (.ref p_36) ∧ (∃ p_37, gf h_35 a0 4 10 = some (.ref p_37) ∧ (∃ v_38, aI K h_35 p_37 v_34 = some v_38 ∧ (∃ h_39, wJ K h_35 p_36 (((nI 10) * v_34) + v_38) x2 = some h_39 ∧ (∃ p_40, gf h_39 a0 4 10 = some (.ref p_40) ∧ (∃ v_41, aI K h_39 p_40 v_34 = some v_41 ∧ (∃ h_42, wI K h_39 p_40 v_34 (v_41 + (nI 1)) = some h_42 ∧ (∃ p_43, gf h_42 a0 4 10 = some (.ref p_43) ∧ (∃ v_44, aI K h_42 p_43 v_34 = some v_44 ∧ (Post (.inl (some (.int v_44))) h_42))))))))))))))) ∧ (¬ nI 0 ≤ v_33 → ((∃ fs, h_1 a0 = some (xO 4 fs)) ∧ mX4_newEntry l K [.ref a0, .int x1] h_1 (kI (fun v_46 h_45 => ((∃ fs, h_45 a0 = some (xO 4 fs)) ∧ mX4_touchOf l K [.ref a0, .int v_46] h_45 (kV (fun h_47 => (∃ p_48, gf h_47 a0 4 11 = some (.ref p_48) ∧ (∃ p_49, gf h_47 a0 4 10 = some (.ref p_49) ∧ (∃ v_50, aI K h_47 p_49 v_46 = some v_50 ∧ (∃ h_51, wJ K h_47 p_48 (((nI 10) * v_46) + v_50) x2 = some h_51 ∧ (∃ p_52, gf h_51 a0 4 10 = some (.ref p_52) ∧ (∃ v_53, aI K h_51 p_52 v_46 = some v_53 ∧ (∃ h_54, wI K h_51 p_52 v_46 (v_53 + (nI 1)) = some h_54 ∧ (∃ p_55, gf h_54 a0 4 10 = some (.ref p_55) ∧ (∃ v_56, aI K h_54 p_55 v_46 = some v_56 ∧ (Post (.inl (some (.int v_56))) h_54)))))))))))))))))))) ∧ (v_32 = (nI 150) → (Post (.inl (some (.int (-nI 4)))) h_1))))))))) ∧ (¬ v_2 = nI 0 → (Post (.inl (some (.int (nI 0)))) h_1))))))) :
    mX4_add l K [.ref a0, .int x1, .long x2] h Post := by
  refine MX.enter htr (by decide) rfl (Nat.le_of_ble_eq_true rfl) ?_
  refine J_lveq (lv' := [(0, .ref a0), (1, .int x1), (2, .long x2)]) rfl ?_
  refine J_aload_n dX4_add_0 0 rfl ?_
  refine J_iload_n dX4_add_1 1 rfl ?_
  refine J_iconst (v := nI 1) dX4_add_2 (by decide) ?_
  refine J_iconst (v := nI 1) dX4_add_3 (by decide) ?_
  refine J_lload_n dX4_add_4 2 rfl ?_
  obtain ⟨b9, F⟩ := F
  refine J_callV0 (ci := 4) (n := 4) (As := [.int x1, .int (nI 1), .int (nI 1), .long x2]) (rest := []) dX4_add_5 rfl gX4_add_X4_isRefused rfl (by decide +kernel) rfl (by decide) b9 (Nat.le_of_ble_eq_true rfl) (Nat.le_refl _) (Nat.le_refl _) F kI_no (kI_kk (fun v_2 h_1 F => ?_))
  refine J_if_eq (tgt := 13) dX4_add_8 (by decide) (fun c => ?_) (fun c => ?_)
  · replace F := F.1 c
    refine J_aload_n dX4_add_13 0 rfl ?_
    obtain ⟨v_3, g9, F⟩ := F
    refine J_get (ci := 4) (k := 22) dX4_add_14 rfl in_X4_add_4 (by decide) lk_X4_add_120 g9 ?_
    refine J_if_ge (tgt := 35) dX4_add_17 (by decide) (fun c => ?_) (fun c => ?_)
    · replace F := F.1 c
      refine J_aload_n dX4_add_35 0 rfl ?_
      obtain ⟨p_4, g9, F⟩ := F
      refine J_get (ci := 4) (k := 10) dX4_add_36 rfl in_X4_add_4 (by decide) lk_X4_add_35 g9 ?_
      refine J_aload_n dX4_add_39 0 rfl ?_
      obtain ⟨v_5, g9, F⟩ := F
      refine J_get (ci := 4) (k := 22) dX4_add_40 rfl in_X4_add_4 (by decide) lk_X4_add_120 g9 ?_
      obtain ⟨v_6, g9, F⟩ := F
      refine J_iald dX4_add_43 g9 ?_
      refine J_bipush (v := nI 10) dX4_add_44 (by decide) ?_
      refine J_icmp_ne (tgt := 52) dX4_add_46 (by decide) (fun c => ?_) (fun c => ?_)
      · replace F := F.1 c
        refine J_aload_n dX4_add_52 0 rfl ?_
        obtain ⟨v_7, g9, F⟩ := F
        refine J_get (ci := 4) (k := 22) dX4_add_53 rfl in_X4_add_4 (by decide) lk_X4_add_120 g9 ?_
        refine J_if_ge (tgt := 67) dX4_add_56 (by decide) (fun c => ?_) (fun c => ?_)
        · replace F := F.1 c
          refine J_aload_n dX4_add_67 0 rfl ?_
          obtain ⟨v_8, g9, F⟩ := F
          refine J_get (ci := 4) (k := 22) dX4_add_68 rfl in_X4_add_4 (by decide) lk_X4_add_120 g9 ?_
          refine J_istore (lv' := [(4, .int v_8), (0, .ref a0), (1, .int x1), (2, .long x2)]) dX4_add_71 (by decide) rfl ?_
          refine J_aload_n dX4_add_73 1 rfl ?_
          refine J_iload dX4_add_74 0 rfl ?_
          obtain ⟨b9, F⟩ := F
          refine J_callV0 (ci := 4) (n := 1) (As := [.int v_8]) (rest := []) dX4_add_76 rfl gX4_add_X4_touchOf rfl (by decide +kernel) rfl (by decide) b9 (Nat.le_of_ble_eq_true rfl) (Nat.le_refl _) (Nat.le_refl _) F kV_no (kV_kk (fun h_9 F => ?_))
          refine J_aload_n dX4_add_79 1 rfl ?_
          obtain ⟨p_10, g9, F⟩ := F
          refine J_get (ci := 4) (k := 11) dX4_add_80 rfl in_X4_add_4 (by decide) lk_X4_add_38 g9 ?_
          refine J_bipush (v := nI 10) dX4_add_83 (by decide) ?_
          refine J_iload dX4_add_85 0 rfl ?_
          refine J_imul dX4_add_87 ?_
          refine J_aload_n dX4_add_88 1 rfl ?_
          obtain ⟨p_11, g9, F⟩ := F
          refine J_get (ci := 4) (k := 10) dX4_add_89 rfl in_X4_add_4 (by decide) lk_X4_add_35 g9 ?_
          refine J_iload dX4_add_92 0 rfl ?_
          obtain ⟨v_12, g9, F⟩ := F
          refine J_iald dX4_add_94 g9 ?_
          refine J_iadd dX4_add_95 ?_
          refine J_lload_n dX4_add_96 3 rfl ?_
          obtain ⟨h_13, g9, F⟩ := F
          refine J_last dX4_add_97 g9 ?_
          refine J_aload_n dX4_add_98 1 rfl ?_
          obtain ⟨p_14, g9, F⟩ := F
          refine J_get (ci := 4) (k := 10) dX4_add_99 rfl in_X4_add_4 (by decide) lk_X4_add_35 g9 ?_
          refine J_iload dX4_add_102 0 rfl ?_
          refine J_dup2 dX4_add_104 rfl rfl ?_
          obtain ⟨v_15, g9, F⟩ := F
          refine J_iald dX4_add_105 g9 ?_
          refine J_iconst (v := nI 1) dX4_add_106 (by decide) ?_
          refine J_iadd dX4_add_107 ?_
          obtain ⟨h_16, g9, F⟩ := F
          refine J_iast dX4_add_108 g9 ?_
          refine J_aload_n dX4_add_109 1 rfl ?_
          obtain ⟨p_17, g9, F⟩ := F
          refine J_get (ci := 4) (k := 10) dX4_add_110 rfl in_X4_add_4 (by decide) lk_X4_add_35 g9 ?_
          refine J_iload dX4_add_113 0 rfl ?_
          obtain ⟨v_18, g9, F⟩ := F
          refine J_iald dX4_add_115 g9 ?_
          exact J_iret dX4_add_116 rfl (Nat.le_refl _) (Nat.le_refl _) F
        · replace F := F.2 c
          refine J_aload_n dX4_add_59 0 rfl ?_
          refine J_iload_n dX4_add_60 1 rfl ?_
          obtain ⟨b9, F⟩ := F
          refine J_callV0 (ci := 4) (n := 1) (As := [.int x1]) (rest := []) dX4_add_61 rfl gX4_add_X4_newEntry rfl (by decide +kernel) rfl (by decide) b9 (Nat.le_of_ble_eq_true rfl) (Nat.le_refl _) (Nat.le_refl _) F kI_no (kI_kk (fun v_20 h_19 F => ?_))
          refine J_goto (tgt := 71) dX4_add_64 (by decide) ?_
          refine J_istore (lv' := [(4, .int v_20), (0, .ref a0), (1, .int x1), (2, .long x2)]) dX4_add_71 (by decide) rfl ?_
          refine J_aload_n dX4_add_73 1 rfl ?_
          refine J_iload dX4_add_74 0 rfl ?_
          obtain ⟨b9, F⟩ := F
          refine J_callV0 (ci := 4) (n := 1) (As := [.int v_20]) (rest := []) dX4_add_76 rfl gX4_add_X4_touchOf rfl (by decide +kernel) rfl (by decide) b9 (Nat.le_of_ble_eq_true rfl) (Nat.le_refl _) (Nat.le_refl _) F kV_no (kV_kk (fun h_21 F => ?_))
          refine J_aload_n dX4_add_79 1 rfl ?_
          obtain ⟨p_22, g9, F⟩ := F
          refine J_get (ci := 4) (k := 11) dX4_add_80 rfl in_X4_add_4 (by decide) lk_X4_add_38 g9 ?_
          refine J_bipush (v := nI 10) dX4_add_83 (by decide) ?_
          refine J_iload dX4_add_85 0 rfl ?_
          refine J_imul dX4_add_87 ?_
          refine J_aload_n dX4_add_88 1 rfl ?_
          obtain ⟨p_23, g9, F⟩ := F
          refine J_get (ci := 4) (k := 10) dX4_add_89 rfl in_X4_add_4 (by decide) lk_X4_add_35 g9 ?_
          refine J_iload dX4_add_92 0 rfl ?_
          obtain ⟨v_24, g9, F⟩ := F
          refine J_iald dX4_add_94 g9 ?_
          refine J_iadd dX4_add_95 ?_
          refine J_lload_n dX4_add_96 3 rfl ?_
          obtain ⟨h_25, g9, F⟩ := F
          refine J_last dX4_add_97 g9 ?_
          refine J_aload_n dX4_add_98 1 rfl ?_
          obtain ⟨p_26, g9, F⟩ := F
          refine J_get (ci := 4) (k := 10) dX4_add_99 rfl in_X4_add_4 (by decide) lk_X4_add_35 g9 ?_
          refine J_iload dX4_add_102 0 rfl ?_
          refine J_dup2 dX4_add_104 rfl rfl ?_
          obtain ⟨v_27, g9, F⟩ := F
          refine J_iald dX4_add_105 g9 ?_
          refine J_iconst (v := nI 1) dX4_add_106 (by decide) ?_
          refine J_iadd dX4_add_107 ?_
          obtain ⟨h_28, g9, F⟩ := F
          refine J_iast dX4_add_108 g9 ?_
          refine J_aload_n dX4_add_109 1 rfl ?_
          obtain ⟨p_29, g9, F⟩ := F
          refine J_get (ci := 4) (k := 10) dX4_add_110 rfl in_X4_add_4 (by decide) lk_X4_add_35 g9 ?_
          refine J_iload dX4_add_113 0 rfl ?_
          obtain ⟨v_30, g9, F⟩ := F
          refine J_iald dX4_add_115 g9 ?_
          exact J_iret dX4_add_116 rfl (Nat.le_refl _) (Nat.le_refl _) F
      · replace F := F.2 c
        refine J_bipush (v := -nI 4) dX4_add_49 (by decide) ?_
        exact J_iret dX4_add_51 rfl (Nat.le_refl _) (Nat.le_refl _) F
    · replace F := F.2 c
      refine J_aload_n dX4_add_20 0 rfl ?_
      obtain ⟨p_31, g9, F⟩ := F
      refine J_get (ci := 4) (k := 6) dX4_add_21 rfl in_X4_add_4 (by decide) lk_X4_add_22 g9 ?_
      refine J_iconst (v := nI 0) dX4_add_24 (by decide) ?_
      obtain ⟨v_32, g9, F⟩ := F
      refine J_iald dX4_add_25 g9 ?_
      refine J_sipush (v := nI 150) dX4_add_26 (by decide) ?_
      refine J_icmp_ne (tgt := 52) dX4_add_29 (by decide) (fun c => ?_) (fun c => ?_)
      · replace F := F.1 c
        refine J_aload_n dX4_add_52 0 rfl ?_
        obtain ⟨v_33, g9, F⟩ := F
        refine J_get (ci := 4) (k := 22) dX4_add_53 rfl in_X4_add_4 (by decide) lk_X4_add_120 g9 ?_
        refine J_if_ge (tgt := 67) dX4_add_56 (by decide) (fun c => ?_) (fun c => ?_)
        · replace F := F.1 c
          refine J_aload_n dX4_add_67 0 rfl ?_
          obtain ⟨v_34, g9, F⟩ := F
          refine J_get (ci := 4) (k := 22) dX4_add_68 rfl in_X4_add_4 (by decide) lk_X4_add_120 g9 ?_
          refine J_istore (lv' := [(4, .int v_34), (0, .ref a0), (1, .int x1), (2, .long x2)]) dX4_add_71 (by decide) rfl ?_
          refine J_aload_n dX4_add_73 1 rfl ?_
          refine J_iload dX4_add_74 0 rfl ?_
          obtain ⟨b9, F⟩ := F
          refine J_callV0 (ci := 4) (n := 1) (As := [.int v_34]) (rest := []) dX4_add_76 rfl gX4_add_X4_touchOf rfl (by decide +kernel) rfl (by decide) b9 (Nat.le_of_ble_eq_true rfl) (Nat.le_refl _) (Nat.le_refl _) F kV_no (kV_kk (fun h_35 F => ?_))
          refine J_aload_n dX4_add_79 1 rfl ?_
          obtain ⟨p_36, g9, F⟩ := F
          refine J_get (ci := 4) (k := 11) dX4_add_80 rfl in_X4_add_4 (by decide) lk_X4_add_38 g9 ?_
          refine J_bipush (v := nI 10) dX4_add_83 (by decide) ?_
          refine J_iload dX4_add_85 0 rfl ?_
          refine J_imul dX4_add_87 ?_
          refine J_aload_n dX4_add_88 1 rfl ?_
          obtain ⟨p_37, g9, F⟩ := F
          refine J_get (ci := 4) (k := 10) dX4_add_89 rfl in_X4_add_4 (by decide) lk_X4_add_35 g9 ?_
          refine J_iload dX4_add_92 0 rfl ?_
          obtain ⟨v_38, g9, F⟩ := F
          refine J_iald dX4_add_94 g9 ?_
          refine J_iadd dX4_add_95 ?_
          refine J_lload_n dX4_add_96 3 rfl ?_
          obtain ⟨h_39, g9, F⟩ := F
          refine J_last dX4_add_97 g9 ?_
          refine J_aload_n dX4_add_98 1 rfl ?_
          obtain ⟨p_40, g9, F⟩ := F
          refine J_get (ci := 4) (k := 10) dX4_add_99 rfl in_X4_add_4 (by decide) lk_X4_add_35 g9 ?_
          refine J_iload dX4_add_102 0 rfl ?_
          refine J_dup2 dX4_add_104 rfl rfl ?_
          obtain ⟨v_41, g9, F⟩ := F
          refine J_iald dX4_add_105 g9 ?_
          refine J_iconst (v := nI 1) dX4_add_106 (by decide) ?_
          refine J_iadd dX4_add_107 ?_
          obtain ⟨h_42, g9, F⟩ := F
          refine J_iast dX4_add_108 g9 ?_
          refine J_aload_n dX4_add_109 1 rfl ?_
          obtain ⟨p_43, g9, F⟩ := F
          refine J_get (ci := 4) (k := 10) dX4_add_110 rfl in_X4_add_4 (by decide) lk_X4_add_35 g9 ?_
          refine J_iload dX4_add_113 0 rfl ?_
          obtain ⟨v_44, g9, F⟩ := F
          refine J_iald dX4_add_115 g9 ?_
          exact J_iret dX4_add_116 rfl (Nat.le_refl _) (Nat.le_refl _) F
        · replace F := F.2 c
          refine J_aload_n dX4_add_59 0 rfl ?_
          refine J_iload_n dX4_add_60 1 rfl ?_
          obtain ⟨b9, F⟩ := F
          refine J_callV0 (ci := 4) (n := 1) (As := [.int x1]) (rest := []) dX4_add_61 rfl gX4_add_X4_newEntry rfl (by decide +kernel) rfl (by decide) b9 (Nat.le_of_ble_eq_true rfl) (Nat.le_refl _) (Nat.le_refl _) F kI_no (kI_kk (fun v_46 h_45 F => ?_))
          refine J_goto (tgt := 71) dX4_add_64 (by decide) ?_
          refine J_istore (lv' := [(4, .int v_46), (0, .ref a0), (1, .int x1), (2, .long x2)]) dX4_add_71 (by decide) rfl ?_
          refine J_aload_n dX4_add_73 1 rfl ?_
          refine J_iload dX4_add_74 0 rfl ?_
          obtain ⟨b9, F⟩ := F
          refine J_callV0 (ci := 4) (n := 1) (As := [.int v_46]) (rest := []) dX4_add_76 rfl gX4_add_X4_touchOf rfl (by decide +kernel) rfl (by decide) b9 (Nat.le_of_ble_eq_true rfl) (Nat.le_refl _) (Nat.le_refl _) F kV_no (kV_kk (fun h_47 F => ?_))
          refine J_aload_n dX4_add_79 1 rfl ?_
          obtain ⟨p_48, g9, F⟩ := F
          refine J_get (ci := 4) (k := 11) dX4_add_80 rfl in_X4_add_4 (by decide) lk_X4_add_38 g9 ?_
          refine J_bipush (v := nI 10) dX4_add_83 (by decide) ?_
          refine J_iload dX4_add_85 0 rfl ?_
          refine J_imul dX4_add_87 ?_
          refine J_aload_n dX4_add_88 1 rfl ?_
          obtain ⟨p_49, g9, F⟩ := F
          refine J_get (ci := 4) (k := 10) dX4_add_89 rfl in_X4_add_4 (by decide) lk_X4_add_35 g9 ?_
          refine J_iload dX4_add_92 0 rfl ?_
          obtain ⟨v_50, g9, F⟩ := F
          refine J_iald dX4_add_94 g9 ?_
          refine J_iadd dX4_add_95 ?_
          refine J_lload_n dX4_add_96 3 rfl ?_
          obtain ⟨h_51, g9, F⟩ := F
          refine J_last dX4_add_97 g9 ?_
          refine J_aload_n dX4_add_98 1 rfl ?_
          obtain ⟨p_52, g9, F⟩ := F
          refine J_get (ci := 4) (k := 10) dX4_add_99 rfl in_X4_add_4 (by decide) lk_X4_add_35 g9 ?_
          refine J_iload dX4_add_102 0 rfl ?_
          refine J_dup2 dX4_add_104 rfl rfl ?_
          obtain ⟨v_53, g9, F⟩ := F
          refine J_iald dX4_add_105 g9 ?_
          refine J_iconst (v := nI 1) dX4_add_106 (by decide) ?_
          refine J_iadd dX4_add_107 ?_
          obtain ⟨h_54, g9, F⟩ := F
          refine J_iast dX4_add_108 g9 ?_
          refine J_aload_n dX4_add_109 1 rfl ?_
          obtain ⟨p_55, g9, F⟩ := F
          refine J_get (ci := 4) (k := 10) dX4_add_110 rfl in_X4_add_4 (by decide) lk_X4_add_35 g9 ?_
          refine J_iload dX4_add_113 0 rfl ?_
          obtain ⟨v_56, g9, F⟩ := F
          refine J_iald dX4_add_115 g9 ?_
          exact J_iret dX4_add_116 rfl (Nat.le_refl _) (Nat.le_refl _) F
      · replace F := F.2 c
        refine J_goto (tgt := 49) dX4_add_32 (by decide) ?_
        refine J_bipush (v := -nI 4) dX4_add_49 (by decide) ?_
        exact J_iret dX4_add_51 rfl (Nat.le_refl _) (Nat.le_refl _) F
  · replace F := F.2 c
    refine J_iconst (v := nI 0) dX4_add_11 (by decide) ?_
    exact J_iret dX4_add_12 rfl (Nat.le_refl _) (Nat.le_refl _) F

abbrev mX4_copyOf (l : Launch) (K : Kx) (As : List Value) (h : Hp) (Post : Rs → Hp → Prop) : Prop := MX l K yX4_copyOf wsX4_copyOf 0 0 0 0 As h Post
set_option maxRecDepth 100000 in
set_option maxHeartbeats 4000000 in
theorem fX4_copyOf {l : Launch} {K : Kx} {a0 : Nat} {x1 : Int32} {h : Hp} {Post : Rs → Hp → Prop} (htr : l.stackTraces = false)
    (F : (∀ X_2 : Int32 → Prop, (∀ (i_1 : Int32), (((i_1 ≤ nI 0 → (Post (.inl (some (.int i_1))) h)) ∧ (¬ i_1 ≤ nI 0 → (∃ p_3, gf h a0 4 14 = some (.ref p_3) ∧ (∃ v_4, aZ K h p_3 i_1 = some v_4 ∧ ((v_4 = nI 0 → X_2 (i_1 + (-nI 1))) ∧ (¬ v_4 = nI 0 → (∃ p_5, gf h a0 4 15 = some (.ref p_5) ∧ (∃ v_6, aI K h p_5 i_1 = some v_6 ∧ ((v_6 = x1 → (Post (.inl (some (.int i_1))) h)) ∧ (¬ v_6 = x1 → X_2 (i_1 + (-nI 1))))))))))))) → X_2 i_1) → X_2 (nI 6))) :
    mX4_copyOf l K [.ref a0, .int x1] h Post := by
  refine MX.enter htr (by decide) rfl (Nat.le_of_ble_eq_true rfl) ?_
  refine J_lveq (lv' := [(0, .ref a0), (1, .int x1)]) rfl ?_
  refine J_bipush (v := nI 6) dX4_copyOf_0 (by decide) ?_
  refine J_istore_n (lv' := [(2, .int (nI 6)), (0, .ref a0), (1, .int x1)]) dX4_copyOf_2 rfl (by decide) rfl ?_
  refine J_sub [1, 2, 0] rfl ?_
  refine F (fun (i_1 : Int32) => J l K yX4_copyOf.cls cX4_copyOf 3 (some .int) wsX4_copyOf [] yX4_copyOf.name 0 0 0 0 (QM K 0 0 Post) 3 [] [(0, .ref a0), (1, .int x1), (2, .int i_1)] h 0 0) ?_
  intro i_1 F
  refine J_iload_n dX4_copyOf_3 2 rfl ?_
  refine J_if_le (tgt := 32) dX4_copyOf_4 (by decide) (fun c => ?_) (fun c => ?_)
  · replace F := F.1 c
    refine J_iload_n dX4_copyOf_32 2 rfl ?_
    exact J_iret dX4_copyOf_33 rfl (Nat.le_refl _) (Nat.le_refl _) F
  · replace F := F.2 c
    refine J_aload_n dX4_copyOf_7 0 rfl ?_
    obtain ⟨p_3, g9, F⟩ := F
    refine J_get (ci := 4) (k := 14) dX4_copyOf_8 rfl in_X4_copyOf_4 (by decide) lk_X4_copyOf_47 g9 ?_
    refine J_iload_n dX4_copyOf_11 2 rfl ?_
    obtain ⟨v_4, g9, F⟩ := F
    refine J_zald dX4_copyOf_12 g9 ?_
    refine J_if_eq (tgt := 26) dX4_copyOf_13 (by decide) (fun c => ?_) (fun c => ?_)
    · replace F := F.1 c
      refine J_iinc (v := i_1 + (-nI 1)) (lv' := [(2, .int (i_1 + (-nI 1))), (0, .ref a0), (1, .int x1)]) dX4_copyOf_26 2 rfl rfl (by decide) rfl ?_
      refine J_goto (tgt := 3) dX4_copyOf_29 (by decide) ?_
      exact J_sub [1, 2, 0] rfl F
    · replace F := F.2 c
      refine J_aload_n dX4_copyOf_16 0 rfl ?_
      obtain ⟨p_5, g9, F⟩ := F
      refine J_get (ci := 4) (k := 15) dX4_copyOf_17 rfl in_X4_copyOf_4 (by decide) lk_X4_copyOf_51 g9 ?_
      refine J_iload_n dX4_copyOf_20 2 rfl ?_
      obtain ⟨v_6, g9, F⟩ := F
      refine J_iald dX4_copyOf_21 g9 ?_
      refine J_iload_n dX4_copyOf_22 1 rfl ?_
      refine J_icmp_eq (tgt := 32) dX4_copyOf_23 (by decide) (fun c => ?_) (fun c => ?_)
      · replace F := F.1 c
        refine J_iload_n dX4_copyOf_32 2 rfl ?_
        exact J_iret dX4_copyOf_33 rfl (Nat.le_refl _) (Nat.le_refl _) F
      · replace F := F.2 c
        refine J_iinc (v := i_1 + (-nI 1)) (lv' := [(2, .int (i_1 + (-nI 1))), (0, .ref a0), (1, .int x1)]) dX4_copyOf_26 2 rfl rfl (by decide) rfl ?_
        refine J_goto (tgt := 3) dX4_copyOf_29 (by decide) ?_
        exact J_sub [1, 2, 0] rfl F

abbrev mX4_fails (l : Launch) (K : Kx) (As : List Value) (h : Hp) (Post : Rs → Hp → Prop) : Prop := MX l K yX4_fails wsX4_fails 0 0 0 0 As h Post
set_option maxRecDepth 100000 in
set_option maxHeartbeats 4000000 in
theorem fX4_fails {l : Launch} {K : Kx} {a0 : Nat} {x1 : Int32} {h : Hp} {Post : Rs → Hp → Prop} (htr : l.stackTraces = false)
    (F : (∃ h_1, pf h a0 4 0 (.int x1) = some h_1 ∧ (Post (.inl (some (.int (nI 0)))) h_1))) :
    mX4_fails l K [.ref a0, .int x1] h Post := by
  refine MX.enter htr (by decide) rfl (Nat.le_of_ble_eq_true rfl) ?_
  refine J_lveq (lv' := [(0, .ref a0), (1, .int x1)]) rfl ?_
  refine J_aload_n dX4_fails_0 0 rfl ?_
  refine J_iload_n dX4_fails_1 1 rfl ?_
  obtain ⟨h_1, g9, F⟩ := F
  refine J_put (ci := 4) (k := 0) dX4_fails_2 rfl in_X4_fails_4 tyX4 tyX4_ok nmX4 (by decide) lk_X4_fails_58 rfl rfl rfl rfl g9 ?_
  refine J_iconst (v := nI 0) dX4_fails_5 (by decide) ?_
  exact J_iret dX4_fails_6 rfl (Nat.le_refl _) (Nat.le_refl _) F

abbrev mX4_numbersOf (l : Launch) (K : Kx) (As : List Value) (h : Hp) (Post : Rs → Hp → Prop) : Prop := MX l K yX4_numbersOf wsX4_numbersOf 0 0 0 0 As h Post
set_option maxRecDepth 100000 in
set_option maxHeartbeats 4000000 in
theorem fX4_numbersOf {l : Launch} {K : Kx} {a0 : Nat} {x1 : Int32} {x2 : Int32} {h : Hp} {Post : Rs → Hp → Prop} (htr : l.stackTraces = false)
    (F : (∃ p_1, gf h a0 4 3 = some (.ref p_1) ∧ (∃ p_2, gf h a0 4 7 = some (.ref p_2) ∧ (∃ v_3, aI K h p_2 x2 = some v_3 ∧ (∃ v_4, aI K h p_1 (((nI 8) * x1) + v_3) = some v_4 ∧ ((v_4 = nI 0 → (Post (.inl (some (.int (nI 1)))) h)) ∧ (¬ v_4 = nI 0 → ((¬ v_4 = (nI 3) → (∃ p_5, gf h a0 4 10 = some (.ref p_5) ∧ (∃ v_6, aI K h p_5 x2 = some v_6 ∧ (Post (.inl (some (.int v_6))) h)))) ∧ (v_4 = (nI 3) → (Post (.inl (some (.int (nI 1)))) h)))))))))) :
    mX4_numbersOf l K [.ref a0, .int x1, .int x2] h Post := by
  refine MX.enter htr (by decide) rfl (Nat.le_of_ble_eq_true rfl) ?_
  refine J_lveq (lv' := [(0, .ref a0), (1, .int x1), (2, .int x2)]) rfl ?_
  refine J_aload_n dX4_numbersOf_0 0 rfl ?_
  obtain ⟨p_1, g9, F⟩ := F
  refine J_get (ci := 4) (k := 3) dX4_numbersOf_1 rfl in_X4_numbersOf_4 (by decide) lk_X4_numbersOf_13 g9 ?_
  refine J_bipush (v := nI 8) dX4_numbersOf_4 (by decide) ?_
  refine J_iload_n dX4_numbersOf_6 1 rfl ?_
  refine J_imul dX4_numbersOf_7 ?_
  refine J_aload_n dX4_numbersOf_8 0 rfl ?_
  obtain ⟨p_2, g9, F⟩ := F
  refine J_get (ci := 4) (k := 7) dX4_numbersOf_9 rfl in_X4_numbersOf_4 (by decide) lk_X4_numbersOf_25 g9 ?_
  refine J_iload_n dX4_numbersOf_12 2 rfl ?_
  obtain ⟨v_3, g9, F⟩ := F
  refine J_iald dX4_numbersOf_13 g9 ?_
  refine J_iadd dX4_numbersOf_14 ?_
  obtain ⟨v_4, g9, F⟩ := F
  refine J_iald dX4_numbersOf_15 g9 ?_
  refine J_istore_n (lv' := [(3, .int v_4), (0, .ref a0), (1, .int x1), (2, .int x2)]) dX4_numbersOf_16 rfl (by decide) rfl ?_
  refine J_iload_n dX4_numbersOf_17 0 rfl ?_
  refine J_if_eq (tgt := 26) dX4_numbersOf_18 (by decide) (fun c => ?_) (fun c => ?_)
  · replace F := F.1 c
    refine J_iconst (v := nI 1) dX4_numbersOf_26 (by decide) ?_
    refine J_goto (tgt := 36) dX4_numbersOf_27 (by decide) ?_
    exact J_iret dX4_numbersOf_36 rfl (Nat.le_refl _) (Nat.le_refl _) F
  · replace F := F.2 c
    refine J_iload_n dX4_numbersOf_21 0 rfl ?_
    refine J_iconst (v := nI 3) dX4_numbersOf_22 (by decide) ?_
    refine J_icmp_ne (tgt := 30) dX4_numbersOf_23 (by decide) (fun c => ?_) (fun c => ?_)
    · replace F := F.1 c
      refine J_aload_n dX4_numbersOf_30 1 rfl ?_
      obtain ⟨p_5, g9, F⟩ := F
      refine J_get (ci := 4) (k := 10) dX4_numbersOf_31 rfl in_X4_numbersOf_4 (by decide) lk_X4_numbersOf_35 g9 ?_
      refine J_iload_n dX4_numbersOf_34 3 rfl ?_
      obtain ⟨v_6, g9, F⟩ := F
      refine J_iald dX4_numbersOf_35 g9 ?_
      exact J_iret dX4_numbersOf_36 rfl (Nat.le_refl _) (Nat.le_refl _) F
    · replace F := F.2 c
      refine J_iconst (v := nI 1) dX4_numbersOf_26 (by decide) ?_
      refine J_goto (tgt := 36) dX4_numbersOf_27 (by decide) ?_
      exact J_iret dX4_numbersOf_36 rfl (Nat.le_refl _) (Nat.le_refl _) F

abbrev mX4_ask (l : Launch) (K : Kx) (As : List Value) (h : Hp) (Post : Rs → Hp → Prop) : Prop := MX l K yX4_ask wsX4_ask 1 26 0 0 As h Post
set_option maxRecDepth 100000 in
set_option maxHeartbeats 4000000 in
theorem fX4_ask {l : Launch} {K : Kx} {a0 : Nat} {x1 : Int32} {x2 : Int32} {x3 : Int64} {x4 : Int32} {x5 : Int32} {h : Hp} {Post : Rs → Hp → Prop} (htr : l.stackTraces = false)
    (F : (∃ h_1, pf h a0 4 0 (.int (nI 0)) = some h_1 ∧ ((¬ x1 = (-nI 1) → ((∃ fs, h_1 a0 = some (xO 4 fs)) ∧ mX4_copyOf l K [.ref a0, .int x1] h_1 (kI (fun v_3 h_2 => ((∃ fs, h_2 a0 = some (xO 4 fs)) ∧ mX4_isState l K [.ref a0, .int x2] h_2 (kI (fun v_5 h_4 => ((v_5 = nI 0 → ((∃ fs, h_4 a0 = some (xO 4 fs)) ∧ mX4_fails l K [.ref a0, .int (nI 1)] h_4 (kI (fun v_7 h_6 => (Post (.inl (some (.long v_7.toInt64))) h_6))))) ∧ (¬ v_5 = nI 0 → ((x1 = (-nI 1) → ((∃ fs, h_4 a0 = some (xO 4 fs)) ∧ mX4_find l K [.ref a0, .int v_3, .int x2, .long x3, .int x4] h_4 (kI (fun v_9 h_8 => ((v_9 < nI 0 → ((∃ fs, h_8 a0 = some (xO 4 fs)) ∧ mX4_fails l K [.ref a0, .int (nI 2)] h_8 (kI (fun v_11 h_10 => (Post (.inl (some (.long v_11.toInt64))) h_10))))) ∧ (¬ v_9 < nI 0 → ((x5 < nI 0 → ((∃ fs, h_8 a0 = some (xO 4 fs)) ∧ mX4_fails l K [.ref a0, .int (nI 2)] h_8 (kI (fun v_13 h_12 => (Post (.inl (some (.long v_13.toInt64))) h_12))))) ∧ (¬ x5 < nI 0 → ((∃ fs, h_8 a0 = some (xO 4 fs)) ∧ mX4_numbersOf l K [.ref a0, .int v_3, .int v_9] h_8 (kI (fun v_15 h_14 => ((x5 < v_15 → (∃ p_16, gf h_14 a0 4 11 = some (.ref p_16) ∧ (∃ u_17, aJ K h_14 p_16 (((nI 10) * v_9) + x5) = some u_17 ∧ (Post (.inl (some (.long u_17))) h_14)))) ∧ (¬ x5 < v_15 → ((∃ fs, h_14 a0 = some (xO 4 fs)) ∧ mX4_fails l K [.ref a0, .int (nI 2)] h_14 (kI (fun v_19 h_18 => (Post (.inl (some (.long v_19.toInt64))) h_18))))))))))))))))) ∧ (¬ x1 = (-nI 1) → ((¬ v_3 = nI 0 → ((∃ fs, h_4 a0 = some (xO 4 fs)) ∧ mX4_find l K [.ref a0, .int v_3, .int x2, .long x3, .int x4] h_4 (kI (fun v_21 h_20 => ((v_21 < nI 0 → ((∃ fs, h_20 a0 = some (xO 4 fs)) ∧ mX4_fails l K [.ref a0, .int (nI 2)] h_20 (kI (fun v_23 h_22 => (Post (.inl (some (.long v_23.toInt64))) h_22))))) ∧ (¬ v_21 < nI 0 → ((x5 < nI 0 → ((∃ fs, h_20 a0 = some (xO 4 fs)) ∧ mX4_fails l K [.ref a0, .int (nI 2)] h_20 (kI (fun v_25 h_24 => (Post (.inl (some (.long v_25.toInt64))) h_24))))) ∧ (¬ x5 < nI 0 → ((∃ fs, h_20 a0 = some (xO 4 fs)) ∧ mX4_numbersOf l K [.ref a0, .int v_3, .int v_21] h_20 (kI (fun v_27 h_26 => ((x5 < v_27 → (∃ p_28, gf h_26 a0 4 11 = some (.ref p_28) ∧ (∃ u_29, aJ K h_26 p_28 (((nI 10) * v_21) + x5) = some u_29 ∧ (Post (.inl (some (.long u_29))) h_26)))) ∧ (¬ x5 < v_27 → ((∃ fs, h_26 a0 = some (xO 4 fs)) ∧ mX4_fails l K [.ref a0, .int (nI 2)] h_26 (kI (fun v_31 h_30 => (Post (.inl (some (.long v_31.toInt64))) h_30))))))))))))))))) ∧ (v_3 = nI 0 → ((∃ fs, h_4 a0 = some (xO 4 fs)) ∧ mX4_fails l K [.ref a0, .int (nI 1)] h_4 (kI (fun v_33 h_32 => (Post (.inl (some (.long v_33.toInt64))) h_32))))))))))))))))) ∧ (x1 = (-nI 1) → ((∃ fs, h_1 a0 = some (xO 4 fs)) ∧ mX4_isState l K [.ref a0, .int x2] h_1 (kI (fun v_35 h_34 => ((v_35 = nI 0 → ((∃ fs, h_34 a0 = some (xO 4 fs)) ∧ mX4_fails l K [.ref a0, .int (nI 1)] h_34 (kI (fun v_37 h_36 => (Post (.inl (some (.long v_37.toInt64))) h_36))))) ∧ (¬ v_35 = nI 0 → ((x1 = (-nI 1) → ((∃ fs, h_34 a0 = some (xO 4 fs)) ∧ mX4_find l K [.ref a0, .int (nI 0), .int x2, .long x3, .int x4] h_34 (kI (fun v_39 h_38 => ((v_39 < nI 0 → ((∃ fs, h_38 a0 = some (xO 4 fs)) ∧ mX4_fails l K [.ref a0, .int (nI 2)] h_38 (kI (fun v_41 h_40 => (Post (.inl (some (.long v_41.toInt64))) h_40))))) ∧ (¬ v_39 < nI 0 → ((x5 < nI 0 → ((∃ fs, h_38 a0 = some (xO 4 fs)) ∧ mX4_fails l K [.ref a0, .int (nI 2)] h_38 (kI (fun v_43 h_42 => (Post (.inl (some (.long v_43.toInt64))) h_42))))) ∧ (¬ x5 < nI 0 → ((∃ fs, h_38 a0 = some (xO 4 fs)) ∧ mX4_numbersOf l K [.ref a0, .int (nI 0), .int v_39] h_38 (kI (fun v_45 h_44 => ((x5 < v_45 → (∃ p_46, gf h_44 a0 4 11 = some (.ref p_46) ∧ (∃ u_47, aJ K h_44 p_46 (((nI 10) * v_39) + x5) = some u_47 ∧ (Post (.inl (some (.long u_47))) h_44)))) ∧ (¬ x5 < v_45 → ((∃ fs, h_44 a0 = some (xO 4 fs)) ∧ mX4_fails l K [.ref a0, .int (nI 2)] h_44 (kI (fun v_49 h_48 => (Post (.inl (some (.long v_49.toInt64))) h_48))))))))))))))))) ∧ (¬ x1 = (-nI 1) → ((¬ (nI 0) = nI 0 → ((∃ fs, h_34 a0 = some (xO 4 fs)) ∧ mX4_find l K [.ref a0, .int (nI 0), .int x2, .long x3, .int x4] h_34 (kI (fun v_51 h_50 => ((v_51 < nI 0 → ((∃ fs, h_50 a0 = some (xO 4 fs)) ∧ mX4_fails l K [.ref a0, .int (nI 2)] h_50 (kI (fun v_53 h_52 => (Post (.inl (some (.long v_53.toInt64))) h_52))))) ∧ (¬ v_51 < nI 0 → ((x5 < nI 0 → ((∃ fs, h_50 a0 = some (xO 4 fs)) ∧ mX4_fails l K [.ref a0, .int (nI 2)] h_50 (kI (fun v_55 h_54 => (Post (.inl (some (.long v_55.toInt64))) h_54))))) ∧ (¬ x5 < nI 0 → ((∃ fs, h_50 a0 = some (xO 4 fs)) ∧ mX4_numbersOf l K [.ref a0, .int (nI 0), .int v_51] h_50 (kI (fun v_57 h_56 => ((x5 < v_57 → (∃ p_58, gf h_56 a0 4 11 = some (.ref p_58) ∧ (∃ u_59, aJ K h_56 p_58 (((nI 10) * v_51) + x5) = some u_59 ∧ (Post (.inl (some (.long u_59))) h_56)))) ∧ (¬ x5 < v_57 → ((∃ fs, h_56 a0 = some (xO 4 fs)) ∧ mX4_fails l K [.ref a0, .int (nI 2)] h_56 (kI (fun v_61 h_60 => (Post (.inl (some (.long v_61.toInt64))) h_60))))))))))))))))) ∧ ((nI 0) = nI 0 → ((∃ fs, h_34 a0 = some (xO 4 fs)) ∧ mX4_fails l K [.ref a0, .int (nI 1)] h_34 (kI (fun v_63 h_62 => (Post (.inl (some (.long v_63.toInt64))) h_62))))))))))))))))) :
    mX4_ask l K [.ref a0, .int x1, .int x2, .long x3, .int x4, .int x5] h Post := by
  refine MX.enter htr (by decide) rfl (Nat.le_of_ble_eq_true rfl) ?_
  refine J_lveq (lv' := [(0, .ref a0), (1, .int x1), (2, .int x2), (3, .long x3), (5, .int x4), (6, .int x5)]) rfl ?_
  refine J_aload_n dX4_ask_0 0 rfl ?_
  refine J_iconst (v := nI 0) dX4_ask_1 (by decide) ?_
  obtain ⟨h_1, g9, F⟩ := F
  refine J_put (ci := 4) (k := 0) dX4_ask_2 rfl in_X4_ask_4 tyX4 tyX4_ok nmX4 (by decide) lk_X4_ask_58 rfl rfl rfl rfl g9 ?_
  refine J_iload_n dX4_ask_5 1 rfl ?_
  refine J_iconst (v := -nI 1) dX4_ask_6 (by decide) ?_
  refine J_icmp_ne (tgt := 14) dX4_ask_7 (by decide) (fun c => ?_) (fun c => ?_)
  · replace F := F.1 c
    refine J_aload_n dX4_ask_14 0 rfl ?_
    refine J_iload_n dX4_ask_15 1 rfl ?_
    obtain ⟨b9, F⟩ := F
    refine J_callV0 (ci := 4) (n := 1) (As := [.int x1]) (rest := []) dX4_ask_16 rfl gX4_ask_X4_copyOf rfl (by decide +kernel) rfl (by decide) b9 (Nat.le_of_ble_eq_true rfl) (Nat.le_refl _) (Nat.le_refl _) F kI_no (kI_kk (fun v_3 h_2 F => ?_))
    refine J_istore (lv' := [(7, .int v_3), (0, .ref a0), (1, .int x1), (2, .int x2), (3, .long x3), (5, .int x4), (6, .int x5)]) dX4_ask_19 (by decide) rfl ?_
    refine J_aload_n dX4_ask_21 1 rfl ?_
    refine J_iload_n dX4_ask_22 3 rfl ?_
    obtain ⟨b9, F⟩ := F
    refine J_callV0 (ci := 4) (n := 1) (As := [.int x2]) (rest := []) dX4_ask_23 rfl gX4_ask_X4_isState rfl (by decide +kernel) rfl (by decide) b9 (Nat.le_of_ble_eq_true rfl) (Nat.le_refl _) (Nat.le_refl _) F kI_no (kI_kk (fun v_5 h_4 F => ?_))
    refine J_if_eq (tgt := 39) dX4_ask_26 (by decide) (fun c => ?_) (fun c => ?_)
    · replace F := F.1 c
      refine J_aload_n dX4_ask_39 1 rfl ?_
      refine J_iconst (v := nI 1) dX4_ask_40 (by decide) ?_
      obtain ⟨b9, F⟩ := F
      refine J_callV0 (ci := 4) (n := 1) (As := [.int (nI 1)]) (rest := []) dX4_ask_41 rfl gX4_ask_X4_fails rfl (by decide +kernel) rfl (by decide) b9 (Nat.le_of_ble_eq_true rfl) (Nat.le_refl _) (Nat.le_refl _) F kI_no (kI_kk (fun v_7 h_6 F => ?_))
      refine J_i2l dX4_ask_44 ?_
      exact J_lret dX4_ask_45 rfl (Nat.le_refl _) (Nat.le_refl _) F
    · replace F := F.2 c
      refine J_iload_n dX4_ask_29 2 rfl ?_
      refine J_iconst (v := -nI 1) dX4_ask_30 (by decide) ?_
      refine J_icmp_eq (tgt := 46) dX4_ask_31 (by decide) (fun c => ?_) (fun c => ?_)
      · replace F := F.1 c
        refine J_aload_n dX4_ask_46 1 rfl ?_
        refine J_iload dX4_ask_47 0 rfl ?_
        refine J_iload_n dX4_ask_49 3 rfl ?_
        refine J_lload_n dX4_ask_50 4 rfl ?_
        refine J_iload dX4_ask_51 5 rfl ?_
        obtain ⟨b9, F⟩ := F
        refine J_callV0 (ci := 4) (n := 4) (As := [.int v_3, .int x2, .long x3, .int x4]) (rest := []) dX4_ask_53 rfl gX4_ask_X4_find rfl (by decide +kernel) rfl (by decide) b9 (Nat.le_of_ble_eq_true rfl) (Nat.le_refl _) (Nat.le_refl _) F kI_no (kI_kk (fun v_9 h_8 F => ?_))
        refine J_istore (lv' := [(8, .int v_9), (7, .int v_3), (0, .ref a0), (1, .int x1), (2, .int x2), (3, .long x3), (5, .int x4), (6, .int x5)]) dX4_ask_56 (by decide) rfl ?_
        refine J_iload dX4_ask_58 0 rfl ?_
        refine J_if_lt (tgt := 81) dX4_ask_60 (by decide) (fun c => ?_) (fun c => ?_)
        · replace F := F.1 c
          refine J_aload_n dX4_ask_81 2 rfl ?_
          refine J_iconst (v := nI 2) dX4_ask_82 (by decide) ?_
          obtain ⟨b9, F⟩ := F
          refine J_callV0 (ci := 4) (n := 1) (As := [.int (nI 2)]) (rest := []) dX4_ask_83 rfl gX4_ask_X4_fails rfl (by decide +kernel) rfl (by decide) b9 (Nat.le_of_ble_eq_true rfl) (Nat.le_refl _) (Nat.le_refl _) F kI_no (kI_kk (fun v_11 h_10 F => ?_))
          refine J_i2l dX4_ask_86 ?_
          refine J_goto (tgt := 103) dX4_ask_87 (by decide) ?_
          exact J_lret dX4_ask_103 rfl (Nat.le_refl _) (Nat.le_refl _) F
        · replace F := F.2 c
          refine J_iload dX4_ask_63 7 rfl ?_
          refine J_if_lt (tgt := 81) dX4_ask_65 (by decide) (fun c => ?_) (fun c => ?_)
          · replace F := F.1 c
            refine J_aload_n dX4_ask_81 2 rfl ?_
            refine J_iconst (v := nI 2) dX4_ask_82 (by decide) ?_
            obtain ⟨b9, F⟩ := F
            refine J_callV0 (ci := 4) (n := 1) (As := [.int (nI 2)]) (rest := []) dX4_ask_83 rfl gX4_ask_X4_fails rfl (by decide +kernel) rfl (by decide) b9 (Nat.le_of_ble_eq_true rfl) (Nat.le_refl _) (Nat.le_refl _) F kI_no (kI_kk (fun v_13 h_12 F => ?_))
            refine J_i2l dX4_ask_86 ?_
            refine J_goto (tgt := 103) dX4_ask_87 (by decide) ?_
            exact J_lret dX4_ask_103 rfl (Nat.le_refl _) (Nat.le_refl _) F
          · replace F := F.2 c
            refine J_iload dX4_ask_68 7 rfl ?_
            refine J_aload_n dX4_ask_70 2 rfl ?_
            refine J_iload dX4_ask_71 1 rfl ?_
            refine J_iload dX4_ask_73 0 rfl ?_
            obtain ⟨b9, F⟩ := F
            refine J_callV0 (ci := 4) (n := 2) (As := [.int v_3, .int v_9]) (rest := [.int x5]) dX4_ask_75 rfl gX4_ask_X4_numbersOf rfl (by decide +kernel) rfl (by decide) b9 (Nat.le_of_ble_eq_true rfl) (Nat.le_refl _) (Nat.le_refl _) F kI_no (kI_kk (fun v_15 h_14 F => ?_))
            refine J_icmp_lt (tgt := 90) dX4_ask_78 (by decide) (fun c => ?_) (fun c => ?_)
            · replace F := F.1 c
              refine J_aload_n dX4_ask_90 2 rfl ?_
              obtain ⟨p_16, g9, F⟩ := F
              refine J_get (ci := 4) (k := 11) dX4_ask_91 rfl in_X4_ask_4 (by decide) lk_X4_ask_38 g9 ?_
              refine J_bipush (v := nI 10) dX4_ask_94 (by decide) ?_
              refine J_iload dX4_ask_96 0 rfl ?_
              refine J_imul dX4_ask_98 ?_
              refine J_iload dX4_ask_99 7 rfl ?_
              refine J_iadd dX4_ask_101 ?_
              obtain ⟨u_17, g9, F⟩ := F
              refine J_lald dX4_ask_102 g9 ?_
              exact J_lret dX4_ask_103 rfl (Nat.le_refl _) (Nat.le_refl _) F
            · replace F := F.2 c
              refine J_aload_n dX4_ask_81 2 rfl ?_
              refine J_iconst (v := nI 2) dX4_ask_82 (by decide) ?_
              obtain ⟨b9, F⟩ := F
              refine J_callV0 (ci := 4) (n := 1) (As := [.int (nI 2)]) (rest := []) dX4_ask_83 rfl gX4_ask_X4_fails rfl (by decide +kernel) rfl (by decide) b9 (Nat.le_of_ble_eq_true rfl) (Nat.le_refl _) (Nat.le_refl _) F kI_no (kI_kk (fun v_19 h_18 F => ?_))
              refine J_i2l dX4_ask_86 ?_
              refine J_goto (tgt := 103) dX4_ask_87 (by decide) ?_
              exact J_lret dX4_ask_103 rfl (Nat.le_refl _) (Nat.le_refl _) F
      · replace F := F.2 c
        refine J_iload dX4_ask_34 0 rfl ?_
        refine J_if_ne (tgt := 46) dX4_ask_36 (by decide) (fun c => ?_) (fun c => ?_)
        · replace F := F.1 c
          refine J_aload_n dX4_ask_46 1 rfl ?_
          refine J_iload dX4_ask_47 0 rfl ?_
          refine J_iload_n dX4_ask_49 3 rfl ?_
          refine J_lload_n dX4_ask_50 4 rfl ?_
          refine J_iload dX4_ask_51 5 rfl ?_
          obtain ⟨b9, F⟩ := F
          refine J_callV0 (ci := 4) (n := 4) (As := [.int v_3, .int x2, .long x3, .int x4]) (rest := []) dX4_ask_53 rfl gX4_ask_X4_find rfl (by decide +kernel) rfl (by decide) b9 (Nat.le_of_ble_eq_true rfl) (Nat.le_refl _) (Nat.le_refl _) F kI_no (kI_kk (fun v_21 h_20 F => ?_))
          refine J_istore (lv' := [(8, .int v_21), (7, .int v_3), (0, .ref a0), (1, .int x1), (2, .int x2), (3, .long x3), (5, .int x4), (6, .int x5)]) dX4_ask_56 (by decide) rfl ?_
          refine J_iload dX4_ask_58 0 rfl ?_
          refine J_if_lt (tgt := 81) dX4_ask_60 (by decide) (fun c => ?_) (fun c => ?_)
          · replace F := F.1 c
            refine J_aload_n dX4_ask_81 2 rfl ?_
            refine J_iconst (v := nI 2) dX4_ask_82 (by decide) ?_
            obtain ⟨b9, F⟩ := F
            refine J_callV0 (ci := 4) (n := 1) (As := [.int (nI 2)]) (rest := []) dX4_ask_83 rfl gX4_ask_X4_fails rfl (by decide +kernel) rfl (by decide) b9 (Nat.le_of_ble_eq_true rfl) (Nat.le_refl _) (Nat.le_refl _) F kI_no (kI_kk (fun v_23 h_22 F => ?_))
            refine J_i2l dX4_ask_86 ?_
            refine J_goto (tgt := 103) dX4_ask_87 (by decide) ?_
            exact J_lret dX4_ask_103 rfl (Nat.le_refl _) (Nat.le_refl _) F
          · replace F := F.2 c
            refine J_iload dX4_ask_63 7 rfl ?_
            refine J_if_lt (tgt := 81) dX4_ask_65 (by decide) (fun c => ?_) (fun c => ?_)
            · replace F := F.1 c
              refine J_aload_n dX4_ask_81 2 rfl ?_
              refine J_iconst (v := nI 2) dX4_ask_82 (by decide) ?_
              obtain ⟨b9, F⟩ := F
              refine J_callV0 (ci := 4) (n := 1) (As := [.int (nI 2)]) (rest := []) dX4_ask_83 rfl gX4_ask_X4_fails rfl (by decide +kernel) rfl (by decide) b9 (Nat.le_of_ble_eq_true rfl) (Nat.le_refl _) (Nat.le_refl _) F kI_no (kI_kk (fun v_25 h_24 F => ?_))
              refine J_i2l dX4_ask_86 ?_
              refine J_goto (tgt := 103) dX4_ask_87 (by decide) ?_
              exact J_lret dX4_ask_103 rfl (Nat.le_refl _) (Nat.le_refl _) F
            · replace F := F.2 c
              refine J_iload dX4_ask_68 7 rfl ?_
              refine J_aload_n dX4_ask_70 2 rfl ?_
              refine J_iload dX4_ask_71 1 rfl ?_
              refine J_iload dX4_ask_73 0 rfl ?_
              obtain ⟨b9, F⟩ := F
              refine J_callV0 (ci := 4) (n := 2) (As := [.int v_3, .int v_21]) (rest := [.int x5]) dX4_ask_75 rfl gX4_ask_X4_numbersOf rfl (by decide +kernel) rfl (by decide) b9 (Nat.le_of_ble_eq_true rfl) (Nat.le_refl _) (Nat.le_refl _) F kI_no (kI_kk (fun v_27 h_26 F => ?_))
              refine J_icmp_lt (tgt := 90) dX4_ask_78 (by decide) (fun c => ?_) (fun c => ?_)
              · replace F := F.1 c
                refine J_aload_n dX4_ask_90 2 rfl ?_
                obtain ⟨p_28, g9, F⟩ := F
                refine J_get (ci := 4) (k := 11) dX4_ask_91 rfl in_X4_ask_4 (by decide) lk_X4_ask_38 g9 ?_
                refine J_bipush (v := nI 10) dX4_ask_94 (by decide) ?_
                refine J_iload dX4_ask_96 0 rfl ?_
                refine J_imul dX4_ask_98 ?_
                refine J_iload dX4_ask_99 7 rfl ?_
                refine J_iadd dX4_ask_101 ?_
                obtain ⟨u_29, g9, F⟩ := F
                refine J_lald dX4_ask_102 g9 ?_
                exact J_lret dX4_ask_103 rfl (Nat.le_refl _) (Nat.le_refl _) F
              · replace F := F.2 c
                refine J_aload_n dX4_ask_81 2 rfl ?_
                refine J_iconst (v := nI 2) dX4_ask_82 (by decide) ?_
                obtain ⟨b9, F⟩ := F
                refine J_callV0 (ci := 4) (n := 1) (As := [.int (nI 2)]) (rest := []) dX4_ask_83 rfl gX4_ask_X4_fails rfl (by decide +kernel) rfl (by decide) b9 (Nat.le_of_ble_eq_true rfl) (Nat.le_refl _) (Nat.le_refl _) F kI_no (kI_kk (fun v_31 h_30 F => ?_))
                refine J_i2l dX4_ask_86 ?_
                refine J_goto (tgt := 103) dX4_ask_87 (by decide) ?_
                exact J_lret dX4_ask_103 rfl (Nat.le_refl _) (Nat.le_refl _) F
        · replace F := F.2 c
          refine J_aload_n dX4_ask_39 1 rfl ?_
          refine J_iconst (v := nI 1) dX4_ask_40 (by decide) ?_
          obtain ⟨b9, F⟩ := F
          refine J_callV0 (ci := 4) (n := 1) (As := [.int (nI 1)]) (rest := []) dX4_ask_41 rfl gX4_ask_X4_fails rfl (by decide +kernel) rfl (by decide) b9 (Nat.le_of_ble_eq_true rfl) (Nat.le_refl _) (Nat.le_refl _) F kI_no (kI_kk (fun v_33 h_32 F => ?_))
          refine J_i2l dX4_ask_44 ?_
          exact J_lret dX4_ask_45 rfl (Nat.le_refl _) (Nat.le_refl _) F
  · replace F := F.2 c
    refine J_iconst (v := nI 0) dX4_ask_10 (by decide) ?_
    refine J_goto (tgt := 19) dX4_ask_11 (by decide) ?_
    refine J_istore (lv' := [(7, .int (nI 0)), (0, .ref a0), (1, .int x1), (2, .int x2), (3, .long x3), (5, .int x4), (6, .int x5)]) dX4_ask_19 (by decide) rfl ?_
    refine J_aload_n dX4_ask_21 1 rfl ?_
    refine J_iload_n dX4_ask_22 3 rfl ?_
    obtain ⟨b9, F⟩ := F
    refine J_callV0 (ci := 4) (n := 1) (As := [.int x2]) (rest := []) dX4_ask_23 rfl gX4_ask_X4_isState rfl (by decide +kernel) rfl (by decide) b9 (Nat.le_of_ble_eq_true rfl) (Nat.le_refl _) (Nat.le_refl _) F kI_no (kI_kk (fun v_35 h_34 F => ?_))
    refine J_if_eq (tgt := 39) dX4_ask_26 (by decide) (fun c => ?_) (fun c => ?_)
    · replace F := F.1 c
      refine J_aload_n dX4_ask_39 1 rfl ?_
      refine J_iconst (v := nI 1) dX4_ask_40 (by decide) ?_
      obtain ⟨b9, F⟩ := F
      refine J_callV0 (ci := 4) (n := 1) (As := [.int (nI 1)]) (rest := []) dX4_ask_41 rfl gX4_ask_X4_fails rfl (by decide +kernel) rfl (by decide) b9 (Nat.le_of_ble_eq_true rfl) (Nat.le_refl _) (Nat.le_refl _) F kI_no (kI_kk (fun v_37 h_36 F => ?_))
      refine J_i2l dX4_ask_44 ?_
      exact J_lret dX4_ask_45 rfl (Nat.le_refl _) (Nat.le_refl _) F
    · replace F := F.2 c
      refine J_iload_n dX4_ask_29 2 rfl ?_
      refine J_iconst (v := -nI 1) dX4_ask_30 (by decide) ?_
      refine J_icmp_eq (tgt := 46) dX4_ask_31 (by decide) (fun c => ?_) (fun c => ?_)
      · replace F := F.1 c
        refine J_aload_n dX4_ask_46 1 rfl ?_
        refine J_iload dX4_ask_47 0 rfl ?_
        refine J_iload_n dX4_ask_49 3 rfl ?_
        refine J_lload_n dX4_ask_50 4 rfl ?_
        refine J_iload dX4_ask_51 5 rfl ?_
        obtain ⟨b9, F⟩ := F
        refine J_callV0 (ci := 4) (n := 4) (As := [.int (nI 0), .int x2, .long x3, .int x4]) (rest := []) dX4_ask_53 rfl gX4_ask_X4_find rfl (by decide +kernel) rfl (by decide) b9 (Nat.le_of_ble_eq_true rfl) (Nat.le_refl _) (Nat.le_refl _) F kI_no (kI_kk (fun v_39 h_38 F => ?_))
        refine J_istore (lv' := [(8, .int v_39), (7, .int (nI 0)), (0, .ref a0), (1, .int x1), (2, .int x2), (3, .long x3), (5, .int x4), (6, .int x5)]) dX4_ask_56 (by decide) rfl ?_
        refine J_iload dX4_ask_58 0 rfl ?_
        refine J_if_lt (tgt := 81) dX4_ask_60 (by decide) (fun c => ?_) (fun c => ?_)
        · replace F := F.1 c
          refine J_aload_n dX4_ask_81 2 rfl ?_
          refine J_iconst (v := nI 2) dX4_ask_82 (by decide) ?_
          obtain ⟨b9, F⟩ := F
          refine J_callV0 (ci := 4) (n := 1) (As := [.int (nI 2)]) (rest := []) dX4_ask_83 rfl gX4_ask_X4_fails rfl (by decide +kernel) rfl (by decide) b9 (Nat.le_of_ble_eq_true rfl) (Nat.le_refl _) (Nat.le_refl _) F kI_no (kI_kk (fun v_41 h_40 F => ?_))
          refine J_i2l dX4_ask_86 ?_
          refine J_goto (tgt := 103) dX4_ask_87 (by decide) ?_
          exact J_lret dX4_ask_103 rfl (Nat.le_refl _) (Nat.le_refl _) F
        · replace F := F.2 c
          refine J_iload dX4_ask_63 7 rfl ?_
          refine J_if_lt (tgt := 81) dX4_ask_65 (by decide) (fun c => ?_) (fun c => ?_)
          · replace F := F.1 c
            refine J_aload_n dX4_ask_81 2 rfl ?_
            refine J_iconst (v := nI 2) dX4_ask_82 (by decide) ?_
            obtain ⟨b9, F⟩ := F
            refine J_callV0 (ci := 4) (n := 1) (As := [.int (nI 2)]) (rest := []) dX4_ask_83 rfl gX4_ask_X4_fails rfl (by decide +kernel) rfl (by decide) b9 (Nat.le_of_ble_eq_true rfl) (Nat.le_refl _) (Nat.le_refl _) F kI_no (kI_kk (fun v_43 h_42 F => ?_))
            refine J_i2l dX4_ask_86 ?_
            refine J_goto (tgt := 103) dX4_ask_87 (by decide) ?_
            exact J_lret dX4_ask_103 rfl (Nat.le_refl _) (Nat.le_refl _) F
          · replace F := F.2 c
            refine J_iload dX4_ask_68 7 rfl ?_
            refine J_aload_n dX4_ask_70 2 rfl ?_
            refine J_iload dX4_ask_71 1 rfl ?_
            refine J_iload dX4_ask_73 0 rfl ?_
            obtain ⟨b9, F⟩ := F
            refine J_callV0 (ci := 4) (n := 2) (As := [.int (nI 0), .int v_39]) (rest := [.int x5]) dX4_ask_75 rfl gX4_ask_X4_numbersOf rfl (by decide +kernel) rfl (by decide) b9 (Nat.le_of_ble_eq_true rfl) (Nat.le_refl _) (Nat.le_refl _) F kI_no (kI_kk (fun v_45 h_44 F => ?_))
            refine J_icmp_lt (tgt := 90) dX4_ask_78 (by decide) (fun c => ?_) (fun c => ?_)
            · replace F := F.1 c
              refine J_aload_n dX4_ask_90 2 rfl ?_
              obtain ⟨p_46, g9, F⟩ := F
              refine J_get (ci := 4) (k := 11) dX4_ask_91 rfl in_X4_ask_4 (by decide) lk_X4_ask_38 g9 ?_
              refine J_bipush (v := nI 10) dX4_ask_94 (by decide) ?_
              refine J_iload dX4_ask_96 0 rfl ?_
              refine J_imul dX4_ask_98 ?_
              refine J_iload dX4_ask_99 7 rfl ?_
              refine J_iadd dX4_ask_101 ?_
              obtain ⟨u_47, g9, F⟩ := F
              refine J_lald dX4_ask_102 g9 ?_
              exact J_lret dX4_ask_103 rfl (Nat.le_refl _) (Nat.le_refl _) F
            · replace F := F.2 c
              refine J_aload_n dX4_ask_81 2 rfl ?_
              refine J_iconst (v := nI 2) dX4_ask_82 (by decide) ?_
              obtain ⟨b9, F⟩ := F
              refine J_callV0 (ci := 4) (n := 1) (As := [.int (nI 2)]) (rest := []) dX4_ask_83 rfl gX4_ask_X4_fails rfl (by decide +kernel) rfl (by decide) b9 (Nat.le_of_ble_eq_true rfl) (Nat.le_refl _) (Nat.le_refl _) F kI_no (kI_kk (fun v_49 h_48 F => ?_))
              refine J_i2l dX4_ask_86 ?_
              refine J_goto (tgt := 103) dX4_ask_87 (by decide) ?_
              exact J_lret dX4_ask_103 rfl (Nat.le_refl _) (Nat.le_refl _) F
      · replace F := F.2 c
        refine J_iload dX4_ask_34 0 rfl ?_
        refine J_if_ne (tgt := 46) dX4_ask_36 (by decide) (fun c => ?_) (fun c => ?_)
        · replace F := F.1 c
          refine J_aload_n dX4_ask_46 1 rfl ?_
          refine J_iload dX4_ask_47 0 rfl ?_
          refine J_iload_n dX4_ask_49 3 rfl ?_
          refine J_lload_n dX4_ask_50 4 rfl ?_
          refine J_iload dX4_ask_51 5 rfl ?_
          obtain ⟨b9, F⟩ := F
          refine J_callV0 (ci := 4) (n := 4) (As := [.int (nI 0), .int x2, .long x3, .int x4]) (rest := []) dX4_ask_53 rfl gX4_ask_X4_find rfl (by decide +kernel) rfl (by decide) b9 (Nat.le_of_ble_eq_true rfl) (Nat.le_refl _) (Nat.le_refl _) F kI_no (kI_kk (fun v_51 h_50 F => ?_))
          refine J_istore (lv' := [(8, .int v_51), (7, .int (nI 0)), (0, .ref a0), (1, .int x1), (2, .int x2), (3, .long x3), (5, .int x4), (6, .int x5)]) dX4_ask_56 (by decide) rfl ?_
          refine J_iload dX4_ask_58 0 rfl ?_
          refine J_if_lt (tgt := 81) dX4_ask_60 (by decide) (fun c => ?_) (fun c => ?_)
          · replace F := F.1 c
            refine J_aload_n dX4_ask_81 2 rfl ?_
            refine J_iconst (v := nI 2) dX4_ask_82 (by decide) ?_
            obtain ⟨b9, F⟩ := F
            refine J_callV0 (ci := 4) (n := 1) (As := [.int (nI 2)]) (rest := []) dX4_ask_83 rfl gX4_ask_X4_fails rfl (by decide +kernel) rfl (by decide) b9 (Nat.le_of_ble_eq_true rfl) (Nat.le_refl _) (Nat.le_refl _) F kI_no (kI_kk (fun v_53 h_52 F => ?_))
            refine J_i2l dX4_ask_86 ?_
            refine J_goto (tgt := 103) dX4_ask_87 (by decide) ?_
            exact J_lret dX4_ask_103 rfl (Nat.le_refl _) (Nat.le_refl _) F
          · replace F := F.2 c
            refine J_iload dX4_ask_63 7 rfl ?_
            refine J_if_lt (tgt := 81) dX4_ask_65 (by decide) (fun c => ?_) (fun c => ?_)
            · replace F := F.1 c
              refine J_aload_n dX4_ask_81 2 rfl ?_
              refine J_iconst (v := nI 2) dX4_ask_82 (by decide) ?_
              obtain ⟨b9, F⟩ := F
              refine J_callV0 (ci := 4) (n := 1) (As := [.int (nI 2)]) (rest := []) dX4_ask_83 rfl gX4_ask_X4_fails rfl (by decide +kernel) rfl (by decide) b9 (Nat.le_of_ble_eq_true rfl) (Nat.le_refl _) (Nat.le_refl _) F kI_no (kI_kk (fun v_55 h_54 F => ?_))
              refine J_i2l dX4_ask_86 ?_
              refine J_goto (tgt := 103) dX4_ask_87 (by decide) ?_
              exact J_lret dX4_ask_103 rfl (Nat.le_refl _) (Nat.le_refl _) F
            · replace F := F.2 c
              refine J_iload dX4_ask_68 7 rfl ?_
              refine J_aload_n dX4_ask_70 2 rfl ?_
              refine J_iload dX4_ask_71 1 rfl ?_
              refine J_iload dX4_ask_73 0 rfl ?_
              obtain ⟨b9, F⟩ := F
              refine J_callV0 (ci := 4) (n := 2) (As := [.int (nI 0), .int v_51]) (rest := [.int x5]) dX4_ask_75 rfl gX4_ask_X4_numbersOf rfl (by decide +kernel) rfl (by decide) b9 (Nat.le_of_ble_eq_true rfl) (Nat.le_refl _) (Nat.le_refl _) F kI_no (kI_kk (fun v_57 h_56 F => ?_))
              refine J_icmp_lt (tgt := 90) dX4_ask_78 (by decide) (fun c => ?_) (fun c => ?_)
              · replace F := F.1 c
                refine J_aload_n dX4_ask_90 2 rfl ?_
                obtain ⟨p_58, g9, F⟩ := F
                refine J_get (ci := 4) (k := 11) dX4_ask_91 rfl in_X4_ask_4 (by decide) lk_X4_ask_38 g9 ?_
                refine J_bipush (v := nI 10) dX4_ask_94 (by decide) ?_
                refine J_iload dX4_ask_96 0 rfl ?_
                refine J_imul dX4_ask_98 ?_
                refine J_iload dX4_ask_99 7 rfl ?_
                refine J_iadd dX4_ask_101 ?_
                obtain ⟨u_59, g9, F⟩ := F
                refine J_lald dX4_ask_102 g9 ?_
                exact J_lret dX4_ask_103 rfl (Nat.le_refl _) (Nat.le_refl _) F
              · replace F := F.2 c
                refine J_aload_n dX4_ask_81 2 rfl ?_
                refine J_iconst (v := nI 2) dX4_ask_82 (by decide) ?_
                obtain ⟨b9, F⟩ := F
                refine J_callV0 (ci := 4) (n := 1) (As := [.int (nI 2)]) (rest := []) dX4_ask_83 rfl gX4_ask_X4_fails rfl (by decide +kernel) rfl (by decide) b9 (Nat.le_of_ble_eq_true rfl) (Nat.le_refl _) (Nat.le_refl _) F kI_no (kI_kk (fun v_61 h_60 F => ?_))
                refine J_i2l dX4_ask_86 ?_
                refine J_goto (tgt := 103) dX4_ask_87 (by decide) ?_
                exact J_lret dX4_ask_103 rfl (Nat.le_refl _) (Nat.le_refl _) F
        · replace F := F.2 c
          refine J_aload_n dX4_ask_39 1 rfl ?_
          refine J_iconst (v := nI 1) dX4_ask_40 (by decide) ?_
          obtain ⟨b9, F⟩ := F
          refine J_callV0 (ci := 4) (n := 1) (As := [.int (nI 1)]) (rest := []) dX4_ask_41 rfl gX4_ask_X4_fails rfl (by decide +kernel) rfl (by decide) b9 (Nat.le_of_ble_eq_true rfl) (Nat.le_refl _) (Nat.le_refl _) F kI_no (kI_kk (fun v_63 h_62 F => ?_))
          refine J_i2l dX4_ask_44 ?_
          exact J_lret dX4_ask_45 rfl (Nat.le_refl _) (Nat.le_refl _) F

abbrev mX4_canMove (l : Launch) (K : Kx) (As : List Value) (h : Hp) (Post : Rs → Hp → Prop) : Prop := MX l K yX4_canMove wsX4_canMove 0 0 0 0 As h Post
set_option maxRecDepth 100000 in
set_option maxHeartbeats 4000000 in
theorem fX4_canMove {l : Launch} {K : Kx} {x1 : Int32} {x2 : Int32} {h : Hp} {Post : Rs → Hp → Prop} (htr : l.stackTraces = false)
    (F : ((¬ x1 = x2 → ((¬ x1 = nI 0 → ((¬ x1 = (nI 1) → ((¬ x1 = (nI 3) → ((¬ x2 = (nI 1) → (Post (.inl (some (.int (nI 0)))) h)) ∧ (x2 = (nI 1) → (Post (.inl (some (.int (nI 1)))) h)))) ∧ (x1 = (nI 3) → ((¬ x2 = nI 0 → (Post (.inl (some (.int (nI 0)))) h)) ∧ (x2 = nI 0 → (Post (.inl (some (.int (nI 1)))) h)))))) ∧ (x1 = (nI 1) → ((¬ x2 = (nI 3) → (Post (.inl (some (.int (nI 0)))) h)) ∧ (x2 = (nI 3) → (Post (.inl (some (.int (nI 1)))) h)))))) ∧ (x1 = nI 0 → ((x2 = (nI 1) → (Post (.inl (some (.int (nI 1)))) h)) ∧ (¬ x2 = (nI 1) → ((¬ x2 = (nI 3) → (Post (.inl (some (.int (nI 0)))) h)) ∧ (x2 = (nI 3) → (Post (.inl (some (.int (nI 1)))) h)))))))) ∧ (x1 = x2 → ((x1 = (nI 3) → (Post (.inl (some (.int (nI 0)))) h)) ∧ (¬ x1 = (nI 3) → (Post (.inl (some (.int (nI 1)))) h)))))) :
    mX4_canMove l K [.int x1, .int x2] h Post := by
  refine MX.enter htr (by decide) rfl (Nat.le_of_ble_eq_true rfl) ?_
  refine J_lveq (lv' := [(0, .int x1), (1, .int x2)]) rfl ?_
  refine J_iload_n dX4_canMove_0 0 rfl ?_
  refine J_iload_n dX4_canMove_1 1 rfl ?_
  refine J_icmp_ne (tgt := 18) dX4_canMove_2 (by decide) (fun c => ?_) (fun c => ?_)
  · replace F := F.1 c
    refine J_iload_n dX4_canMove_18 0 rfl ?_
    refine J_if_ne (tgt := 40) dX4_canMove_19 (by decide) (fun c => ?_) (fun c => ?_)
    · replace F := F.1 c
      refine J_iload_n dX4_canMove_40 0 rfl ?_
      refine J_iconst (v := nI 1) dX4_canMove_41 (by decide) ?_
      refine J_icmp_ne (tgt := 58) dX4_canMove_42 (by decide) (fun c => ?_) (fun c => ?_)
      · replace F := F.1 c
        refine J_iload_n dX4_canMove_58 0 rfl ?_
        refine J_iconst (v := nI 3) dX4_canMove_59 (by decide) ?_
        refine J_icmp_ne (tgt := 75) dX4_canMove_60 (by decide) (fun c => ?_) (fun c => ?_)
        · replace F := F.1 c
          refine J_iload_n dX4_canMove_75 1 rfl ?_
          refine J_iconst (v := nI 1) dX4_canMove_76 (by decide) ?_
          refine J_icmp_ne (tgt := 84) dX4_canMove_77 (by decide) (fun c => ?_) (fun c => ?_)
          · replace F := F.1 c
            refine J_iconst (v := nI 0) dX4_canMove_84 (by decide) ?_
            exact J_zret dX4_canMove_85 rfl (by decide) (Nat.le_refl _) (Nat.le_refl _) F
          · replace F := F.2 c
            refine J_iconst (v := nI 1) dX4_canMove_80 (by decide) ?_
            refine J_goto (tgt := 85) dX4_canMove_81 (by decide) ?_
            exact J_zret dX4_canMove_85 rfl (by decide) (Nat.le_refl _) (Nat.le_refl _) F
        · replace F := F.2 c
          refine J_iload_n dX4_canMove_63 1 rfl ?_
          refine J_if_ne (tgt := 71) dX4_canMove_64 (by decide) (fun c => ?_) (fun c => ?_)
          · replace F := F.1 c
            refine J_iconst (v := nI 0) dX4_canMove_71 (by decide) ?_
            refine J_goto (tgt := 85) dX4_canMove_72 (by decide) ?_
            exact J_zret dX4_canMove_85 rfl (by decide) (Nat.le_refl _) (Nat.le_refl _) F
          · replace F := F.2 c
            refine J_iconst (v := nI 1) dX4_canMove_67 (by decide) ?_
            refine J_goto (tgt := 85) dX4_canMove_68 (by decide) ?_
            exact J_zret dX4_canMove_85 rfl (by decide) (Nat.le_refl _) (Nat.le_refl _) F
      · replace F := F.2 c
        refine J_iload_n dX4_canMove_45 1 rfl ?_
        refine J_iconst (v := nI 3) dX4_canMove_46 (by decide) ?_
        refine J_icmp_ne (tgt := 54) dX4_canMove_47 (by decide) (fun c => ?_) (fun c => ?_)
        · replace F := F.1 c
          refine J_iconst (v := nI 0) dX4_canMove_54 (by decide) ?_
          refine J_goto (tgt := 85) dX4_canMove_55 (by decide) ?_
          exact J_zret dX4_canMove_85 rfl (by decide) (Nat.le_refl _) (Nat.le_refl _) F
        · replace F := F.2 c
          refine J_iconst (v := nI 1) dX4_canMove_50 (by decide) ?_
          refine J_goto (tgt := 85) dX4_canMove_51 (by decide) ?_
          exact J_zret dX4_canMove_85 rfl (by decide) (Nat.le_refl _) (Nat.le_refl _) F
    · replace F := F.2 c
      refine J_iload_n dX4_canMove_22 1 rfl ?_
      refine J_iconst (v := nI 1) dX4_canMove_23 (by decide) ?_
      refine J_icmp_eq (tgt := 32) dX4_canMove_24 (by decide) (fun c => ?_) (fun c => ?_)
      · replace F := F.1 c
        refine J_iconst (v := nI 1) dX4_canMove_32 (by decide) ?_
        refine J_goto (tgt := 85) dX4_canMove_33 (by decide) ?_
        exact J_zret dX4_canMove_85 rfl (by decide) (Nat.le_refl _) (Nat.le_refl _) F
      · replace F := F.2 c
        refine J_iload_n dX4_canMove_27 1 rfl ?_
        refine J_iconst (v := nI 3) dX4_canMove_28 (by decide) ?_
        refine J_icmp_ne (tgt := 36) dX4_canMove_29 (by decide) (fun c => ?_) (fun c => ?_)
        · replace F := F.1 c
          refine J_iconst (v := nI 0) dX4_canMove_36 (by decide) ?_
          refine J_goto (tgt := 85) dX4_canMove_37 (by decide) ?_
          exact J_zret dX4_canMove_85 rfl (by decide) (Nat.le_refl _) (Nat.le_refl _) F
        · replace F := F.2 c
          refine J_iconst (v := nI 1) dX4_canMove_32 (by decide) ?_
          refine J_goto (tgt := 85) dX4_canMove_33 (by decide) ?_
          exact J_zret dX4_canMove_85 rfl (by decide) (Nat.le_refl _) (Nat.le_refl _) F
  · replace F := F.2 c
    refine J_iload_n dX4_canMove_5 0 rfl ?_
    refine J_iconst (v := nI 3) dX4_canMove_6 (by decide) ?_
    refine J_icmp_eq (tgt := 14) dX4_canMove_7 (by decide) (fun c => ?_) (fun c => ?_)
    · replace F := F.1 c
      refine J_iconst (v := nI 0) dX4_canMove_14 (by decide) ?_
      refine J_goto (tgt := 85) dX4_canMove_15 (by decide) ?_
      exact J_zret dX4_canMove_85 rfl (by decide) (Nat.le_refl _) (Nat.le_refl _) F
    · replace F := F.2 c
      refine J_iconst (v := nI 1) dX4_canMove_10 (by decide) ?_
      refine J_goto (tgt := 85) dX4_canMove_11 (by decide) ?_
      exact J_zret dX4_canMove_85 rfl (by decide) (Nat.le_refl _) (Nat.le_refl _) F

abbrev mX4_copyEntry (l : Launch) (K : Kx) (As : List Value) (h : Hp) (Post : Rs → Hp → Prop) : Prop := MX l K yX4_copyEntry wsX4_copyEntry 0 0 0 0 As h Post
set_option maxRecDepth 100000 in
set_option maxHeartbeats 4000000 in
theorem fX4_copyEntry {l : Launch} {K : Kx} {a0 : Nat} {x1 : Int32} {x2 : Int32} {h : Hp} {Post : Rs → Hp → Prop} (htr : l.stackTraces = false)
    (F : (∃ p_1, gf h a0 4 7 = some (.ref p_1) ∧ (∃ p_2, gf h a0 4 7 = some (.ref p_2) ∧ (∃ v_3, aI K h p_2 x1 = some v_3 ∧ (∃ h_4, wI K h p_1 x2 v_3 = some h_4 ∧ (∃ p_5, gf h_4 a0 4 8 = some (.ref p_5) ∧ (∃ p_6, gf h_4 a0 4 8 = some (.ref p_6) ∧ (∃ u_7, aJ K h_4 p_6 x1 = some u_7 ∧ (∃ h_8, wJ K h_4 p_5 x2 u_7 = some h_8 ∧ (∃ p_9, gf h_8 a0 4 9 = some (.ref p_9) ∧ (∃ p_10, gf h_8 a0 4 9 = some (.ref p_10) ∧ (∃ v_11, aI K h_8 p_10 x1 = some v_11 ∧ (∃ h_12, wI K h_8 p_9 x2 v_11 = some h_12 ∧ (∃ p_13, gf h_12 a0 4 10 = some (.ref p_13) ∧ (∃ p_14, gf h_12 a0 4 10 = some (.ref p_14) ∧ (∃ v_15, aI K h_12 p_14 x1 = some v_15 ∧ (∃ h_16, wI K h_12 p_13 x2 v_15 = some h_16 ∧ (∀ X_19 : Int32 → Hp → Prop, (∀ (i_17 : Int32) (h_18 : Hp), ((((nI 10) ≤ i_17 → (Post (.inl none) h_18)) ∧ (¬ (nI 10) ≤ i_17 → (∃ p_20, gf h_18 a0 4 11 = some (.ref p_20) ∧ (∃ p_21, gf h_18 a0 4 11 = some (.ref p_21) ∧ (∃ u_22, aJ K h_18 p_21 (((nI 10) * x1) + i_17) = some u_22 ∧ (∃ h_23, wJ K h_18 p_20 (((nI 10) * x2) + i_17) u_22 = some h_23 ∧ (∃ p_24, gf h_23 a0 4 12 = some (.ref p_24) ∧ (∃ p_25, gf h_23 a0 4 12 = some (.ref p_25) ∧ (∃ u_26, aJ K h_23 p_25 (((nI 10) * x1) + i_17) = some u_26 ∧ (∃ h_27, wJ K h_23 p_24 (((nI 10) * x2) + i_17) u_26 = some h_27 ∧ X_19 (i_17 + nI 1) h_27))))))))))) → X_19 i_17 h_18) → X_19 (nI 0) h_16)))))))))))))))))) :
    mX4_copyEntry l K [.ref a0, .int x1, .int x2] h Post := by
  refine MX.enter htr (by decide) rfl (Nat.le_of_ble_eq_true rfl) ?_
  refine J_lveq (lv' := [(0, .ref a0), (1, .int x1), (2, .int x2)]) rfl ?_
  refine J_aload_n dX4_copyEntry_0 0 rfl ?_
  obtain ⟨p_1, g9, F⟩ := F
  refine J_get (ci := 4) (k := 7) dX4_copyEntry_1 rfl in_X4_copyEntry_4 (by decide) lk_X4_copyEntry_25 g9 ?_
  refine J_iload_n dX4_copyEntry_4 2 rfl ?_
  refine J_aload_n dX4_copyEntry_5 0 rfl ?_
  obtain ⟨p_2, g9, F⟩ := F
  refine J_get (ci := 4) (k := 7) dX4_copyEntry_6 rfl in_X4_copyEntry_4 (by decide) lk_X4_copyEntry_25 g9 ?_
  refine J_iload_n dX4_copyEntry_9 1 rfl ?_
  obtain ⟨v_3, g9, F⟩ := F
  refine J_iald dX4_copyEntry_10 g9 ?_
  obtain ⟨h_4, g9, F⟩ := F
  refine J_iast dX4_copyEntry_11 g9 ?_
  refine J_aload_n dX4_copyEntry_12 0 rfl ?_
  obtain ⟨p_5, g9, F⟩ := F
  refine J_get (ci := 4) (k := 8) dX4_copyEntry_13 rfl in_X4_copyEntry_4 (by decide) lk_X4_copyEntry_28 g9 ?_
  refine J_iload_n dX4_copyEntry_16 2 rfl ?_
  refine J_aload_n dX4_copyEntry_17 0 rfl ?_
  obtain ⟨p_6, g9, F⟩ := F
  refine J_get (ci := 4) (k := 8) dX4_copyEntry_18 rfl in_X4_copyEntry_4 (by decide) lk_X4_copyEntry_28 g9 ?_
  refine J_iload_n dX4_copyEntry_21 1 rfl ?_
  obtain ⟨u_7, g9, F⟩ := F
  refine J_lald dX4_copyEntry_22 g9 ?_
  obtain ⟨h_8, g9, F⟩ := F
  refine J_last dX4_copyEntry_23 g9 ?_
  refine J_aload_n dX4_copyEntry_24 0 rfl ?_
  obtain ⟨p_9, g9, F⟩ := F
  refine J_get (ci := 4) (k := 9) dX4_copyEntry_25 rfl in_X4_copyEntry_4 (by decide) lk_X4_copyEntry_32 g9 ?_
  refine J_iload_n dX4_copyEntry_28 2 rfl ?_
  refine J_aload_n dX4_copyEntry_29 0 rfl ?_
  obtain ⟨p_10, g9, F⟩ := F
  refine J_get (ci := 4) (k := 9) dX4_copyEntry_30 rfl in_X4_copyEntry_4 (by decide) lk_X4_copyEntry_32 g9 ?_
  refine J_iload_n dX4_copyEntry_33 1 rfl ?_
  obtain ⟨v_11, g9, F⟩ := F
  refine J_iald dX4_copyEntry_34 g9 ?_
  obtain ⟨h_12, g9, F⟩ := F
  refine J_iast dX4_copyEntry_35 g9 ?_
  refine J_aload_n dX4_copyEntry_36 0 rfl ?_
  obtain ⟨p_13, g9, F⟩ := F
  refine J_get (ci := 4) (k := 10) dX4_copyEntry_37 rfl in_X4_copyEntry_4 (by decide) lk_X4_copyEntry_35 g9 ?_
  refine J_iload_n dX4_copyEntry_40 2 rfl ?_
  refine J_aload_n dX4_copyEntry_41 0 rfl ?_
  obtain ⟨p_14, g9, F⟩ := F
  refine J_get (ci := 4) (k := 10) dX4_copyEntry_42 rfl in_X4_copyEntry_4 (by decide) lk_X4_copyEntry_35 g9 ?_
  refine J_iload_n dX4_copyEntry_45 1 rfl ?_
  obtain ⟨v_15, g9, F⟩ := F
  refine J_iald dX4_copyEntry_46 g9 ?_
  obtain ⟨h_16, g9, F⟩ := F
  refine J_iast dX4_copyEntry_47 g9 ?_
  refine J_iconst (v := nI 0) dX4_copyEntry_48 (by decide) ?_
  refine J_istore_n (lv' := [(3, .int (nI 0)), (0, .ref a0), (1, .int x1), (2, .int x2)]) dX4_copyEntry_49 rfl (by decide) rfl ?_
  refine J_sub [1, 2, 3, 0] rfl ?_
  refine F (fun (i_17 : Int32) (h_18 : Hp) => J l K yX4_copyEntry.cls cX4_copyEntry 4 none wsX4_copyEntry [] yX4_copyEntry.name 0 0 0 0 (QM K 0 0 Post) 50 [] [(0, .ref a0), (1, .int x1), (2, .int x2), (3, .int i_17)] h_18 0 0) ?_
  intro i_17 h_18 F
  refine J_iload_n dX4_copyEntry_50 3 rfl ?_
  refine J_bipush (v := nI 10) dX4_copyEntry_51 (by decide) ?_
  refine J_icmp_ge (tgt := 106) dX4_copyEntry_53 (by decide) (fun c => ?_) (fun c => ?_)
  · replace F := F.1 c
    exact J_vret dX4_copyEntry_106 rfl (Nat.le_refl _) (Nat.le_refl _) F
  · replace F := F.2 c
    refine J_aload_n dX4_copyEntry_56 0 rfl ?_
    obtain ⟨p_20, g9, F⟩ := F
    refine J_get (ci := 4) (k := 11) dX4_copyEntry_57 rfl in_X4_copyEntry_4 (by decide) lk_X4_copyEntry_38 g9 ?_
    refine J_bipush (v := nI 10) dX4_copyEntry_60 (by decide) ?_
    refine J_iload_n dX4_copyEntry_62 2 rfl ?_
    refine J_imul dX4_copyEntry_63 ?_
    refine J_iload_n dX4_copyEntry_64 3 rfl ?_
    refine J_iadd dX4_copyEntry_65 ?_
    refine J_aload_n dX4_copyEntry_66 0 rfl ?_
    obtain ⟨p_21, g9, F⟩ := F
    refine J_get (ci := 4) (k := 11) dX4_copyEntry_67 rfl in_X4_copyEntry_4 (by decide) lk_X4_copyEntry_38 g9 ?_
    refine J_bipush (v := nI 10) dX4_copyEntry_70 (by decide) ?_
    refine J_iload_n dX4_copyEntry_72 1 rfl ?_
    refine J_imul dX4_copyEntry_73 ?_
    refine J_iload_n dX4_copyEntry_74 3 rfl ?_
    refine J_iadd dX4_copyEntry_75 ?_
    obtain ⟨u_22, g9, F⟩ := F
    refine J_lald dX4_copyEntry_76 g9 ?_
    obtain ⟨h_23, g9, F⟩ := F
    refine J_last dX4_copyEntry_77 g9 ?_
    refine J_aload_n dX4_copyEntry_78 0 rfl ?_
    obtain ⟨p_24, g9, F⟩ := F
    refine J_get (ci := 4) (k := 12) dX4_copyEntry_79 rfl in_X4_copyEntry_4 (by decide) lk_X4_copyEntry_41 g9 ?_
    refine J_bipush (v := nI 10) dX4_copyEntry_82 (by decide) ?_
    refine J_iload_n dX4_copyEntry_84 2 rfl ?_
    refine J_imul dX4_copyEntry_85 ?_
    refine J_iload_n dX4_copyEntry_86 3 rfl ?_
    refine J_iadd dX4_copyEntry_87 ?_
    refine J_aload_n dX4_copyEntry_88 0 rfl ?_
    obtain ⟨p_25, g9, F⟩ := F
    refine J_get (ci := 4) (k := 12) dX4_copyEntry_89 rfl in_X4_copyEntry_4 (by decide) lk_X4_copyEntry_41 g9 ?_
    refine J_bipush (v := nI 10) dX4_copyEntry_92 (by decide) ?_
    refine J_iload_n dX4_copyEntry_94 1 rfl ?_
    refine J_imul dX4_copyEntry_95 ?_
    refine J_iload_n dX4_copyEntry_96 3 rfl ?_
    refine J_iadd dX4_copyEntry_97 ?_
    obtain ⟨u_26, g9, F⟩ := F
    refine J_lald dX4_copyEntry_98 g9 ?_
    obtain ⟨h_27, g9, F⟩ := F
    refine J_last dX4_copyEntry_99 g9 ?_
    refine J_iinc (v := i_17 + nI 1) (lv' := [(3, .int (i_17 + nI 1)), (0, .ref a0), (1, .int x1), (2, .int x2)]) dX4_copyEntry_100 3 rfl rfl (by decide) rfl ?_
    refine J_goto (tgt := 50) dX4_copyEntry_103 (by decide) ?_
    exact J_sub [1, 2, 3, 0] rfl F

abbrev mX4_dropEntry (l : Launch) (K : Kx) (As : List Value) (h : Hp) (Post : Rs → Hp → Prop) : Prop := MX l K yX4_dropEntry wsX4_dropEntry 3 65 0 0 As h Post
set_option maxRecDepth 100000 in
set_option maxHeartbeats 4000000 in
theorem fX4_dropEntry {l : Launch} {K : Kx} {a0 : Nat} {x1 : Int32} {h : Hp} {Post : Rs → Hp → Prop} (htr : l.stackTraces = false)
    (F : ((∃ fs, h a0 = some (xO 4 fs)) ∧ mX4_touchOf l K [.ref a0, .int x1] h (kV (fun h_1 => (∃ p_2, gf h_1 a0 4 6 = some (.ref p_2) ∧ (∃ v_3, aI K h_1 p_2 (nI 0) = some v_3 ∧ (∃ h_4, wI K h_1 p_2 (nI 0) (v_3 - (nI 1)) = some h_4 ∧ (∃ p_5, gf h_4 a0 4 6 = some (.ref p_5) ∧ (∃ v_6, aI K h_4 p_5 (nI 0) = some v_6 ∧ ((∃ fs, h_4 a0 = some (xO 4 fs)) ∧ mX4_copyEntry l K [.ref a0, .int v_6, .int x1] h_4 (kV (fun h_7 => (Post (.inl none) h_7))))))))))))) :
    mX4_dropEntry l K [.ref a0, .int x1] h Post := by
  refine MX.enter htr (by decide) rfl (Nat.le_of_ble_eq_true rfl) ?_
  refine J_lveq (lv' := [(0, .ref a0), (1, .int x1)]) rfl ?_
  refine J_aload_n dX4_dropEntry_0 0 rfl ?_
  refine J_iload_n dX4_dropEntry_1 1 rfl ?_
  obtain ⟨b9, F⟩ := F
  refine J_callV0 (ci := 4) (n := 1) (As := [.int x1]) (rest := []) dX4_dropEntry_2 rfl gX4_dropEntry_X4_touchOf rfl (by decide +kernel) rfl (by decide) b9 (Nat.le_of_ble_eq_true rfl) (Nat.le_refl _) (Nat.le_refl _) F kV_no (kV_kk (fun h_1 F => ?_))
  refine J_aload_n dX4_dropEntry_5 0 rfl ?_
  obtain ⟨p_2, g9, F⟩ := F
  refine J_get (ci := 4) (k := 6) dX4_dropEntry_6 rfl in_X4_dropEntry_4 (by decide) lk_X4_dropEntry_22 g9 ?_
  refine J_iconst (v := nI 0) dX4_dropEntry_9 (by decide) ?_
  refine J_dup2 dX4_dropEntry_10 rfl rfl ?_
  obtain ⟨v_3, g9, F⟩ := F
  refine J_iald dX4_dropEntry_11 g9 ?_
  refine J_iconst (v := nI 1) dX4_dropEntry_12 (by decide) ?_
  refine J_isub dX4_dropEntry_13 ?_
  obtain ⟨h_4, g9, F⟩ := F
  refine J_iast dX4_dropEntry_14 g9 ?_
  refine J_aload_n dX4_dropEntry_15 0 rfl ?_
  refine J_aload_n dX4_dropEntry_16 0 rfl ?_
  obtain ⟨p_5, g9, F⟩ := F
  refine J_get (ci := 4) (k := 6) dX4_dropEntry_17 rfl in_X4_dropEntry_4 (by decide) lk_X4_dropEntry_22 g9 ?_
  refine J_iconst (v := nI 0) dX4_dropEntry_20 (by decide) ?_
  obtain ⟨v_6, g9, F⟩ := F
  refine J_iald dX4_dropEntry_21 g9 ?_
  refine J_iload_n dX4_dropEntry_22 1 rfl ?_
  obtain ⟨b9, F⟩ := F
  refine J_callV0 (ci := 4) (n := 2) (As := [.int v_6, .int x1]) (rest := []) dX4_dropEntry_23 rfl gX4_dropEntry_X4_copyEntry rfl (by decide +kernel) rfl (by decide) b9 (Nat.le_of_ble_eq_true rfl) (Nat.le_refl _) (Nat.le_refl _) F kV_no (kV_kk (fun h_7 F => ?_))
  exact J_vret dX4_dropEntry_26 rfl (Nat.le_refl _) (Nat.le_refl _) F

abbrev mX4_lacks (l : Launch) (K : Kx) (As : List Value) (h : Hp) (Post : Rs → Hp → Prop) : Prop := MX l K yX4_lacks wsX4_lacks 2 47 0 0 As h Post
set_option maxRecDepth 100000 in
set_option maxHeartbeats 4000000 in
theorem fX4_lacks {l : Launch} {K : Kx} {a0 : Nat} {x1 : Int32} {h : Hp} {Post : Rs → Hp → Prop} (htr : l.stackTraces = false)
    (F : ((∃ fs, h a0 = some (xO 4 fs)) ∧ mX4_isState l K [.ref a0, .int x1] h (kI (fun v_2 h_1 => ((¬ v_2 = nI 0 → (∃ v_3, gf h_1 a0 4 19 = some (.int v_3) ∧ ((¬ v_3 = nI 0 → (∃ h_4, pf h_1 a0 4 0 (.int (nI 0)) = some h_4 ∧ (∃ v_5, gf h_4 a0 4 0 = some (.int v_5) ∧ ((¬ v_5 = nI 0 → (∃ h_6, pf h_4 a0 4 22 (.int (-nI 1)) = some h_6 ∧ (∃ v_7, gf h_6 a0 4 0 = some (.int v_7) ∧ ((v_7 ≤ nI 0 → (Post (.inl (some (.int (nI 0)))) h_6)) ∧ (¬ v_7 ≤ nI 0 → (Post (.inl (some (.int (nI 1)))) h_6)))))) ∧ (v_5 = nI 0 → ((∃ fs, h_4 a0 = some (xO 4 fs)) ∧ mX4_here l K [.ref a0, .int x1] h_4 (kI (fun v_9 h_8 => (∃ h_10, pf h_8 a0 4 22 (.int v_9) = some h_10 ∧ (∃ v_11, gf h_10 a0 4 0 = some (.int v_11) ∧ ((v_11 ≤ nI 0 → (Post (.inl (some (.int (nI 0)))) h_10)) ∧ (¬ v_11 ≤ nI 0 → (Post (.inl (some (.int (nI 1)))) h_10))))))))))))) ∧ (v_3 = nI 0 → (∃ h_12, pf h_1 a0 4 0 (.int (nI 2)) = some h_12 ∧ (∃ v_13, gf h_12 a0 4 0 = some (.int v_13) ∧ ((¬ v_13 = nI 0 → (∃ h_14, pf h_12 a0 4 22 (.int (-nI 1)) = some h_14 ∧ (∃ v_15, gf h_14 a0 4 0 = some (.int v_15) ∧ ((v_15 ≤ nI 0 → (Post (.inl (some (.int (nI 0)))) h_14)) ∧ (¬ v_15 ≤ nI 0 → (Post (.inl (some (.int (nI 1)))) h_14)))))) ∧ (v_13 = nI 0 → ((∃ fs, h_12 a0 = some (xO 4 fs)) ∧ mX4_here l K [.ref a0, .int x1] h_12 (kI (fun v_17 h_16 => (∃ h_18, pf h_16 a0 4 22 (.int v_17) = some h_18 ∧ (∃ v_19, gf h_18 a0 4 0 = some (.int v_19) ∧ ((v_19 ≤ nI 0 → (Post (.inl (some (.int (nI 0)))) h_18)) ∧ (¬ v_19 ≤ nI 0 → (Post (.inl (some (.int (nI 1)))) h_18)))))))))))))))) ∧ (v_2 = nI 0 → (∃ h_20, pf h_1 a0 4 0 (.int (nI 1)) = some h_20 ∧ (∃ v_21, gf h_20 a0 4 0 = some (.int v_21) ∧ ((¬ v_21 = nI 0 → (∃ h_22, pf h_20 a0 4 22 (.int (-nI 1)) = some h_22 ∧ (∃ v_23, gf h_22 a0 4 0 = some (.int v_23) ∧ ((v_23 ≤ nI 0 → (Post (.inl (some (.int (nI 0)))) h_22)) ∧ (¬ v_23 ≤ nI 0 → (Post (.inl (some (.int (nI 1)))) h_22)))))) ∧ (v_21 = nI 0 → ((∃ fs, h_20 a0 = some (xO 4 fs)) ∧ mX4_here l K [.ref a0, .int x1] h_20 (kI (fun v_25 h_24 => (∃ h_26, pf h_24 a0 4 22 (.int v_25) = some h_26 ∧ (∃ v_27, gf h_26 a0 4 0 = some (.int v_27) ∧ ((v_27 ≤ nI 0 → (Post (.inl (some (.int (nI 0)))) h_26)) ∧ (¬ v_27 ≤ nI 0 → (Post (.inl (some (.int (nI 1)))) h_26)))))))))))))))))) :
    mX4_lacks l K [.ref a0, .int x1] h Post := by
  refine MX.enter htr (by decide) rfl (Nat.le_of_ble_eq_true rfl) ?_
  refine J_lveq (lv' := [(0, .ref a0), (1, .int x1)]) rfl ?_
  refine J_aload_n dX4_lacks_0 0 rfl ?_
  refine J_aload_n dX4_lacks_1 0 rfl ?_
  refine J_iload_n dX4_lacks_2 1 rfl ?_
  obtain ⟨b9, F⟩ := F
  refine J_callV0 (ci := 4) (n := 1) (As := [.int x1]) (rest := [.ref a0]) dX4_lacks_3 rfl gX4_lacks_X4_isState rfl (by decide +kernel) rfl (by decide) b9 (Nat.le_of_ble_eq_true rfl) (Nat.le_refl _) (Nat.le_refl _) F kI_no (kI_kk (fun v_2 h_1 F => ?_))
  refine J_if_ne (tgt := 13) dX4_lacks_6 (by decide) (fun c => ?_) (fun c => ?_)
  · replace F := F.1 c
    refine J_aload_n dX4_lacks_13 0 rfl ?_
    obtain ⟨v_3, g9, F⟩ := F
    refine J_get (ci := 4) (k := 19) dX4_lacks_14 rfl in_X4_lacks_4 (by decide) lk_X4_lacks_112 g9 ?_
    refine J_if_ne (tgt := 24) dX4_lacks_17 (by decide) (fun c => ?_) (fun c => ?_)
    · replace F := F.1 c
      refine J_iconst (v := nI 0) dX4_lacks_24 (by decide) ?_
      obtain ⟨h_4, g9, F⟩ := F
      refine J_put (ci := 4) (k := 0) dX4_lacks_25 rfl in_X4_lacks_4 tyX4 tyX4_ok nmX4 (by decide) lk_X4_lacks_58 rfl rfl rfl rfl g9 ?_
      refine J_aload_n dX4_lacks_28 0 rfl ?_
      refine J_aload_n dX4_lacks_29 0 rfl ?_
      obtain ⟨v_5, g9, F⟩ := F
      refine J_get (ci := 4) (k := 0) dX4_lacks_30 rfl in_X4_lacks_4 (by decide) lk_X4_lacks_58 g9 ?_
      refine J_if_ne (tgt := 44) dX4_lacks_33 (by decide) (fun c => ?_) (fun c => ?_)
      · replace F := F.1 c
        refine J_iconst (v := -nI 1) dX4_lacks_44 (by decide) ?_
        obtain ⟨h_6, g9, F⟩ := F
        refine J_put (ci := 4) (k := 22) dX4_lacks_45 rfl in_X4_lacks_4 tyX4 tyX4_ok nmX4 (by decide) lk_X4_lacks_120 rfl rfl rfl rfl g9 ?_
        refine J_aload_n dX4_lacks_48 0 rfl ?_
        obtain ⟨v_7, g9, F⟩ := F
        refine J_get (ci := 4) (k := 0) dX4_lacks_49 rfl in_X4_lacks_4 (by decide) lk_X4_lacks_58 g9 ?_
        refine J_if_le (tgt := 59) dX4_lacks_52 (by decide) (fun c => ?_) (fun c => ?_)
        · replace F := F.1 c
          refine J_iconst (v := nI 0) dX4_lacks_59 (by decide) ?_
          exact J_zret dX4_lacks_60 rfl (by decide) (Nat.le_refl _) (Nat.le_refl _) F
        · replace F := F.2 c
          refine J_iconst (v := nI 1) dX4_lacks_55 (by decide) ?_
          refine J_goto (tgt := 60) dX4_lacks_56 (by decide) ?_
          exact J_zret dX4_lacks_60 rfl (by decide) (Nat.le_refl _) (Nat.le_refl _) F
      · replace F := F.2 c
        refine J_aload_n dX4_lacks_36 0 rfl ?_
        refine J_iload_n dX4_lacks_37 1 rfl ?_
        obtain ⟨b9, F⟩ := F
        refine J_callV0 (ci := 4) (n := 1) (As := [.int x1]) (rest := [.ref a0]) dX4_lacks_38 rfl gX4_lacks_X4_here rfl (by decide +kernel) rfl (by decide) b9 (Nat.le_of_ble_eq_true rfl) (Nat.le_refl _) (Nat.le_refl _) F kI_no (kI_kk (fun v_9 h_8 F => ?_))
        refine J_goto (tgt := 45) dX4_lacks_41 (by decide) ?_
        obtain ⟨h_10, g9, F⟩ := F
        refine J_put (ci := 4) (k := 22) dX4_lacks_45 rfl in_X4_lacks_4 tyX4 tyX4_ok nmX4 (by decide) lk_X4_lacks_120 rfl rfl rfl rfl g9 ?_
        refine J_aload_n dX4_lacks_48 0 rfl ?_
        obtain ⟨v_11, g9, F⟩ := F
        refine J_get (ci := 4) (k := 0) dX4_lacks_49 rfl in_X4_lacks_4 (by decide) lk_X4_lacks_58 g9 ?_
        refine J_if_le (tgt := 59) dX4_lacks_52 (by decide) (fun c => ?_) (fun c => ?_)
        · replace F := F.1 c
          refine J_iconst (v := nI 0) dX4_lacks_59 (by decide) ?_
          exact J_zret dX4_lacks_60 rfl (by decide) (Nat.le_refl _) (Nat.le_refl _) F
        · replace F := F.2 c
          refine J_iconst (v := nI 1) dX4_lacks_55 (by decide) ?_
          refine J_goto (tgt := 60) dX4_lacks_56 (by decide) ?_
          exact J_zret dX4_lacks_60 rfl (by decide) (Nat.le_refl _) (Nat.le_refl _) F
    · replace F := F.2 c
      refine J_iconst (v := nI 2) dX4_lacks_20 (by decide) ?_
      refine J_goto (tgt := 25) dX4_lacks_21 (by decide) ?_
      obtain ⟨h_12, g9, F⟩ := F
      refine J_put (ci := 4) (k := 0) dX4_lacks_25 rfl in_X4_lacks_4 tyX4 tyX4_ok nmX4 (by decide) lk_X4_lacks_58 rfl rfl rfl rfl g9 ?_
      refine J_aload_n dX4_lacks_28 0 rfl ?_
      refine J_aload_n dX4_lacks_29 0 rfl ?_
      obtain ⟨v_13, g9, F⟩ := F
      refine J_get (ci := 4) (k := 0) dX4_lacks_30 rfl in_X4_lacks_4 (by decide) lk_X4_lacks_58 g9 ?_
      refine J_if_ne (tgt := 44) dX4_lacks_33 (by decide) (fun c => ?_) (fun c => ?_)
      · replace F := F.1 c
        refine J_iconst (v := -nI 1) dX4_lacks_44 (by decide) ?_
        obtain ⟨h_14, g9, F⟩ := F
        refine J_put (ci := 4) (k := 22) dX4_lacks_45 rfl in_X4_lacks_4 tyX4 tyX4_ok nmX4 (by decide) lk_X4_lacks_120 rfl rfl rfl rfl g9 ?_
        refine J_aload_n dX4_lacks_48 0 rfl ?_
        obtain ⟨v_15, g9, F⟩ := F
        refine J_get (ci := 4) (k := 0) dX4_lacks_49 rfl in_X4_lacks_4 (by decide) lk_X4_lacks_58 g9 ?_
        refine J_if_le (tgt := 59) dX4_lacks_52 (by decide) (fun c => ?_) (fun c => ?_)
        · replace F := F.1 c
          refine J_iconst (v := nI 0) dX4_lacks_59 (by decide) ?_
          exact J_zret dX4_lacks_60 rfl (by decide) (Nat.le_refl _) (Nat.le_refl _) F
        · replace F := F.2 c
          refine J_iconst (v := nI 1) dX4_lacks_55 (by decide) ?_
          refine J_goto (tgt := 60) dX4_lacks_56 (by decide) ?_
          exact J_zret dX4_lacks_60 rfl (by decide) (Nat.le_refl _) (Nat.le_refl _) F
      · replace F := F.2 c
        refine J_aload_n dX4_lacks_36 0 rfl ?_
        refine J_iload_n dX4_lacks_37 1 rfl ?_
        obtain ⟨b9, F⟩ := F
        refine J_callV0 (ci := 4) (n := 1) (As := [.int x1]) (rest := [.ref a0]) dX4_lacks_38 rfl gX4_lacks_X4_here rfl (by decide +kernel) rfl (by decide) b9 (Nat.le_of_ble_eq_true rfl) (Nat.le_refl _) (Nat.le_refl _) F kI_no (kI_kk (fun v_17 h_16 F => ?_))
        refine J_goto (tgt := 45) dX4_lacks_41 (by decide) ?_
        obtain ⟨h_18, g9, F⟩ := F
        refine J_put (ci := 4) (k := 22) dX4_lacks_45 rfl in_X4_lacks_4 tyX4 tyX4_ok nmX4 (by decide) lk_X4_lacks_120 rfl rfl rfl rfl g9 ?_
        refine J_aload_n dX4_lacks_48 0 rfl ?_
        obtain ⟨v_19, g9, F⟩ := F
        refine J_get (ci := 4) (k := 0) dX4_lacks_49 rfl in_X4_lacks_4 (by decide) lk_X4_lacks_58 g9 ?_
        refine J_if_le (tgt := 59) dX4_lacks_52 (by decide) (fun c => ?_) (fun c => ?_)
        · replace F := F.1 c
          refine J_iconst (v := nI 0) dX4_lacks_59 (by decide) ?_
          exact J_zret dX4_lacks_60 rfl (by decide) (Nat.le_refl _) (Nat.le_refl _) F
        · replace F := F.2 c
          refine J_iconst (v := nI 1) dX4_lacks_55 (by decide) ?_
          refine J_goto (tgt := 60) dX4_lacks_56 (by decide) ?_
          exact J_zret dX4_lacks_60 rfl (by decide) (Nat.le_refl _) (Nat.le_refl _) F
  · replace F := F.2 c
    refine J_iconst (v := nI 1) dX4_lacks_9 (by decide) ?_
    refine J_goto (tgt := 25) dX4_lacks_10 (by decide) ?_
    obtain ⟨h_20, g9, F⟩ := F
    refine J_put (ci := 4) (k := 0) dX4_lacks_25 rfl in_X4_lacks_4 tyX4 tyX4_ok nmX4 (by decide) lk_X4_lacks_58 rfl rfl rfl rfl g9 ?_
    refine J_aload_n dX4_lacks_28 0 rfl ?_
    refine J_aload_n dX4_lacks_29 0 rfl ?_
    obtain ⟨v_21, g9, F⟩ := F
    refine J_get (ci := 4) (k := 0) dX4_lacks_30 rfl in_X4_lacks_4 (by decide) lk_X4_lacks_58 g9 ?_
    refine J_if_ne (tgt := 44) dX4_lacks_33 (by decide) (fun c => ?_) (fun c => ?_)
    · replace F := F.1 c
      refine J_iconst (v := -nI 1) dX4_lacks_44 (by decide) ?_
      obtain ⟨h_22, g9, F⟩ := F
      refine J_put (ci := 4) (k := 22) dX4_lacks_45 rfl in_X4_lacks_4 tyX4 tyX4_ok nmX4 (by decide) lk_X4_lacks_120 rfl rfl rfl rfl g9 ?_
      refine J_aload_n dX4_lacks_48 0 rfl ?_
      obtain ⟨v_23, g9, F⟩ := F
      refine J_get (ci := 4) (k := 0) dX4_lacks_49 rfl in_X4_lacks_4 (by decide) lk_X4_lacks_58 g9 ?_
      refine J_if_le (tgt := 59) dX4_lacks_52 (by decide) (fun c => ?_) (fun c => ?_)
      · replace F := F.1 c
        refine J_iconst (v := nI 0) dX4_lacks_59 (by decide) ?_
        exact J_zret dX4_lacks_60 rfl (by decide) (Nat.le_refl _) (Nat.le_refl _) F
      · replace F := F.2 c
        refine J_iconst (v := nI 1) dX4_lacks_55 (by decide) ?_
        refine J_goto (tgt := 60) dX4_lacks_56 (by decide) ?_
        exact J_zret dX4_lacks_60 rfl (by decide) (Nat.le_refl _) (Nat.le_refl _) F
    · replace F := F.2 c
      refine J_aload_n dX4_lacks_36 0 rfl ?_
      refine J_iload_n dX4_lacks_37 1 rfl ?_
      obtain ⟨b9, F⟩ := F
      refine J_callV0 (ci := 4) (n := 1) (As := [.int x1]) (rest := [.ref a0]) dX4_lacks_38 rfl gX4_lacks_X4_here rfl (by decide +kernel) rfl (by decide) b9 (Nat.le_of_ble_eq_true rfl) (Nat.le_refl _) (Nat.le_refl _) F kI_no (kI_kk (fun v_25 h_24 F => ?_))
      refine J_goto (tgt := 45) dX4_lacks_41 (by decide) ?_
      obtain ⟨h_26, g9, F⟩ := F
      refine J_put (ci := 4) (k := 22) dX4_lacks_45 rfl in_X4_lacks_4 tyX4 tyX4_ok nmX4 (by decide) lk_X4_lacks_120 rfl rfl rfl rfl g9 ?_
      refine J_aload_n dX4_lacks_48 0 rfl ?_
      obtain ⟨v_27, g9, F⟩ := F
      refine J_get (ci := 4) (k := 0) dX4_lacks_49 rfl in_X4_lacks_4 (by decide) lk_X4_lacks_58 g9 ?_
      refine J_if_le (tgt := 59) dX4_lacks_52 (by decide) (fun c => ?_) (fun c => ?_)
      · replace F := F.1 c
        refine J_iconst (v := nI 0) dX4_lacks_59 (by decide) ?_
        exact J_zret dX4_lacks_60 rfl (by decide) (Nat.le_refl _) (Nat.le_refl _) F
      · replace F := F.2 c
        refine J_iconst (v := nI 1) dX4_lacks_55 (by decide) ?_
        refine J_goto (tgt := 60) dX4_lacks_56 (by decide) ?_
        exact J_zret dX4_lacks_60 rfl (by decide) (Nat.le_refl _) (Nat.le_refl _) F

abbrev mX4_clear (l : Launch) (K : Kx) (As : List Value) (h : Hp) (Post : Rs → Hp → Prop) : Prop := MX l K yX4_clear wsX4_clear 4 86 0 0 As h Post
set_option maxRecDepth 100000 in
set_option maxHeartbeats 4000000 in
theorem fX4_clear {l : Launch} {K : Kx} {a0 : Nat} {x1 : Int32} {h : Hp} {Post : Rs → Hp → Prop} (htr : l.stackTraces = false)
    (F : ((∃ fs, h a0 = some (xO 4 fs)) ∧ mX4_lacks l K [.ref a0, .int x1] h (kI (fun v_2 h_1 => ((¬ v_2 = nI 0 → (Post (.inl (some (.int (nI 0)))) h_1)) ∧ (v_2 = nI 0 → (∃ v_3, gf h_1 a0 4 22 = some (.int v_3) ∧ ((nI 0 ≤ v_3 → (∃ v_4, gf h_1 a0 4 22 = some (.int v_4) ∧ ((∃ fs, h_1 a0 = some (xO 4 fs)) ∧ mX4_dropEntry l K [.ref a0, .int v_4] h_1 (kV (fun h_5 => (Post (.inl (some (.int (nI 1)))) h_5)))))) ∧ (¬ nI 0 ≤ v_3 → (Post (.inl (some (.int (nI 0)))) h_1)))))))))) :
    mX4_clear l K [.ref a0, .int x1] h Post := by
  refine MX.enter htr (by decide) rfl (Nat.le_of_ble_eq_true rfl) ?_
  refine J_lveq (lv' := [(0, .ref a0), (1, .int x1)]) rfl ?_
  refine J_aload_n dX4_clear_0 0 rfl ?_
  refine J_iload_n dX4_clear_1 1 rfl ?_
  obtain ⟨b9, F⟩ := F
  refine J_callV0 (ci := 4) (n := 1) (As := [.int x1]) (rest := []) dX4_clear_2 rfl gX4_clear_X4_lacks rfl (by decide +kernel) rfl (by decide) b9 (Nat.le_of_ble_eq_true rfl) (Nat.le_refl _) (Nat.le_refl _) F kI_no (kI_kk (fun v_2 h_1 F => ?_))
  refine J_if_ne (tgt := 15) dX4_clear_5 (by decide) (fun c => ?_) (fun c => ?_)
  · replace F := F.1 c
    refine J_iconst (v := nI 0) dX4_clear_15 (by decide) ?_
    exact J_zret dX4_clear_16 rfl (by decide) (Nat.le_refl _) (Nat.le_refl _) F
  · replace F := F.2 c
    refine J_aload_n dX4_clear_8 0 rfl ?_
    obtain ⟨v_3, g9, F⟩ := F
    refine J_get (ci := 4) (k := 22) dX4_clear_9 rfl in_X4_clear_4 (by decide) lk_X4_clear_120 g9 ?_
    refine J_if_ge (tgt := 17) dX4_clear_12 (by decide) (fun c => ?_) (fun c => ?_)
    · replace F := F.1 c
      refine J_aload_n dX4_clear_17 0 rfl ?_
      refine J_aload_n dX4_clear_18 0 rfl ?_
      obtain ⟨v_4, g9, F⟩ := F
      refine J_get (ci := 4) (k := 22) dX4_clear_19 rfl in_X4_clear_4 (by decide) lk_X4_clear_120 g9 ?_
      obtain ⟨b9, F⟩ := F
      refine J_callV0 (ci := 4) (n := 1) (As := [.int v_4]) (rest := []) dX4_clear_22 rfl gX4_clear_X4_dropEntry rfl (by decide +kernel) rfl (by decide) b9 (Nat.le_of_ble_eq_true rfl) (Nat.le_refl _) (Nat.le_refl _) F kV_no (kV_kk (fun h_5 F => ?_))
      refine J_iconst (v := nI 1) dX4_clear_25 (by decide) ?_
      exact J_zret dX4_clear_26 rfl (by decide) (Nat.le_refl _) (Nat.le_refl _) F
    · replace F := F.2 c
      refine J_iconst (v := nI 0) dX4_clear_15 (by decide) ?_
      exact J_zret dX4_clear_16 rfl (by decide) (Nat.le_refl _) (Nat.le_refl _) F

abbrev mX4_clearSpan (l : Launch) (K : Kx) (As : List Value) (h : Hp) (Post : Rs → Hp → Prop) : Prop := MX l K yX4_clearSpan wsX4_clearSpan 4 86 0 0 As h Post
set_option maxRecDepth 100000 in
set_option maxHeartbeats 4000000 in
theorem fX4_clearSpan {l : Launch} {K : Kx} {a0 : Nat} {h : Hp} {Post : Rs → Hp → Prop} (htr : l.stackTraces = false)
    (F : (∃ h_1, pf h a0 4 0 (.int (nI 0)) = some h_1 ∧ (∃ p_2, gf h_1 a0 4 6 = some (.ref p_2) ∧ (∃ v_3, aI K h_1 p_2 (nI 0) = some v_3 ∧ (∀ X_7 : Int32 → Int32 → Hp → Prop, (∀ (i_4 : Int32) (i_5 : Int32) (h_6 : Hp), (((i_5 < nI 0 → (Post (.inl (some (.int i_4))) h_6)) ∧ (¬ i_5 < nI 0 → (∃ p_8, gf h_6 a0 4 9 = some (.ref p_8) ∧ (∃ v_9, aI K h_6 p_8 i_5 = some v_9 ∧ (∃ v_10, gf h_6 a0 4 21 = some (.int v_10) ∧ ((¬ v_9 = v_10 → X_7 i_4 (i_5 + (-nI 1)) h_6) ∧ (v_9 = v_10 → ((∃ fs, h_6 a0 = some (xO 4 fs)) ∧ mX4_dropEntry l K [.ref a0, .int i_5] h_6 (kV (fun h_11 => X_7 (i_4 + nI 1) (i_5 + (-nI 1)) h_11))))))))))) → X_7 i_4 i_5 h_6) → X_7 (nI 0) (v_3 - (nI 1)) h_1))))) :
    mX4_clearSpan l K [.ref a0] h Post := by
  refine MX.enter htr (by decide) rfl (Nat.le_of_ble_eq_true rfl) ?_
  refine J_lveq (lv' := [(0, .ref a0)]) rfl ?_
  refine J_aload_n dX4_clearSpan_0 0 rfl ?_
  refine J_iconst (v := nI 0) dX4_clearSpan_1 (by decide) ?_
  obtain ⟨h_1, g9, F⟩ := F
  refine J_put (ci := 4) (k := 0) dX4_clearSpan_2 rfl in_X4_clearSpan_4 tyX4 tyX4_ok nmX4 (by decide) lk_X4_clearSpan_58 rfl rfl rfl rfl g9 ?_
  refine J_iconst (v := nI 0) dX4_clearSpan_5 (by decide) ?_
  refine J_istore_n (lv' := [(1, .int (nI 0)), (0, .ref a0)]) dX4_clearSpan_6 rfl (by decide) rfl ?_
  refine J_aload_n dX4_clearSpan_7 1 rfl ?_
  obtain ⟨p_2, g9, F⟩ := F
  refine J_get (ci := 4) (k := 6) dX4_clearSpan_8 rfl in_X4_clearSpan_4 (by decide) lk_X4_clearSpan_22 g9 ?_
  refine J_iconst (v := nI 0) dX4_clearSpan_11 (by decide) ?_
  obtain ⟨v_3, g9, F⟩ := F
  refine J_iald dX4_clearSpan_12 g9 ?_
  refine J_iconst (v := nI 1) dX4_clearSpan_13 (by decide) ?_
  refine J_isub dX4_clearSpan_14 ?_
  refine J_istore_n (lv' := [(2, .int (v_3 - (nI 1))), (1, .int (nI 0)), (0, .ref a0)]) dX4_clearSpan_15 rfl (by decide) rfl ?_
  refine J_sub [2, 1, 0] rfl ?_
  refine F (fun (i_4 : Int32) (i_5 : Int32) (h_6 : Hp) => J l K yX4_clearSpan.cls cX4_clearSpan 3 (some .int) wsX4_clearSpan [] yX4_clearSpan.name 4 86 0 0 (QM K 0 0 Post) 16 [] [(0, .ref a0), (1, .int i_4), (2, .int i_5)] h_6 0 0) ?_
  intro i_4 i_5 h_6 F
  refine J_iload_n dX4_clearSpan_16 2 rfl ?_
  refine J_if_lt (tgt := 47) dX4_clearSpan_17 (by decide) (fun c => ?_) (fun c => ?_)
  · replace F := F.1 c
    refine J_iload_n dX4_clearSpan_47 1 rfl ?_
    exact J_iret dX4_clearSpan_48 rfl (Nat.le_refl _) (Nat.le_refl _) F
  · replace F := F.2 c
    refine J_aload_n dX4_clearSpan_20 0 rfl ?_
    obtain ⟨p_8, g9, F⟩ := F
    refine J_get (ci := 4) (k := 9) dX4_clearSpan_21 rfl in_X4_clearSpan_4 (by decide) lk_X4_clearSpan_32 g9 ?_
    refine J_iload_n dX4_clearSpan_24 2 rfl ?_
    obtain ⟨v_9, g9, F⟩ := F
    refine J_iald dX4_clearSpan_25 g9 ?_
    refine J_aload_n dX4_clearSpan_26 0 rfl ?_
    obtain ⟨v_10, g9, F⟩ := F
    refine J_get (ci := 4) (k := 21) dX4_clearSpan_27 rfl in_X4_clearSpan_4 (by decide) lk_X4_clearSpan_84 g9 ?_
    refine J_icmp_ne (tgt := 41) dX4_clearSpan_30 (by decide) (fun c => ?_) (fun c => ?_)
    · replace F := F.1 c
      refine J_iinc (v := i_5 + (-nI 1)) (lv' := [(2, .int (i_5 + (-nI 1))), (0, .ref a0), (1, .int i_4)]) dX4_clearSpan_41 2 rfl rfl (by decide) rfl ?_
      refine J_goto (tgt := 16) dX4_clearSpan_44 (by decide) ?_
      exact J_sub [1, 2, 0] rfl F
    · replace F := F.2 c
      refine J_aload_n dX4_clearSpan_33 0 rfl ?_
      refine J_iload_n dX4_clearSpan_34 2 rfl ?_
      obtain ⟨b9, F⟩ := F
      refine J_callV0 (ci := 4) (n := 1) (As := [.int i_5]) (rest := []) dX4_clearSpan_35 rfl gX4_clearSpan_X4_dropEntry rfl (by decide +kernel) rfl (by decide) b9 (Nat.le_of_ble_eq_true rfl) (Nat.le_refl _) (Nat.le_refl _) F kV_no (kV_kk (fun h_11 F => ?_))
      refine J_iinc (v := i_4 + nI 1) (lv' := [(1, .int (i_4 + nI 1)), (0, .ref a0), (2, .int i_5)]) dX4_clearSpan_38 1 rfl rfl (by decide) rfl ?_
      refine J_iinc (v := i_5 + (-nI 1)) (lv' := [(2, .int (i_5 + (-nI 1))), (1, .int (i_4 + nI 1)), (0, .ref a0)]) dX4_clearSpan_41 2 rfl rfl (by decide) rfl ?_
      refine J_goto (tgt := 16) dX4_clearSpan_44 (by decide) ?_
      exact J_sub [2, 1, 0] rfl F

abbrev mX4_copyAll (l : Launch) (K : Kx) (As : List Value) (h : Hp) (Post : Rs → Hp → Prop) : Prop := MX l K yX4_copyAll wsX4_copyAll 1 23 0 0 As h Post
set_option maxRecDepth 100000 in
set_option maxHeartbeats 4000000 in
theorem fX4_copyAll {l : Launch} {K : Kx} {a0 : Nat} {x1 : Int32} {x2 : Int32} {h : Hp} {Post : Rs → Hp → Prop} (htr : l.stackTraces = false)
    (F : (∃ p_1, gf h a0 4 6 = some (.ref p_1) ∧ (∃ p_2, gf h a0 4 6 = some (.ref p_2) ∧ (∃ v_3, aI K h p_2 x1 = some v_3 ∧ (∃ h_4, wI K h p_1 x2 v_3 = some h_4 ∧ (∀ X_7 : Int32 → Hp → Prop, (∀ (i_5 : Int32) (h_6 : Hp), ((∃ p_8, gf h_6 a0 4 6 = some (.ref p_8) ∧ (∃ v_9, aI K h_6 p_8 x1 = some v_9 ∧ ((v_9 ≤ i_5 → (∀ X_12 : Int32 → Hp → Prop, (∀ (i_10 : Int32) (h_11 : Hp), ((((nI 16) ≤ i_10 → (Post (.inl none) h_11)) ∧ (¬ (nI 16) ≤ i_10 → (∃ p_13, gf h_11 a0 4 13 = some (.ref p_13) ∧ (∃ p_14, gf h_11 a0 4 13 = some (.ref p_14) ∧ (∃ v_15, aI K h_11 p_14 (((nI 16) * x1) + i_10) = some v_15 ∧ (∃ h_16, wI K h_11 p_13 (((nI 16) * x2) + i_10) v_15 = some h_16 ∧ X_12 (i_10 + nI 1) h_16))))))) → X_12 i_10 h_11) → X_12 (nI 0) h_6)) ∧ (¬ v_9 ≤ i_5 → ((∃ fs, h_6 a0 = some (xO 4 fs)) ∧ mX4_copyEntry l K [.ref a0, .int (((nI 150) * x1) + i_5), .int (((nI 150) * x2) + i_5)] h_6 (kV (fun h_17 => X_7 (i_5 + nI 1) h_17)))))))) → X_7 i_5 h_6) → X_7 (nI 0) h_4)))))) :
    mX4_copyAll l K [.ref a0, .int x1, .int x2] h Post := by
  refine MX.enter htr (by decide) rfl (Nat.le_of_ble_eq_true rfl) ?_
  refine J_lveq (lv' := [(0, .ref a0), (1, .int x1), (2, .int x2)]) rfl ?_
  refine J_aload_n dX4_copyAll_0 0 rfl ?_
  obtain ⟨p_1, g9, F⟩ := F
  refine J_get (ci := 4) (k := 6) dX4_copyAll_1 rfl in_X4_copyAll_4 (by decide) lk_X4_copyAll_22 g9 ?_
  refine J_iload_n dX4_copyAll_4 2 rfl ?_
  refine J_aload_n dX4_copyAll_5 0 rfl ?_
  obtain ⟨p_2, g9, F⟩ := F
  refine J_get (ci := 4) (k := 6) dX4_copyAll_6 rfl in_X4_copyAll_4 (by decide) lk_X4_copyAll_22 g9 ?_
  refine J_iload_n dX4_copyAll_9 1 rfl ?_
  obtain ⟨v_3, g9, F⟩ := F
  refine J_iald dX4_copyAll_10 g9 ?_
  obtain ⟨h_4, g9, F⟩ := F
  refine J_iast dX4_copyAll_11 g9 ?_
  refine J_iconst (v := nI 0) dX4_copyAll_12 (by decide) ?_
  refine J_istore_n (lv' := [(3, .int (nI 0)), (0, .ref a0), (1, .int x1), (2, .int x2)]) dX4_copyAll_13 rfl (by decide) rfl ?_
  refine J_sub [1, 2, 3, 0] rfl ?_
  refine F (fun (i_5 : Int32) (h_6 : Hp) => J l K yX4_copyAll.cls cX4_copyAll 4 none wsX4_copyAll [] yX4_copyAll.name 1 23 0 0 (QM K 0 0 Post) 14 [] [(0, .ref a0), (1, .int x1), (2, .int x2), (3, .int i_5)] h_6 0 0) ?_
  intro i_5 h_6 F
  refine J_iload_n dX4_copyAll_14 3 rfl ?_
  refine J_aload_n dX4_copyAll_15 0 rfl ?_
  obtain ⟨p_8, g9, F⟩ := F
  refine J_get (ci := 4) (k := 6) dX4_copyAll_16 rfl in_X4_copyAll_4 (by decide) lk_X4_copyAll_22 g9 ?_
  refine J_iload_n dX4_copyAll_19 1 rfl ?_
  obtain ⟨v_9, g9, F⟩ := F
  refine J_iald dX4_copyAll_20 g9 ?_
  refine J_icmp_ge (tgt := 48) dX4_copyAll_21 (by decide) (fun c => ?_) (fun c => ?_)
  · replace F := F.1 c
    refine J_iconst (v := nI 0) dX4_copyAll_48 (by decide) ?_
    refine J_istore_n (lv' := [(3, .int (nI 0)), (0, .ref a0), (1, .int x1), (2, .int x2)]) dX4_copyAll_49 rfl (by decide) rfl ?_
    refine J_sub [1, 2, 3, 0] rfl ?_
    refine F (fun (i_10 : Int32) (h_11 : Hp) => J l K yX4_copyAll.cls cX4_copyAll 4 none wsX4_copyAll [] yX4_copyAll.name 1 23 0 0 (QM K 0 0 Post) 50 [] [(0, .ref a0), (1, .int x1), (2, .int x2), (3, .int i_10)] h_11 0 0) ?_
    intro i_10 h_11 F
    refine J_iload_n dX4_copyAll_50 3 rfl ?_
    refine J_bipush (v := nI 16) dX4_copyAll_51 (by decide) ?_
    refine J_icmp_ge (tgt := 84) dX4_copyAll_53 (by decide) (fun c => ?_) (fun c => ?_)
    · replace F := F.1 c
      exact J_vret dX4_copyAll_84 rfl (Nat.le_refl _) (Nat.le_refl _) F
    · replace F := F.2 c
      refine J_aload_n dX4_copyAll_56 0 rfl ?_
      obtain ⟨p_13, g9, F⟩ := F
      refine J_get (ci := 4) (k := 13) dX4_copyAll_57 rfl in_X4_copyAll_4 (by decide) lk_X4_copyAll_44 g9 ?_
      refine J_bipush (v := nI 16) dX4_copyAll_60 (by decide) ?_
      refine J_iload_n dX4_copyAll_62 2 rfl ?_
      refine J_imul dX4_copyAll_63 ?_
      refine J_iload_n dX4_copyAll_64 3 rfl ?_
      refine J_iadd dX4_copyAll_65 ?_
      refine J_aload_n dX4_copyAll_66 0 rfl ?_
      obtain ⟨p_14, g9, F⟩ := F
      refine J_get (ci := 4) (k := 13) dX4_copyAll_67 rfl in_X4_copyAll_4 (by decide) lk_X4_copyAll_44 g9 ?_
      refine J_bipush (v := nI 16) dX4_copyAll_70 (by decide) ?_
      refine J_iload_n dX4_copyAll_72 1 rfl ?_
      refine J_imul dX4_copyAll_73 ?_
      refine J_iload_n dX4_copyAll_74 3 rfl ?_
      refine J_iadd dX4_copyAll_75 ?_
      obtain ⟨v_15, g9, F⟩ := F
      refine J_iald dX4_copyAll_76 g9 ?_
      obtain ⟨h_16, g9, F⟩ := F
      refine J_iast dX4_copyAll_77 g9 ?_
      refine J_iinc (v := i_10 + nI 1) (lv' := [(3, .int (i_10 + nI 1)), (0, .ref a0), (1, .int x1), (2, .int x2)]) dX4_copyAll_78 3 rfl rfl (by decide) rfl ?_
      refine J_goto (tgt := 50) dX4_copyAll_81 (by decide) ?_
      exact J_sub [1, 2, 3, 0] rfl F
  · replace F := F.2 c
    refine J_aload_n dX4_copyAll_24 0 rfl ?_
    refine J_sipush (v := nI 150) dX4_copyAll_25 (by decide) ?_
    refine J_iload_n dX4_copyAll_28 1 rfl ?_
    refine J_imul dX4_copyAll_29 ?_
    refine J_iload_n dX4_copyAll_30 3 rfl ?_
    refine J_iadd dX4_copyAll_31 ?_
    refine J_sipush (v := nI 150) dX4_copyAll_32 (by decide) ?_
    refine J_iload_n dX4_copyAll_35 2 rfl ?_
    refine J_imul dX4_copyAll_36 ?_
    refine J_iload_n dX4_copyAll_37 3 rfl ?_
    refine J_iadd dX4_copyAll_38 ?_
    obtain ⟨b9, F⟩ := F
    refine J_callV0 (ci := 4) (n := 2) (As := [.int (((nI 150) * x1) + i_5), .int (((nI 150) * x2) + i_5)]) (rest := []) dX4_copyAll_39 rfl gX4_copyAll_X4_copyEntry rfl (by decide +kernel) rfl (by decide) b9 (Nat.le_of_ble_eq_true rfl) (Nat.le_refl _) (Nat.le_refl _) F kV_no (kV_kk (fun h_17 F => ?_))
    refine J_iinc (v := i_5 + nI 1) (lv' := [(3, .int (i_5 + nI 1)), (0, .ref a0), (1, .int x1), (2, .int x2)]) dX4_copyAll_42 3 rfl rfl (by decide) rfl ?_
    refine J_goto (tgt := 14) dX4_copyAll_45 (by decide) ?_
    exact J_sub [1, 2, 3, 0] rfl F

abbrev mX4_sharedPages (l : Launch) (K : Kx) (As : List Value) (h : Hp) (Post : Rs → Hp → Prop) : Prop := MX l K yX4_sharedPages wsX4_sharedPages 1 23 0 0 As h Post
set_option maxRecDepth 100000 in
set_option maxHeartbeats 4000000 in
theorem fX4_sharedPages {l : Launch} {K : Kx} {a0 : Nat} {h : Hp} {Post : Rs → Hp → Prop} (htr : l.stackTraces = false)
    (F : (∀ X_4 : Int32 → Int32 → Hp → Prop, (∀ (i_1 : Int32) (i_2 : Int32) (h_3 : Hp), ((((nI 16) ≤ i_2 → (Post (.inl (some (.int i_1))) h_3)) ∧ (¬ (nI 16) ≤ i_2 → ((∃ fs, h_3 a0 = some (xO 4 fs)) ∧ mX4_isShared l K [.ref a0, .int i_2] h_3 (kI (fun v_6 h_5 => ((v_6 = nI 0 → X_4 (i_1 + (nI 0)) (i_2 + nI 1) h_5) ∧ (¬ v_6 = nI 0 → X_4 (i_1 + (nI 1)) (i_2 + nI 1) h_5)))))))) → X_4 i_1 i_2 h_3) → X_4 (nI 0) (nI 0) h)) :
    mX4_sharedPages l K [.ref a0] h Post := by
  refine MX.enter htr (by decide) rfl (Nat.le_of_ble_eq_true rfl) ?_
  refine J_lveq (lv' := [(0, .ref a0)]) rfl ?_
  refine J_iconst (v := nI 0) dX4_sharedPages_0 (by decide) ?_
  refine J_istore_n (lv' := [(1, .int (nI 0)), (0, .ref a0)]) dX4_sharedPages_1 rfl (by decide) rfl ?_
  refine J_iconst (v := nI 0) dX4_sharedPages_2 (by decide) ?_
  refine J_istore_n (lv' := [(2, .int (nI 0)), (1, .int (nI 0)), (0, .ref a0)]) dX4_sharedPages_3 rfl (by decide) rfl ?_
  refine J_sub [2, 1, 0] rfl ?_
  refine F (fun (i_1 : Int32) (i_2 : Int32) (h_3 : Hp) => J l K yX4_sharedPages.cls cX4_sharedPages 3 (some .int) wsX4_sharedPages [] yX4_sharedPages.name 1 23 0 0 (QM K 0 0 Post) 4 [] [(0, .ref a0), (1, .int i_1), (2, .int i_2)] h_3 0 0) ?_
  intro i_1 i_2 h_3 F
  refine J_iload_n dX4_sharedPages_4 2 rfl ?_
  refine J_bipush (v := nI 16) dX4_sharedPages_5 (by decide) ?_
  refine J_icmp_ge (tgt := 32) dX4_sharedPages_7 (by decide) (fun c => ?_) (fun c => ?_)
  · replace F := F.1 c
    refine J_iload_n dX4_sharedPages_32 1 rfl ?_
    exact J_iret dX4_sharedPages_33 rfl (Nat.le_refl _) (Nat.le_refl _) F
  · replace F := F.2 c
    refine J_iload_n dX4_sharedPages_10 1 rfl ?_
    refine J_aload_n dX4_sharedPages_11 0 rfl ?_
    refine J_iload_n dX4_sharedPages_12 2 rfl ?_
    obtain ⟨b9, F⟩ := F
    refine J_callV0 (ci := 4) (n := 1) (As := [.int i_2]) (rest := [.int i_1]) dX4_sharedPages_13 rfl gX4_sharedPages_X4_isShared rfl (by decide +kernel) rfl (by decide) b9 (Nat.le_of_ble_eq_true rfl) (Nat.le_refl _) (Nat.le_refl _) F kI_no (kI_kk (fun v_6 h_5 F => ?_))
    refine J_if_eq (tgt := 23) dX4_sharedPages_16 (by decide) (fun c => ?_) (fun c => ?_)
    · replace F := F.1 c
      refine J_iconst (v := nI 0) dX4_sharedPages_23 (by decide) ?_
      refine J_iadd dX4_sharedPages_24 ?_
      refine J_istore_n (lv' := [(1, .int (i_1 + (nI 0))), (0, .ref a0), (2, .int i_2)]) dX4_sharedPages_25 rfl (by decide) rfl ?_
      refine J_iinc (v := i_2 + nI 1) (lv' := [(2, .int (i_2 + nI 1)), (1, .int (i_1 + (nI 0))), (0, .ref a0)]) dX4_sharedPages_26 2 rfl rfl (by decide) rfl ?_
      refine J_goto (tgt := 4) dX4_sharedPages_29 (by decide) ?_
      exact J_sub [2, 1, 0] rfl F
    · replace F := F.2 c
      refine J_iconst (v := nI 1) dX4_sharedPages_19 (by decide) ?_
      refine J_goto (tgt := 24) dX4_sharedPages_20 (by decide) ?_
      refine J_iadd dX4_sharedPages_24 ?_
      refine J_istore_n (lv' := [(1, .int (i_1 + (nI 1))), (0, .ref a0), (2, .int i_2)]) dX4_sharedPages_25 rfl (by decide) rfl ?_
      refine J_iinc (v := i_2 + nI 1) (lv' := [(2, .int (i_2 + nI 1)), (1, .int (i_1 + (nI 1))), (0, .ref a0)]) dX4_sharedPages_26 2 rfl rfl (by decide) rfl ?_
      refine J_goto (tgt := 4) dX4_sharedPages_29 (by decide) ?_
      exact J_sub [2, 1, 0] rfl F

abbrev mX4_drop (l : Launch) (K : Kx) (As : List Value) (h : Hp) (Post : Rs → Hp → Prop) : Prop := MX l K yX4_drop wsX4_drop 2 45 0 0 As h Post
set_option maxRecDepth 100000 in
set_option maxHeartbeats 4000000 in
theorem fX4_drop {l : Launch} {K : Kx} {a0 : Nat} {x1 : Int32} {h : Hp} {Post : Rs → Hp → Prop} (htr : l.stackTraces = false)
    (F : (∃ h_1, pf h a0 4 0 (.int (nI 0)) = some h_1 ∧ ((∃ fs, h_1 a0 = some (xO 4 fs)) ∧ mX4_copyOf l K [.ref a0, .int x1] h_1 (kI (fun v_3 h_2 => ((¬ v_3 = nI 0 → (∃ p_4, gf h_2 a0 4 14 = some (.ref p_4) ∧ (∃ h_5, wZ K h_2 p_4 v_3 (nI 0) = some h_5 ∧ ((∃ fs, h_5 a0 = some (xO 4 fs)) ∧ mX4_sharedPages l K [.ref a0] h_5 (kI (fun v_7 h_6 => (Post (.inl (some (.int v_7))) h_6))))))) ∧ (v_3 = nI 0 → ((∃ fs, h_2 a0 = some (xO 4 fs)) ∧ mX4_fails l K [.ref a0, .int (nI 1)] h_2 (kI (fun v_9 h_8 => (Post (.inl (some (.int v_9))) h_8))))))))))) :
    mX4_drop l K [.ref a0, .int x1] h Post := by
  refine MX.enter htr (by decide) rfl (Nat.le_of_ble_eq_true rfl) ?_
  refine J_lveq (lv' := [(0, .ref a0), (1, .int x1)]) rfl ?_
  refine J_aload_n dX4_drop_0 0 rfl ?_
  refine J_iconst (v := nI 0) dX4_drop_1 (by decide) ?_
  obtain ⟨h_1, g9, F⟩ := F
  refine J_put (ci := 4) (k := 0) dX4_drop_2 rfl in_X4_drop_4 tyX4 tyX4_ok nmX4 (by decide) lk_X4_drop_58 rfl rfl rfl rfl g9 ?_
  refine J_aload_n dX4_drop_5 0 rfl ?_
  refine J_iload_n dX4_drop_6 1 rfl ?_
  obtain ⟨b9, F⟩ := F
  refine J_callV0 (ci := 4) (n := 1) (As := [.int x1]) (rest := []) dX4_drop_7 rfl gX4_drop_X4_copyOf rfl (by decide +kernel) rfl (by decide) b9 (Nat.le_of_ble_eq_true rfl) (Nat.le_refl _) (Nat.le_refl _) F kI_no (kI_kk (fun v_3 h_2 F => ?_))
  refine J_istore_n (lv' := [(2, .int v_3), (0, .ref a0), (1, .int x1)]) dX4_drop_10 rfl (by decide) rfl ?_
  refine J_iload_n dX4_drop_11 0 rfl ?_
  refine J_if_ne (tgt := 21) dX4_drop_12 (by decide) (fun c => ?_) (fun c => ?_)
  · replace F := F.1 c
    refine J_aload_n dX4_drop_21 1 rfl ?_
    obtain ⟨p_4, g9, F⟩ := F
    refine J_get (ci := 4) (k := 14) dX4_drop_22 rfl in_X4_drop_4 (by decide) lk_X4_drop_47 g9 ?_
    refine J_iload_n dX4_drop_25 0 rfl ?_
    refine J_iconst (v := nI 0) dX4_drop_26 (by decide) ?_
    obtain ⟨h_5, g9, F⟩ := F
    refine J_zast dX4_drop_27 (by decide) g9 ?_
    refine J_aload_n dX4_drop_28 1 rfl ?_
    obtain ⟨b9, F⟩ := F
    refine J_callV0 (ci := 4) (n := 0) (As := []) (rest := []) dX4_drop_29 rfl gX4_drop_X4_sharedPages rfl (by decide +kernel) rfl (by decide) b9 (Nat.le_of_ble_eq_true rfl) (Nat.le_refl _) (Nat.le_refl _) F kI_no (kI_kk (fun v_7 h_6 F => ?_))
    exact J_iret dX4_drop_32 rfl (Nat.le_refl _) (Nat.le_refl _) F
  · replace F := F.2 c
    refine J_aload_n dX4_drop_15 1 rfl ?_
    refine J_iconst (v := nI 1) dX4_drop_16 (by decide) ?_
    obtain ⟨b9, F⟩ := F
    refine J_callV0 (ci := 4) (n := 1) (As := [.int (nI 1)]) (rest := []) dX4_drop_17 rfl gX4_drop_X4_fails rfl (by decide +kernel) rfl (by decide) b9 (Nat.le_of_ble_eq_true rfl) (Nat.le_refl _) (Nat.le_refl _) F kI_no (kI_kk (fun v_9 h_8 F => ?_))
    exact J_iret dX4_drop_20 rfl (Nat.le_refl _) (Nat.le_refl _) F

abbrev mX4_entries (l : Launch) (K : Kx) (As : List Value) (h : Hp) (Post : Rs → Hp → Prop) : Prop := MX l K yX4_entries wsX4_entries 1 22 0 0 As h Post
set_option maxRecDepth 100000 in
set_option maxHeartbeats 4000000 in
theorem fX4_entries {l : Launch} {K : Kx} {a0 : Nat} {x1 : Int32} {x2 : Int32} {h : Hp} {Post : Rs → Hp → Prop} (htr : l.stackTraces = false)
    (F : (∃ h_1, pf h a0 4 0 (.int (nI 0)) = some h_1 ∧ ((¬ x1 = (-nI 1) → ((∃ fs, h_1 a0 = some (xO 4 fs)) ∧ mX4_copyOf l K [.ref a0, .int x1] h_1 (kI (fun v_3 h_2 => ((∃ fs, h_2 a0 = some (xO 4 fs)) ∧ mX4_isState l K [.ref a0, .int x2] h_2 (kI (fun v_5 h_4 => ((v_5 = nI 0 → ((∃ fs, h_4 a0 = some (xO 4 fs)) ∧ mX4_fails l K [.ref a0, .int (nI 1)] h_4 (kI (fun v_7 h_6 => (Post (.inl (some (.int v_7))) h_6))))) ∧ (¬ v_5 = nI 0 → ((x1 = (-nI 1) → (∀ X_10 : Int32 → Int32 → Prop, (∀ (i_8 : Int32) (i_9 : Int32), ((∃ p_11, gf h_4 a0 4 6 = some (.ref p_11) ∧ (∃ v_12, aI K h_4 p_11 v_3 = some v_12 ∧ (((((nI 150) * v_3) + v_12) ≤ i_9 → (Post (.inl (some (.int i_8))) h_4)) ∧ (¬ (((nI 150) * v_3) + v_12) ≤ i_9 → (∃ p_13, gf h_4 a0 4 7 = some (.ref p_13) ∧ (∃ v_14, aI K h_4 p_13 i_9 = some v_14 ∧ ((¬ v_14 = x2 → X_10 (i_8 + (nI 0)) (i_9 + nI 1)) ∧ (v_14 = x2 → X_10 (i_8 + (nI 1)) (i_9 + nI 1)))))))))) → X_10 i_8 i_9) → X_10 (nI 0) ((nI 150) * v_3))) ∧ (¬ x1 = (-nI 1) → ((¬ v_3 = nI 0 → (∀ X_17 : Int32 → Int32 → Prop, (∀ (i_15 : Int32) (i_16 : Int32), ((∃ p_18, gf h_4 a0 4 6 = some (.ref p_18) ∧ (∃ v_19, aI K h_4 p_18 v_3 = some v_19 ∧ (((((nI 150) * v_3) + v_19) ≤ i_16 → (Post (.inl (some (.int i_15))) h_4)) ∧ (¬ (((nI 150) * v_3) + v_19) ≤ i_16 → (∃ p_20, gf h_4 a0 4 7 = some (.ref p_20) ∧ (∃ v_21, aI K h_4 p_20 i_16 = some v_21 ∧ ((¬ v_21 = x2 → X_17 (i_15 + (nI 0)) (i_16 + nI 1)) ∧ (v_21 = x2 → X_17 (i_15 + (nI 1)) (i_16 + nI 1)))))))))) → X_17 i_15 i_16) → X_17 (nI 0) ((nI 150) * v_3))) ∧ (v_3 = nI 0 → ((∃ fs, h_4 a0 = some (xO 4 fs)) ∧ mX4_fails l K [.ref a0, .int (nI 1)] h_4 (kI (fun v_23 h_22 => (Post (.inl (some (.int v_23))) h_22))))))))))))))))) ∧ (x1 = (-nI 1) → ((∃ fs, h_1 a0 = some (xO 4 fs)) ∧ mX4_isState l K [.ref a0, .int x2] h_1 (kI (fun v_25 h_24 => ((v_25 = nI 0 → ((∃ fs, h_24 a0 = some (xO 4 fs)) ∧ mX4_fails l K [.ref a0, .int (nI 1)] h_24 (kI (fun v_27 h_26 => (Post (.inl (some (.int v_27))) h_26))))) ∧ (¬ v_25 = nI 0 → ((x1 = (-nI 1) → (∀ X_30 : Int32 → Int32 → Prop, (∀ (i_28 : Int32) (i_29 : Int32), ((∃ p_31, gf h_24 a0 4 6 = some (.ref p_31) ∧ (∃ v_32, aI K h_24 p_31 (nI 0) = some v_32 ∧ (((((nI 150) * (nI 0)) + v_32) ≤ i_29 → (Post (.inl (some (.int i_28))) h_24)) ∧ (¬ (((nI 150) * (nI 0)) + v_32) ≤ i_29 → (∃ p_33, gf h_24 a0 4 7 = some (.ref p_33) ∧ (∃ v_34, aI K h_24 p_33 i_29 = some v_34 ∧ ((¬ v_34 = x2 → X_30 (i_28 + (nI 0)) (i_29 + nI 1)) ∧ (v_34 = x2 → X_30 (i_28 + (nI 1)) (i_29 + nI 1)))))))))) → X_30 i_28 i_29) → X_30 (nI 0) ((nI 150) * (nI 0)))) ∧ (¬ x1 = (-nI 1) → ((¬ (nI 0) = nI 0 → (∀ X_37 : Int32 → Int32 → Prop, (∀ (i_35 : Int32) (i_36 : Int32), ((∃ p_38, gf h_24 a0 4 6 = some (.ref p_38) ∧ (∃ v_39, aI K h_24 p_38 (nI 0) = some v_39 ∧ (((((nI 150) * (nI 0)) + v_39) ≤ i_36 → (Post (.inl (some (.int i_35))) h_24)) ∧ (¬ (((nI 150) * (nI 0)) + v_39) ≤ i_36 → (∃ p_40, gf h_24 a0 4 7 = some (.ref p_40) ∧ (∃ v_41, aI K h_24 p_40 i_36 = some v_41 ∧ ((¬ v_41 = x2 → X_37 (i_35 + (nI 0)) (i_36 + nI 1)) ∧ (v_41 = x2 → X_37 (i_35 + (nI 1)) (i_36 + nI 1)))))))))) → X_37 i_35 i_36) → X_37 (nI 0) ((nI 150) * (nI 0)))) ∧ ((nI 0) = nI 0 → ((∃ fs, h_24 a0 = some (xO 4 fs)) ∧ mX4_fails l K [.ref a0, .int (nI 1)] h_24 (kI (fun v_43 h_42 => (Post (.inl (some (.int v_43))) h_42))))))))))))))))) :
    mX4_entries l K [.ref a0, .int x1, .int x2] h Post := by
  refine MX.enter htr (by decide) rfl (Nat.le_of_ble_eq_true rfl) ?_
  refine J_lveq (lv' := [(0, .ref a0), (1, .int x1), (2, .int x2)]) rfl ?_
  refine J_aload_n dX4_entries_0 0 rfl ?_
  refine J_iconst (v := nI 0) dX4_entries_1 (by decide) ?_
  obtain ⟨h_1, g9, F⟩ := F
  refine J_put (ci := 4) (k := 0) dX4_entries_2 rfl in_X4_entries_4 tyX4 tyX4_ok nmX4 (by decide) lk_X4_entries_58 rfl rfl rfl rfl g9 ?_
  refine J_iload_n dX4_entries_5 1 rfl ?_
  refine J_iconst (v := -nI 1) dX4_entries_6 (by decide) ?_
  refine J_icmp_ne (tgt := 14) dX4_entries_7 (by decide) (fun c => ?_) (fun c => ?_)
  · replace F := F.1 c
    refine J_aload_n dX4_entries_14 0 rfl ?_
    refine J_iload_n dX4_entries_15 1 rfl ?_
    obtain ⟨b9, F⟩ := F
    refine J_callV0 (ci := 4) (n := 1) (As := [.int x1]) (rest := []) dX4_entries_16 rfl gX4_entries_X4_copyOf rfl (by decide +kernel) rfl (by decide) b9 (Nat.le_of_ble_eq_true rfl) (Nat.le_refl _) (Nat.le_refl _) F kI_no (kI_kk (fun v_3 h_2 F => ?_))
    refine J_istore_n (lv' := [(3, .int v_3), (0, .ref a0), (1, .int x1), (2, .int x2)]) dX4_entries_19 rfl (by decide) rfl ?_
    refine J_aload_n dX4_entries_20 1 rfl ?_
    refine J_iload_n dX4_entries_21 3 rfl ?_
    obtain ⟨b9, F⟩ := F
    refine J_callV0 (ci := 4) (n := 1) (As := [.int x2]) (rest := []) dX4_entries_22 rfl gX4_entries_X4_isState rfl (by decide +kernel) rfl (by decide) b9 (Nat.le_of_ble_eq_true rfl) (Nat.le_refl _) (Nat.le_refl _) F kI_no (kI_kk (fun v_5 h_4 F => ?_))
    refine J_if_eq (tgt := 37) dX4_entries_25 (by decide) (fun c => ?_) (fun c => ?_)
    · replace F := F.1 c
      refine J_aload_n dX4_entries_37 1 rfl ?_
      refine J_iconst (v := nI 1) dX4_entries_38 (by decide) ?_
      obtain ⟨b9, F⟩ := F
      refine J_callV0 (ci := 4) (n := 1) (As := [.int (nI 1)]) (rest := []) dX4_entries_39 rfl gX4_entries_X4_fails rfl (by decide +kernel) rfl (by decide) b9 (Nat.le_of_ble_eq_true rfl) (Nat.le_refl _) (Nat.le_refl _) F kI_no (kI_kk (fun v_7 h_6 F => ?_))
      exact J_iret dX4_entries_42 rfl (Nat.le_refl _) (Nat.le_refl _) F
    · replace F := F.2 c
      refine J_iload_n dX4_entries_28 2 rfl ?_
      refine J_iconst (v := -nI 1) dX4_entries_29 (by decide) ?_
      refine J_icmp_eq (tgt := 43) dX4_entries_30 (by decide) (fun c => ?_) (fun c => ?_)
      · replace F := F.1 c
        refine J_iconst (v := nI 0) dX4_entries_43 (by decide) ?_
        refine J_istore (lv' := [(4, .int (nI 0)), (3, .int v_3), (0, .ref a0), (1, .int x1), (2, .int x2)]) dX4_entries_44 (by decide) rfl ?_
        refine J_sipush (v := nI 150) dX4_entries_46 (by decide) ?_
        refine J_iload_n dX4_entries_49 1 rfl ?_
        refine J_imul dX4_entries_50 ?_
        refine J_istore (lv' := [(5, .int ((nI 150) * v_3)), (4, .int (nI 0)), (3, .int v_3), (0, .ref a0), (1, .int x1), (2, .int x2)]) dX4_entries_51 (by decide) rfl ?_
        refine J_sub [3, 5, 2, 1, 0] rfl ?_
        refine F (fun (i_8 : Int32) (i_9 : Int32) => J l K yX4_entries.cls cX4_entries 6 (some .int) wsX4_entries [] yX4_entries.name 1 22 0 0 (QM K 0 0 Post) 53 [] [(0, .ref a0), (2, .int x2), (3, .int v_3), (4, .int i_8), (5, .int i_9)] h_4 ((0 + 0) + 0) ((0 + 0) + 0)) ?_
        intro i_8 i_9 F
        refine J_iload dX4_entries_53 4 rfl ?_
        refine J_sipush (v := nI 150) dX4_entries_55 (by decide) ?_
        refine J_iload_n dX4_entries_58 2 rfl ?_
        refine J_imul dX4_entries_59 ?_
        refine J_aload_n dX4_entries_60 0 rfl ?_
        obtain ⟨p_11, g9, F⟩ := F
        refine J_get (ci := 4) (k := 6) dX4_entries_61 rfl in_X4_entries_4 (by decide) lk_X4_entries_22 g9 ?_
        refine J_iload_n dX4_entries_64 2 rfl ?_
        obtain ⟨v_12, g9, F⟩ := F
        refine J_iald dX4_entries_65 g9 ?_
        refine J_iadd dX4_entries_66 ?_
        refine J_icmp_ge (tgt := 97) dX4_entries_67 (by decide) (fun c => ?_) (fun c => ?_)
        · replace F := F.1 c
          refine J_iload dX4_entries_97 3 rfl ?_
          exact J_iret dX4_entries_99 rfl (Nat.le_refl _) (Nat.le_refl _) F
        · replace F := F.2 c
          refine J_iload dX4_entries_70 3 rfl ?_
          refine J_aload_n dX4_entries_72 0 rfl ?_
          obtain ⟨p_13, g9, F⟩ := F
          refine J_get (ci := 4) (k := 7) dX4_entries_73 rfl in_X4_entries_4 (by decide) lk_X4_entries_25 g9 ?_
          refine J_iload dX4_entries_76 4 rfl ?_
          obtain ⟨v_14, g9, F⟩ := F
          refine J_iald dX4_entries_78 g9 ?_
          refine J_iload_n dX4_entries_79 1 rfl ?_
          refine J_icmp_ne (tgt := 87) dX4_entries_80 (by decide) (fun c => ?_) (fun c => ?_)
          · replace F := F.1 c
            refine J_iconst (v := nI 0) dX4_entries_87 (by decide) ?_
            refine J_iadd dX4_entries_88 ?_
            refine J_istore (lv' := [(4, .int (i_8 + (nI 0))), (0, .ref a0), (2, .int x2), (3, .int v_3), (5, .int i_9)]) dX4_entries_89 (by decide) rfl ?_
            refine J_iinc (v := i_9 + nI 1) (lv' := [(5, .int (i_9 + nI 1)), (4, .int (i_8 + (nI 0))), (0, .ref a0), (2, .int x2), (3, .int v_3)]) dX4_entries_91 4 rfl rfl (by decide) rfl ?_
            refine J_goto (tgt := 53) dX4_entries_94 (by decide) ?_
            exact J_sub [2, 3, 4, 1, 0] rfl F
          · replace F := F.2 c
            refine J_iconst (v := nI 1) dX4_entries_83 (by decide) ?_
            refine J_goto (tgt := 88) dX4_entries_84 (by decide) ?_
            refine J_iadd dX4_entries_88 ?_
            refine J_istore (lv' := [(4, .int (i_8 + (nI 1))), (0, .ref a0), (2, .int x2), (3, .int v_3), (5, .int i_9)]) dX4_entries_89 (by decide) rfl ?_
            refine J_iinc (v := i_9 + nI 1) (lv' := [(5, .int (i_9 + nI 1)), (4, .int (i_8 + (nI 1))), (0, .ref a0), (2, .int x2), (3, .int v_3)]) dX4_entries_91 4 rfl rfl (by decide) rfl ?_
            refine J_goto (tgt := 53) dX4_entries_94 (by decide) ?_
            exact J_sub [2, 3, 4, 1, 0] rfl F
      · replace F := F.2 c
        refine J_iload_n dX4_entries_33 0 rfl ?_
        refine J_if_ne (tgt := 43) dX4_entries_34 (by decide) (fun c => ?_) (fun c => ?_)
        · replace F := F.1 c
          refine J_iconst (v := nI 0) dX4_entries_43 (by decide) ?_
          refine J_istore (lv' := [(4, .int (nI 0)), (3, .int v_3), (0, .ref a0), (1, .int x1), (2, .int x2)]) dX4_entries_44 (by decide) rfl ?_
          refine J_sipush (v := nI 150) dX4_entries_46 (by decide) ?_
          refine J_iload_n dX4_entries_49 1 rfl ?_
          refine J_imul dX4_entries_50 ?_
          refine J_istore (lv' := [(5, .int ((nI 150) * v_3)), (4, .int (nI 0)), (3, .int v_3), (0, .ref a0), (1, .int x1), (2, .int x2)]) dX4_entries_51 (by decide) rfl ?_
          refine J_sub [3, 5, 2, 1, 0] rfl ?_
          refine F (fun (i_15 : Int32) (i_16 : Int32) => J l K yX4_entries.cls cX4_entries 6 (some .int) wsX4_entries [] yX4_entries.name 1 22 0 0 (QM K 0 0 Post) 53 [] [(0, .ref a0), (2, .int x2), (3, .int v_3), (4, .int i_15), (5, .int i_16)] h_4 ((0 + 0) + 0) ((0 + 0) + 0)) ?_
          intro i_15 i_16 F
          refine J_iload dX4_entries_53 4 rfl ?_
          refine J_sipush (v := nI 150) dX4_entries_55 (by decide) ?_
          refine J_iload_n dX4_entries_58 2 rfl ?_
          refine J_imul dX4_entries_59 ?_
          refine J_aload_n dX4_entries_60 0 rfl ?_
          obtain ⟨p_18, g9, F⟩ := F
          refine J_get (ci := 4) (k := 6) dX4_entries_61 rfl in_X4_entries_4 (by decide) lk_X4_entries_22 g9 ?_
          refine J_iload_n dX4_entries_64 2 rfl ?_
          obtain ⟨v_19, g9, F⟩ := F
          refine J_iald dX4_entries_65 g9 ?_
          refine J_iadd dX4_entries_66 ?_
          refine J_icmp_ge (tgt := 97) dX4_entries_67 (by decide) (fun c => ?_) (fun c => ?_)
          · replace F := F.1 c
            refine J_iload dX4_entries_97 3 rfl ?_
            exact J_iret dX4_entries_99 rfl (Nat.le_refl _) (Nat.le_refl _) F
          · replace F := F.2 c
            refine J_iload dX4_entries_70 3 rfl ?_
            refine J_aload_n dX4_entries_72 0 rfl ?_
            obtain ⟨p_20, g9, F⟩ := F
            refine J_get (ci := 4) (k := 7) dX4_entries_73 rfl in_X4_entries_4 (by decide) lk_X4_entries_25 g9 ?_
            refine J_iload dX4_entries_76 4 rfl ?_
            obtain ⟨v_21, g9, F⟩ := F
            refine J_iald dX4_entries_78 g9 ?_
            refine J_iload_n dX4_entries_79 1 rfl ?_
            refine J_icmp_ne (tgt := 87) dX4_entries_80 (by decide) (fun c => ?_) (fun c => ?_)
            · replace F := F.1 c
              refine J_iconst (v := nI 0) dX4_entries_87 (by decide) ?_
              refine J_iadd dX4_entries_88 ?_
              refine J_istore (lv' := [(4, .int (i_15 + (nI 0))), (0, .ref a0), (2, .int x2), (3, .int v_3), (5, .int i_16)]) dX4_entries_89 (by decide) rfl ?_
              refine J_iinc (v := i_16 + nI 1) (lv' := [(5, .int (i_16 + nI 1)), (4, .int (i_15 + (nI 0))), (0, .ref a0), (2, .int x2), (3, .int v_3)]) dX4_entries_91 4 rfl rfl (by decide) rfl ?_
              refine J_goto (tgt := 53) dX4_entries_94 (by decide) ?_
              exact J_sub [2, 3, 4, 1, 0] rfl F
            · replace F := F.2 c
              refine J_iconst (v := nI 1) dX4_entries_83 (by decide) ?_
              refine J_goto (tgt := 88) dX4_entries_84 (by decide) ?_
              refine J_iadd dX4_entries_88 ?_
              refine J_istore (lv' := [(4, .int (i_15 + (nI 1))), (0, .ref a0), (2, .int x2), (3, .int v_3), (5, .int i_16)]) dX4_entries_89 (by decide) rfl ?_
              refine J_iinc (v := i_16 + nI 1) (lv' := [(5, .int (i_16 + nI 1)), (4, .int (i_15 + (nI 1))), (0, .ref a0), (2, .int x2), (3, .int v_3)]) dX4_entries_91 4 rfl rfl (by decide) rfl ?_
              refine J_goto (tgt := 53) dX4_entries_94 (by decide) ?_
              exact J_sub [2, 3, 4, 1, 0] rfl F
        · replace F := F.2 c
          refine J_aload_n dX4_entries_37 1 rfl ?_
          refine J_iconst (v := nI 1) dX4_entries_38 (by decide) ?_
          obtain ⟨b9, F⟩ := F
          refine J_callV0 (ci := 4) (n := 1) (As := [.int (nI 1)]) (rest := []) dX4_entries_39 rfl gX4_entries_X4_fails rfl (by decide +kernel) rfl (by decide) b9 (Nat.le_of_ble_eq_true rfl) (Nat.le_refl _) (Nat.le_refl _) F kI_no (kI_kk (fun v_23 h_22 F => ?_))
          exact J_iret dX4_entries_42 rfl (Nat.le_refl _) (Nat.le_refl _) F
  · replace F := F.2 c
    refine J_iconst (v := nI 0) dX4_entries_10 (by decide) ?_
    refine J_goto (tgt := 19) dX4_entries_11 (by decide) ?_
    refine J_istore_n (lv' := [(3, .int (nI 0)), (0, .ref a0), (1, .int x1), (2, .int x2)]) dX4_entries_19 rfl (by decide) rfl ?_
    refine J_aload_n dX4_entries_20 1 rfl ?_
    refine J_iload_n dX4_entries_21 3 rfl ?_
    obtain ⟨b9, F⟩ := F
    refine J_callV0 (ci := 4) (n := 1) (As := [.int x2]) (rest := []) dX4_entries_22 rfl gX4_entries_X4_isState rfl (by decide +kernel) rfl (by decide) b9 (Nat.le_of_ble_eq_true rfl) (Nat.le_refl _) (Nat.le_refl _) F kI_no (kI_kk (fun v_25 h_24 F => ?_))
    refine J_if_eq (tgt := 37) dX4_entries_25 (by decide) (fun c => ?_) (fun c => ?_)
    · replace F := F.1 c
      refine J_aload_n dX4_entries_37 1 rfl ?_
      refine J_iconst (v := nI 1) dX4_entries_38 (by decide) ?_
      obtain ⟨b9, F⟩ := F
      refine J_callV0 (ci := 4) (n := 1) (As := [.int (nI 1)]) (rest := []) dX4_entries_39 rfl gX4_entries_X4_fails rfl (by decide +kernel) rfl (by decide) b9 (Nat.le_of_ble_eq_true rfl) (Nat.le_refl _) (Nat.le_refl _) F kI_no (kI_kk (fun v_27 h_26 F => ?_))
      exact J_iret dX4_entries_42 rfl (Nat.le_refl _) (Nat.le_refl _) F
    · replace F := F.2 c
      refine J_iload_n dX4_entries_28 2 rfl ?_
      refine J_iconst (v := -nI 1) dX4_entries_29 (by decide) ?_
      refine J_icmp_eq (tgt := 43) dX4_entries_30 (by decide) (fun c => ?_) (fun c => ?_)
      · replace F := F.1 c
        refine J_iconst (v := nI 0) dX4_entries_43 (by decide) ?_
        refine J_istore (lv' := [(4, .int (nI 0)), (3, .int (nI 0)), (0, .ref a0), (1, .int x1), (2, .int x2)]) dX4_entries_44 (by decide) rfl ?_
        refine J_sipush (v := nI 150) dX4_entries_46 (by decide) ?_
        refine J_iload_n dX4_entries_49 1 rfl ?_
        refine J_imul dX4_entries_50 ?_
        refine J_istore (lv' := [(5, .int ((nI 150) * (nI 0))), (4, .int (nI 0)), (3, .int (nI 0)), (0, .ref a0), (1, .int x1), (2, .int x2)]) dX4_entries_51 (by decide) rfl ?_
        refine J_sub [3, 5, 2, 1, 0] rfl ?_
        refine F (fun (i_28 : Int32) (i_29 : Int32) => J l K yX4_entries.cls cX4_entries 6 (some .int) wsX4_entries [] yX4_entries.name 1 22 0 0 (QM K 0 0 Post) 53 [] [(0, .ref a0), (2, .int x2), (3, .int (nI 0)), (4, .int i_28), (5, .int i_29)] h_24 (0 + 0) (0 + 0)) ?_
        intro i_28 i_29 F
        refine J_iload dX4_entries_53 4 rfl ?_
        refine J_sipush (v := nI 150) dX4_entries_55 (by decide) ?_
        refine J_iload_n dX4_entries_58 2 rfl ?_
        refine J_imul dX4_entries_59 ?_
        refine J_aload_n dX4_entries_60 0 rfl ?_
        obtain ⟨p_31, g9, F⟩ := F
        refine J_get (ci := 4) (k := 6) dX4_entries_61 rfl in_X4_entries_4 (by decide) lk_X4_entries_22 g9 ?_
        refine J_iload_n dX4_entries_64 2 rfl ?_
        obtain ⟨v_32, g9, F⟩ := F
        refine J_iald dX4_entries_65 g9 ?_
        refine J_iadd dX4_entries_66 ?_
        refine J_icmp_ge (tgt := 97) dX4_entries_67 (by decide) (fun c => ?_) (fun c => ?_)
        · replace F := F.1 c
          refine J_iload dX4_entries_97 3 rfl ?_
          exact J_iret dX4_entries_99 rfl (Nat.le_refl _) (Nat.le_refl _) F
        · replace F := F.2 c
          refine J_iload dX4_entries_70 3 rfl ?_
          refine J_aload_n dX4_entries_72 0 rfl ?_
          obtain ⟨p_33, g9, F⟩ := F
          refine J_get (ci := 4) (k := 7) dX4_entries_73 rfl in_X4_entries_4 (by decide) lk_X4_entries_25 g9 ?_
          refine J_iload dX4_entries_76 4 rfl ?_
          obtain ⟨v_34, g9, F⟩ := F
          refine J_iald dX4_entries_78 g9 ?_
          refine J_iload_n dX4_entries_79 1 rfl ?_
          refine J_icmp_ne (tgt := 87) dX4_entries_80 (by decide) (fun c => ?_) (fun c => ?_)
          · replace F := F.1 c
            refine J_iconst (v := nI 0) dX4_entries_87 (by decide) ?_
            refine J_iadd dX4_entries_88 ?_
            refine J_istore (lv' := [(4, .int (i_28 + (nI 0))), (0, .ref a0), (2, .int x2), (3, .int (nI 0)), (5, .int i_29)]) dX4_entries_89 (by decide) rfl ?_
            refine J_iinc (v := i_29 + nI 1) (lv' := [(5, .int (i_29 + nI 1)), (4, .int (i_28 + (nI 0))), (0, .ref a0), (2, .int x2), (3, .int (nI 0))]) dX4_entries_91 4 rfl rfl (by decide) rfl ?_
            refine J_goto (tgt := 53) dX4_entries_94 (by decide) ?_
            exact J_sub [2, 3, 4, 1, 0] rfl F
          · replace F := F.2 c
            refine J_iconst (v := nI 1) dX4_entries_83 (by decide) ?_
            refine J_goto (tgt := 88) dX4_entries_84 (by decide) ?_
            refine J_iadd dX4_entries_88 ?_
            refine J_istore (lv' := [(4, .int (i_28 + (nI 1))), (0, .ref a0), (2, .int x2), (3, .int (nI 0)), (5, .int i_29)]) dX4_entries_89 (by decide) rfl ?_
            refine J_iinc (v := i_29 + nI 1) (lv' := [(5, .int (i_29 + nI 1)), (4, .int (i_28 + (nI 1))), (0, .ref a0), (2, .int x2), (3, .int (nI 0))]) dX4_entries_91 4 rfl rfl (by decide) rfl ?_
            refine J_goto (tgt := 53) dX4_entries_94 (by decide) ?_
            exact J_sub [2, 3, 4, 1, 0] rfl F
      · replace F := F.2 c
        refine J_iload_n dX4_entries_33 0 rfl ?_
        refine J_if_ne (tgt := 43) dX4_entries_34 (by decide) (fun c => ?_) (fun c => ?_)
        · replace F := F.1 c
          refine J_iconst (v := nI 0) dX4_entries_43 (by decide) ?_
          refine J_istore (lv' := [(4, .int (nI 0)), (3, .int (nI 0)), (0, .ref a0), (1, .int x1), (2, .int x2)]) dX4_entries_44 (by decide) rfl ?_
          refine J_sipush (v := nI 150) dX4_entries_46 (by decide) ?_
          refine J_iload_n dX4_entries_49 1 rfl ?_
          refine J_imul dX4_entries_50 ?_
          refine J_istore (lv' := [(5, .int ((nI 150) * (nI 0))), (4, .int (nI 0)), (3, .int (nI 0)), (0, .ref a0), (1, .int x1), (2, .int x2)]) dX4_entries_51 (by decide) rfl ?_
          refine J_sub [3, 5, 2, 1, 0] rfl ?_
          refine F (fun (i_35 : Int32) (i_36 : Int32) => J l K yX4_entries.cls cX4_entries 6 (some .int) wsX4_entries [] yX4_entries.name 1 22 0 0 (QM K 0 0 Post) 53 [] [(0, .ref a0), (2, .int x2), (3, .int (nI 0)), (4, .int i_35), (5, .int i_36)] h_24 (0 + 0) (0 + 0)) ?_
          intro i_35 i_36 F
          refine J_iload dX4_entries_53 4 rfl ?_
          refine J_sipush (v := nI 150) dX4_entries_55 (by decide) ?_
          refine J_iload_n dX4_entries_58 2 rfl ?_
          refine J_imul dX4_entries_59 ?_
          refine J_aload_n dX4_entries_60 0 rfl ?_
          obtain ⟨p_38, g9, F⟩ := F
          refine J_get (ci := 4) (k := 6) dX4_entries_61 rfl in_X4_entries_4 (by decide) lk_X4_entries_22 g9 ?_
          refine J_iload_n dX4_entries_64 2 rfl ?_
          obtain ⟨v_39, g9, F⟩ := F
          refine J_iald dX4_entries_65 g9 ?_
          refine J_iadd dX4_entries_66 ?_
          refine J_icmp_ge (tgt := 97) dX4_entries_67 (by decide) (fun c => ?_) (fun c => ?_)
          · replace F := F.1 c
            refine J_iload dX4_entries_97 3 rfl ?_
            exact J_iret dX4_entries_99 rfl (Nat.le_refl _) (Nat.le_refl _) F
          · replace F := F.2 c
            refine J_iload dX4_entries_70 3 rfl ?_
            refine J_aload_n dX4_entries_72 0 rfl ?_
            obtain ⟨p_40, g9, F⟩ := F
            refine J_get (ci := 4) (k := 7) dX4_entries_73 rfl in_X4_entries_4 (by decide) lk_X4_entries_25 g9 ?_
            refine J_iload dX4_entries_76 4 rfl ?_
            obtain ⟨v_41, g9, F⟩ := F
            refine J_iald dX4_entries_78 g9 ?_
            refine J_iload_n dX4_entries_79 1 rfl ?_
            refine J_icmp_ne (tgt := 87) dX4_entries_80 (by decide) (fun c => ?_) (fun c => ?_)
            · replace F := F.1 c
              refine J_iconst (v := nI 0) dX4_entries_87 (by decide) ?_
              refine J_iadd dX4_entries_88 ?_
              refine J_istore (lv' := [(4, .int (i_35 + (nI 0))), (0, .ref a0), (2, .int x2), (3, .int (nI 0)), (5, .int i_36)]) dX4_entries_89 (by decide) rfl ?_
              refine J_iinc (v := i_36 + nI 1) (lv' := [(5, .int (i_36 + nI 1)), (4, .int (i_35 + (nI 0))), (0, .ref a0), (2, .int x2), (3, .int (nI 0))]) dX4_entries_91 4 rfl rfl (by decide) rfl ?_
              refine J_goto (tgt := 53) dX4_entries_94 (by decide) ?_
              exact J_sub [2, 3, 4, 1, 0] rfl F
            · replace F := F.2 c
              refine J_iconst (v := nI 1) dX4_entries_83 (by decide) ?_
              refine J_goto (tgt := 88) dX4_entries_84 (by decide) ?_
              refine J_iadd dX4_entries_88 ?_
              refine J_istore (lv' := [(4, .int (i_35 + (nI 1))), (0, .ref a0), (2, .int x2), (3, .int (nI 0)), (5, .int i_36)]) dX4_entries_89 (by decide) rfl ?_
              refine J_iinc (v := i_36 + nI 1) (lv' := [(5, .int (i_36 + nI 1)), (4, .int (i_35 + (nI 1))), (0, .ref a0), (2, .int x2), (3, .int (nI 0))]) dX4_entries_91 4 rfl rfl (by decide) rfl ?_
              refine J_goto (tgt := 53) dX4_entries_94 (by decide) ?_
              exact J_sub [2, 3, 4, 1, 0] rfl F
        · replace F := F.2 c
          refine J_aload_n dX4_entries_37 1 rfl ?_
          refine J_iconst (v := nI 1) dX4_entries_38 (by decide) ?_
          obtain ⟨b9, F⟩ := F
          refine J_callV0 (ci := 4) (n := 1) (As := [.int (nI 1)]) (rest := []) dX4_entries_39 rfl gX4_entries_X4_fails rfl (by decide +kernel) rfl (by decide) b9 (Nat.le_of_ble_eq_true rfl) (Nat.le_refl _) (Nat.le_refl _) F kI_no (kI_kk (fun v_43 h_42 F => ?_))
          exact J_iret dX4_entries_42 rfl (Nat.le_refl _) (Nat.le_refl _) F

abbrev mX4_folded (l : Launch) (K : Kx) (As : List Value) (h : Hp) (Post : Rs → Hp → Prop) : Prop := MX l K yX4_folded wsX4_folded 0 0 0 0 As h Post
set_option maxRecDepth 100000 in
set_option maxHeartbeats 4000000 in
theorem fX4_folded {l : Launch} {K : Kx} {x1 : Int32} {x2 : Int64} {x3 : Int64} {h : Hp} {Post : Rs → Hp → Prop} (htr : l.stackTraces = false)
    (F : ((¬ x1 = nI 0 → ((¬ x1 = (nI 1) → ((x2 ≤ x3 → (Post (.inl (some (.long x3))) h)) ∧ (¬ x2 ≤ x3 → (Post (.inl (some (.long x2))) h)))) ∧ (x1 = (nI 1) → ((x3 ≤ x2 → (Post (.inl (some (.long x3))) h)) ∧ (¬ x3 ≤ x2 → (Post (.inl (some (.long x2))) h)))))) ∧ (x1 = nI 0 → (Post (.inl (some (.long (x2 + x3)))) h)))) :
    mX4_folded l K [.int x1, .long x2, .long x3] h Post := by
  refine MX.enter htr (by decide) rfl (Nat.le_of_ble_eq_true rfl) ?_
  refine J_lveq (lv' := [(0, .int x1), (1, .long x2), (3, .long x3)]) rfl ?_
  refine J_iload_n dX4_folded_0 0 rfl ?_
  refine J_if_ne (tgt := 10) dX4_folded_1 (by decide) (fun c => ?_) (fun c => ?_)
  · replace F := F.1 c
    refine J_iload_n dX4_folded_10 0 rfl ?_
    refine J_iconst (v := nI 1) dX4_folded_11 (by decide) ?_
    refine J_icmp_ne (tgt := 29) dX4_folded_12 (by decide) (fun c => ?_) (fun c => ?_)
    · replace F := F.1 c
      refine J_lload_n dX4_folded_29 1 rfl ?_
      refine J_lload_n dX4_folded_30 2 rfl ?_
      refine J_lcmp dX4_folded_31 ?_
      refine J_if_le (tgt := 39) dX4_folded_32 (by decide) (fun c => ?_) (fun c => ?_)
      · replace F := F.1 ((lg_cmp_le _ _).mp c)
        refine J_lload_n dX4_folded_39 2 rfl ?_
        exact J_lret dX4_folded_40 rfl (Nat.le_refl _) (Nat.le_refl _) F
      · replace F := F.2 (fun e9 => c ((lg_cmp_le _ _).mpr e9))
        refine J_lload_n dX4_folded_35 1 rfl ?_
        refine J_goto (tgt := 40) dX4_folded_36 (by decide) ?_
        exact J_lret dX4_folded_40 rfl (Nat.le_refl _) (Nat.le_refl _) F
    · replace F := F.2 c
      refine J_lload_n dX4_folded_15 1 rfl ?_
      refine J_lload_n dX4_folded_16 2 rfl ?_
      refine J_lcmp dX4_folded_17 ?_
      refine J_if_ge (tgt := 25) dX4_folded_18 (by decide) (fun c => ?_) (fun c => ?_)
      · replace F := F.1 ((lg_cmp_ge _ _).mp c)
        refine J_lload_n dX4_folded_25 2 rfl ?_
        refine J_goto (tgt := 40) dX4_folded_26 (by decide) ?_
        exact J_lret dX4_folded_40 rfl (Nat.le_refl _) (Nat.le_refl _) F
      · replace F := F.2 (fun e9 => c ((lg_cmp_ge _ _).mpr e9))
        refine J_lload_n dX4_folded_21 1 rfl ?_
        refine J_goto (tgt := 40) dX4_folded_22 (by decide) ?_
        exact J_lret dX4_folded_40 rfl (Nat.le_refl _) (Nat.le_refl _) F
  · replace F := F.2 c
    refine J_lload_n dX4_folded_4 1 rfl ?_
    refine J_lload_n dX4_folded_5 2 rfl ?_
    refine J_ladd dX4_folded_6 ?_
    refine J_goto (tgt := 40) dX4_folded_7 (by decide) ?_
    exact J_lret dX4_folded_40 rfl (Nat.le_refl _) (Nat.le_refl _) F

abbrev mX4_fold (l : Launch) (K : Kx) (As : List Value) (h : Hp) (Post : Rs → Hp → Prop) : Prop := MX l K yX4_fold wsX4_fold 3 72 0 0 As h Post
set_option maxRecDepth 100000 in
set_option maxHeartbeats 4000000 in
theorem fX4_fold {l : Launch} {K : Kx} {a0 : Nat} {x1 : Int32} {x2 : Int64} {h : Hp} {Post : Rs → Hp → Prop} (htr : l.stackTraces = false)
    (F : ((∃ fs, h a0 = some (xO 4 fs)) ∧ mX4_isRefused l K [.ref a0, .int x1, .int (nI 3), .int (nI 3), .long x2] h (kI (fun v_2 h_1 => ((v_2 = nI 0 → (∃ v_3, gf h_1 a0 4 22 = some (.int v_3) ∧ ((nI 0 ≤ v_3 → (∃ v_4, gf h_1 a0 4 22 = some (.int v_4) ∧ ((nI 0 ≤ v_4 → (((nI 0) = nI 0 → (∃ v_5, gf h_1 a0 4 22 = some (.int v_5) ∧ ((∃ fs, h_1 a0 = some (xO 4 fs)) ∧ mX4_touchOf l K [.ref a0, .int v_5] h_1 (kV (fun h_6 => (∃ p_7, gf h_6 a0 4 11 = some (.ref p_7) ∧ (((nI 0) = nI 0 → (∃ p_8, gf h_6 a0 4 4 = some (.ref p_8) ∧ (∃ v_9, aI K h_6 p_8 x1 = some v_9 ∧ (∃ p_10, gf h_6 a0 4 11 = some (.ref p_10) ∧ (∃ u_11, aJ K h_6 p_10 ((nI 10) * v_5) = some u_11 ∧ mX4_folded l K [.int v_9, .long u_11, .long x2] h_6 (kL (fun u_13 h_12 => (∃ h_14, wJ K h_12 p_7 ((nI 10) * v_5) u_13 = some h_14 ∧ (∃ p_15, gf h_14 a0 4 10 = some (.ref p_15) ∧ (∃ v_16, aI K h_14 p_15 v_5 = some v_16 ∧ (∃ h_17, wI K h_14 p_15 v_5 (v_16 + (nI 1)) = some h_17 ∧ (∃ p_18, gf h_17 a0 4 10 = some (.ref p_18) ∧ (∃ v_19, aI K h_17 p_18 v_5 = some v_19 ∧ (Post (.inl (some (.int v_19))) h_17)))))))))))))) ∧ (¬ (nI 0) = nI 0 → (∃ h_20, wJ K h_6 p_7 ((nI 10) * v_5) x2 = some h_20 ∧ (∃ p_21, gf h_20 a0 4 10 = some (.ref p_21) ∧ (∃ v_22, aI K h_20 p_21 v_5 = some v_22 ∧ (∃ h_23, wI K h_20 p_21 v_5 (v_22 + (nI 1)) = some h_23 ∧ (∃ p_24, gf h_23 a0 4 10 = some (.ref p_24) ∧ (∃ v_25, aI K h_23 p_24 v_5 = some v_25 ∧ (Post (.inl (some (.int v_25))) h_23))))))))))))))) ∧ (¬ (nI 0) = nI 0 → ((∃ fs, h_1 a0 = some (xO 4 fs)) ∧ mX4_newEntry l K [.ref a0, .int x1] h_1 (kI (fun v_27 h_26 => ((∃ fs, h_26 a0 = some (xO 4 fs)) ∧ mX4_touchOf l K [.ref a0, .int v_27] h_26 (kV (fun h_28 => (∃ p_29, gf h_28 a0 4 11 = some (.ref p_29) ∧ (((nI 0) = nI 0 → (∃ p_30, gf h_28 a0 4 4 = some (.ref p_30) ∧ (∃ v_31, aI K h_28 p_30 x1 = some v_31 ∧ (∃ p_32, gf h_28 a0 4 11 = some (.ref p_32) ∧ (∃ u_33, aJ K h_28 p_32 ((nI 10) * v_27) = some u_33 ∧ mX4_folded l K [.int v_31, .long u_33, .long x2] h_28 (kL (fun u_35 h_34 => (∃ h_36, wJ K h_34 p_29 ((nI 10) * v_27) u_35 = some h_36 ∧ (∃ p_37, gf h_36 a0 4 10 = some (.ref p_37) ∧ (∃ v_38, aI K h_36 p_37 v_27 = some v_38 ∧ (∃ h_39, wI K h_36 p_37 v_27 (v_38 + (nI 1)) = some h_39 ∧ (∃ p_40, gf h_39 a0 4 10 = some (.ref p_40) ∧ (∃ v_41, aI K h_39 p_40 v_27 = some v_41 ∧ (Post (.inl (some (.int v_41))) h_39)))))))))))))) ∧ (¬ (nI 0) = nI 0 → (∃ h_42, wJ K h_28 p_29 ((nI 10) * v_27) x2 = some h_42 ∧ (∃ p_43, gf h_42 a0 4 10 = some (.ref p_43) ∧ (∃ v_44, aI K h_42 p_43 v_27 = some v_44 ∧ (∃ h_45, wI K h_42 p_43 v_27 (v_44 + (nI 1)) = some h_45 ∧ (∃ p_46, gf h_45 a0 4 10 = some (.ref p_46) ∧ (∃ v_47, aI K h_45 p_46 v_27 = some v_47 ∧ (Post (.inl (some (.int v_47))) h_45))))))))))))))))))) ∧ (¬ nI 0 ≤ v_4 → (((nI 1) = nI 0 → (∃ v_48, gf h_1 a0 4 22 = some (.int v_48) ∧ ((∃ fs, h_1 a0 = some (xO 4 fs)) ∧ mX4_touchOf l K [.ref a0, .int v_48] h_1 (kV (fun h_49 => (∃ p_50, gf h_49 a0 4 11 = some (.ref p_50) ∧ (((nI 1) = nI 0 → (∃ p_51, gf h_49 a0 4 4 = some (.ref p_51) ∧ (∃ v_52, aI K h_49 p_51 x1 = some v_52 ∧ (∃ p_53, gf h_49 a0 4 11 = some (.ref p_53) ∧ (∃ u_54, aJ K h_49 p_53 ((nI 10) * v_48) = some u_54 ∧ mX4_folded l K [.int v_52, .long u_54, .long x2] h_49 (kL (fun u_56 h_55 => (∃ h_57, wJ K h_55 p_50 ((nI 10) * v_48) u_56 = some h_57 ∧ (∃ p_58, gf h_57 a0 4 10 = some (.ref p_58) ∧ (∃ v_59, aI K h_57 p_58 v_48 = some v_59 ∧ (∃ h_60, wI K h_57 p_58 v_48 (v_59 + (nI 1)) = some h_60 ∧ (∃ p_61, gf h_60 a0 4 10 = some (.ref p_61) ∧ (∃ v_62, aI K h_60 p_61 v_48 = some v_62 ∧ (Post (.inl (some (.int v_62))) h_60)))))))))))))) ∧ (¬ (nI 1) = nI 0 → (∃ h_63, wJ K h_49 p_50 ((nI 10) * v_48) x2 = some h_63 ∧ (∃ p_64, gf h_63 a0 4 10 = some (.ref p_64) ∧ (∃ v_65, aI K h_63 p_64 v_48 = some v_65 ∧ (∃ h_66, wI K h_63 p_64 v_48 (v_65 + (nI 1)) = some h_66 ∧ (∃ p_67, gf h_66 a0 4 10 = some (.ref p_67) ∧ (∃ v_68, aI K h_66 p_67 v_48 = some v_68 ∧ (Post (.inl (some (.int v_68))) h_66))))))))))))))) ∧ (¬ (nI 1) = nI 0 → ((∃ fs, h_1 a0 = some (xO 4 fs)) ∧ mX4_newEntry l K [.ref a0, .int x1] h_1 (kI (fun v_70 h_69 => ((∃ fs, h_69 a0 = some (xO 4 fs)) ∧ mX4_touchOf l K [.ref a0, .int v_70] h_69 (kV (fun h_71 => (∃ p_72, gf h_71 a0 4 11 = some (.ref p_72) ∧ (((nI 1) = nI 0 → (∃ p_73, gf h_71 a0 4 4 = some (.ref p_73) ∧ (∃ v_74, aI K h_71 p_73 x1 = some v_74 ∧ (∃ p_75, gf h_71 a0 4 11 = some (.ref p_75) ∧ (∃ u_76, aJ K h_71 p_75 ((nI 10) * v_70) = some u_76 ∧ mX4_folded l K [.int v_74, .long u_76, .long x2] h_71 (kL (fun u_78 h_77 => (∃ h_79, wJ K h_77 p_72 ((nI 10) * v_70) u_78 = some h_79 ∧ (∃ p_80, gf h_79 a0 4 10 = some (.ref p_80) ∧ (∃ v_81, aI K h_79 p_80 v_70 = some v_81 ∧ (∃ h_82, wI K h_79 p_80 v_70 (v_81 + (nI 1)) = some h_82 ∧ (∃ p_83, gf h_82 a0 4 10 = some (.ref p_83) ∧ (∃ v_84, aI K h_82 p_83 v_70 = some v_84 ∧ (Post (.inl (some (.int v_84))) h_82)))))))))))))) ∧ (¬ (nI 1) = nI 0 → (∃ h_85, wJ K h_71 p_72 ((nI 10) * v_70) x2 = some h_85 ∧ (∃ p_86, gf h_85 a0 4 10 = some (.ref p_86) ∧ (∃ v_87, aI K h_85 p_86 v_70 = some v_87 ∧ (∃ h_88, wI K h_85 p_86 v_70 (v_87 + (nI 1)) = some h_88 ∧ (∃ p_89, gf h_88 a0 4 10 = some (.ref p_89) ∧ (∃ v_90, aI K h_88 p_89 v_70 = some v_90 ∧ (Post (.inl (some (.int v_90))) h_88)))))))))))))))))))))) ∧ (¬ nI 0 ≤ v_3 → (∃ p_91, gf h_1 a0 4 6 = some (.ref p_91) ∧ (∃ v_92, aI K h_1 p_91 (nI 0) = some v_92 ∧ ((¬ v_92 = (nI 150) → (∃ v_93, gf h_1 a0 4 22 = some (.int v_93) ∧ ((nI 0 ≤ v_93 → (((nI 0) = nI 0 → (∃ v_94, gf h_1 a0 4 22 = some (.int v_94) ∧ ((∃ fs, h_1 a0 = some (xO 4 fs)) ∧ mX4_touchOf l K [.ref a0, .int v_94] h_1 (kV (fun h_95 => (∃ p_96, gf h_95 a0 4 11 = some (.ref p_96) ∧ (((nI 0) = nI 0 → (∃ p_97, gf h_95 a0 4 4 = some (.ref p_97) ∧ (∃ v_98, aI K h_95 p_97 x1 = some v_98 ∧ (∃ p_99, gf h_95 a0 4 11 = some (.ref p_99) ∧ (∃ u_100, aJ K h_95 p_99 ((nI 10) * v_94) = some u_100 ∧ mX4_folded l K [.int v_98, .long u_100, .long x2] h_95 (kL (fun u_102 h_101 => (∃ h_103, wJ K h_101 p_96 ((nI 10) * v_94) u_102 = some h_103 ∧ (∃ p_104, gf h_103 a0 4 10 = some (.ref p_104) ∧ (∃ v_105, aI K h_103 p_104 v_94 = some v_105 ∧ (∃ h_106, wI K h_103 p_104 v_94 (v_105 + (nI 1)) = some h_106 ∧ (∃ p_107, gf h_106 a0 4 10 = some (.ref p_107) ∧ (∃ v_108, aI K h_106 p_107 v_94 = some v_108 ∧ (Post (.inl (some (.int v_108))) h_106)))))))))))))) ∧ (¬ (nI 0) = nI 0 → (∃ h_109, wJ K h_95 p_96 ((nI 10) * v_94) x2 = some h_109 ∧ (∃ p_110, gf h_109 a0 4 10 = some (.ref p_110) ∧ (∃ v_111, aI K h_109 p_110 v_94 = some v_111 ∧ (∃ h_112, wI K h_109 p_110 v_94 (v_111 + (nI 1)) = some h_112 ∧ (∃ p_113, gf h_112 a0 4 10 = some (.ref p_113) ∧ (∃ v_114, aI K h_112 p_113 v_94 = some v_114 ∧ (Post (.inl (some (.int v_114))) h_112))))))))))))))) ∧ (¬ (nI 0) = nI 0 → ((∃ fs, h_1 a0 = some (xO 4 fs)) ∧ mX4_newEntry l K [.ref a0, .int x1] h_1 (kI (fun v_116 h_115 => ((∃ fs, h_115 a0 = some (xO 4 fs)) ∧ mX4_touchOf l K [.ref a0, .int v_116] h_115 (kV (fun h_117 => (∃ p_118, gf h_117 a0 4 11 = some (.ref p_118) ∧ (((nI 0) = nI 0 → (∃ p_119, gf h_117 a0 4 4 = some (.ref p_119) ∧ (∃ v_120, aI K h_117 p_119 x1 = some v_120 ∧ (∃ p_121, gf h_117 a0 4 11 = some (.ref p_121) ∧ (∃ u_122, aJ K h_117 p_121 ((nI 10) * v_116) = some u_122 ∧ mX4_folded l K [.int v_120, .long u_122, .long x2] h_117 (kL (fun u_124 h_123 => (∃ h_125, wJ K h_123 p_118 ((nI 10) * v_116) u_124 = some h_125 ∧ (∃ p_126, gf h_125 a0 4 10 = some (.ref p_126) ∧ (∃ v_127, aI K h_125 p_126 v_116 = some v_127 ∧ (∃ h_128, wI K h_125 p_126 v_116 (v_127 + (nI 1)) = some h_128 ∧ (∃ p_129, gf h_128 a0 4 10 = some (.ref p_129) ∧ (∃ v_130, aI K h_128 p_129 v_116 = some v_130 ∧ (Post (.inl (some (.int v_130))) h_128)))))))))))))) ∧ (¬ (nI 0) = nI 0 → (∃ h_131, wJ K h_117 p_118 ((nI 10) * v_116) x2 = some h_131 ∧ (∃ p_132, gf h_131 a0 4 10 = some (.ref p_132) ∧ (∃ v_133, aI K h_131 p_132 v_116 = some v_133 ∧ (∃ h_134, wI K h_131 p_132 v_116 (v_133 + (nI 1)) = some h_134 ∧ (∃ p_135, gf h_134 a0 4 10 = some (.ref p_135) ∧ (∃ v_136, aI K h_134 p_135 v_116 = some v_136 ∧ (Post (.inl (some (.int v_136))) h_134))))))))))))))))))) ∧ (¬ nI 0 ≤ v_93 → (((nI 1) = nI 0 → (∃ v_137, gf h_1 a0 4 22 = some (.int v_137) ∧ ((∃ fs, h_1 a0 = some (xO 4 fs)) ∧ mX4_touchOf l K [.ref a0, .int v_137] h_1 (kV (fun h_138 => (∃ p_139, gf h_138 a0 4 11 = some (.ref p_139) ∧ (((nI 1) = nI 0 → (∃ p_140, gf h_138 a0 4 4 = some (.ref p_140) ∧ (∃ v_141, aI K h_138 p_140 x1 = some v_141 ∧ (∃ p_142, gf h_138 a0 4 11 = some (.ref p_142) ∧ (∃ u_143, aJ K h_138 p_142 ((nI 10) * v_137) = some u_143 ∧ mX4_folded l K [.int v_141, .long u_143, .long x2] h_138 (kL (fun u_145 h_144 => (∃ h_146, wJ K h_144 p_139 ((nI 10) * v_137) u_145 = some h_146 ∧ (∃ p_147, gf h_146 a0 4 10 = some (.ref p_147) ∧ (∃ v_148, aI K h_146 p_147 v_137 = some v_148 ∧ (∃ h_149, wI K h_146 p_147 v_137 (v_148 + (nI 1)) = some h_149 ∧ (∃ p_150, gf h_149 a0 4 10 = some (.ref p_150) ∧ (∃ v_151, aI K h_149 p_150 v_137 = some v_151 ∧ (Post (.inl (some (.int v_151))) h_149)))))))))))))) ∧ (¬ (nI 1) = nI 0 → (∃ h_152, wJ K h_138 p_139 ((nI 10) * v_137) x2 = some h_152 ∧ (∃ p_153, gf h_152 a0 4 10 = some (.ref p_153) ∧ (∃ v_154, aI K h_152 p_153 v_137 = some v_154 ∧ (∃ h_155, wI K h_152 p_153 v_137 (v_154 + (nI 1)) = some h_155 ∧ (∃ p_156, gf h_155 a0 4 10 = some (.ref p_156) ∧ (∃ v_157, aI K h_155 p_156 v_137 = some v_157 ∧ (Post (.inl (some (.int v_157))) h_155))))))))))))))) ∧ (¬ (nI 1) = nI 0 → ((∃ fs, h_1 a0 = some (xO 4 fs)) ∧ mX4_newEntry l K [.ref a0, .int x1] h_1 (kI (fun v_159 h_158 => ((∃ fs, h_158 a0 = some (xO 4 fs)) ∧ mX4_touchOf l K [.ref a0, .int v_159] h_158 (kV (fun h_160 => (∃ p_161, gf h_160 a0 4 11 = some (.ref p_161) ∧ (((nI 1) = nI 0 → (∃ p_162, gf h_160 a0 4 4 = some (.ref p_162) ∧ (∃ v_163, aI K h_160 p_162 x1 = some v_163 ∧ (∃ p_164, gf h_160 a0 4 11 = some (.ref p_164) ∧ (∃ u_165, aJ K h_160 p_164 ((nI 10) * v_159) = some u_165 ∧ mX4_folded l K [.int v_163, .long u_165, .long x2] h_160 (kL (fun u_167 h_166 => (∃ h_168, wJ K h_166 p_161 ((nI 10) * v_159) u_167 = some h_168 ∧ (∃ p_169, gf h_168 a0 4 10 = some (.ref p_169) ∧ (∃ v_170, aI K h_168 p_169 v_159 = some v_170 ∧ (∃ h_171, wI K h_168 p_169 v_159 (v_170 + (nI 1)) = some h_171 ∧ (∃ p_172, gf h_171 a0 4 10 = some (.ref p_172) ∧ (∃ v_173, aI K h_171 p_172 v_159 = some v_173 ∧ (Post (.inl (some (.int v_173))) h_171)))))))))))))) ∧ (¬ (nI 1) = nI 0 → (∃ h_174, wJ K h_160 p_161 ((nI 10) * v_159) x2 = some h_174 ∧ (∃ p_175, gf h_174 a0 4 10 = some (.ref p_175) ∧ (∃ v_176, aI K h_174 p_175 v_159 = some v_176 ∧ (∃ h_177, wI K h_174 p_175 v_159 (v_176 + (nI 1)) = some h_177 ∧ (∃ p_178, gf h_177 a0 4 10 = some (.ref p_178) ∧ (∃ v_179, aI K h_177 p_178 v_159 = some v_179 ∧ (Post (.inl (some (.int v_179))) h_177)))))))))))))))))))))) ∧ (v_92 = (nI 150) → (Post (.inl (some (.int (-nI 4)))) h_1))))))))) ∧ (¬ v_2 = nI 0 → (Post (.inl (some (.int (nI 0)))) h_1))))))) :
    mX4_fold l K [.ref a0, .int x1, .long x2] h Post := by
  refine MX.enter htr (by decide) rfl (Nat.le_of_ble_eq_true rfl) ?_
  refine J_lveq (lv' := [(0, .ref a0), (1, .int x1), (2, .long x2)]) rfl ?_
  refine J_aload_n dX4_fold_0 0 rfl ?_
  refine J_iload_n dX4_fold_1 1 rfl ?_
  refine J_iconst (v := nI 3) dX4_fold_2 (by decide) ?_
  refine J_iconst (v := nI 3) dX4_fold_3 (by decide) ?_
  refine J_lload_n dX4_fold_4 2 rfl ?_
  obtain ⟨b9, F⟩ := F
  refine J_callV0 (ci := 4) (n := 4) (As := [.int x1, .int (nI 3), .int (nI 3), .long x2]) (rest := []) dX4_fold_5 rfl gX4_fold_X4_isRefused rfl (by decide +kernel) rfl (by decide) b9 (Nat.le_of_ble_eq_true rfl) (Nat.le_refl _) (Nat.le_refl _) F kI_no (kI_kk (fun v_2 h_1 F => ?_))
  refine J_if_eq (tgt := 13) dX4_fold_8 (by decide) (fun c => ?_) (fun c => ?_)
  · replace F := F.1 c
    refine J_aload_n dX4_fold_13 0 rfl ?_
    obtain ⟨v_3, g9, F⟩ := F
    refine J_get (ci := 4) (k := 22) dX4_fold_14 rfl in_X4_fold_4 (by decide) lk_X4_fold_120 g9 ?_
    refine J_if_ge (tgt := 35) dX4_fold_17 (by decide) (fun c => ?_) (fun c => ?_)
    · replace F := F.1 c
      refine J_aload_n dX4_fold_35 0 rfl ?_
      obtain ⟨v_4, g9, F⟩ := F
      refine J_get (ci := 4) (k := 22) dX4_fold_36 rfl in_X4_fold_4 (by decide) lk_X4_fold_120 g9 ?_
      refine J_if_ge (tgt := 46) dX4_fold_39 (by decide) (fun c => ?_) (fun c => ?_)
      · replace F := F.1 c
        refine J_iconst (v := nI 0) dX4_fold_46 (by decide) ?_
        refine J_istore (lv' := [(4, .int (nI 0)), (0, .ref a0), (1, .int x1), (2, .long x2)]) dX4_fold_47 (by decide) rfl ?_
        refine J_iload dX4_fold_49 0 rfl ?_
        refine J_if_eq (tgt := 62) dX4_fold_51 (by decide) (fun c => ?_) (fun c => ?_)
        · replace F := F.1 c
          refine J_aload_n dX4_fold_62 1 rfl ?_
          obtain ⟨v_5, g9, F⟩ := F
          refine J_get (ci := 4) (k := 22) dX4_fold_63 rfl in_X4_fold_4 (by decide) lk_X4_fold_120 g9 ?_
          refine J_istore (lv' := [(5, .int v_5), (4, .int (nI 0)), (0, .ref a0), (1, .int x1), (2, .long x2)]) dX4_fold_66 (by decide) rfl ?_
          refine J_aload_n dX4_fold_68 2 rfl ?_
          refine J_iload dX4_fold_69 0 rfl ?_
          obtain ⟨b9, F⟩ := F
          refine J_callV0 (ci := 4) (n := 1) (As := [.int v_5]) (rest := []) dX4_fold_71 rfl gX4_fold_X4_touchOf rfl (by decide +kernel) rfl (by decide) b9 (Nat.le_of_ble_eq_true rfl) (Nat.le_refl _) (Nat.le_refl _) F kV_no (kV_kk (fun h_6 F => ?_))
          refine J_aload_n dX4_fold_74 2 rfl ?_
          obtain ⟨p_7, g9, F⟩ := F
          refine J_get (ci := 4) (k := 11) dX4_fold_75 rfl in_X4_fold_4 (by decide) lk_X4_fold_38 g9 ?_
          refine J_bipush (v := nI 10) dX4_fold_78 (by decide) ?_
          refine J_iload dX4_fold_80 0 rfl ?_
          refine J_imul dX4_fold_82 ?_
          refine J_iload dX4_fold_83 1 rfl ?_
          refine J_if_eq (tgt := 92) dX4_fold_85 (by decide) (fun c => ?_) (fun c => ?_)
          · replace F := F.1 c
            refine J_aload_n dX4_fold_92 2 rfl ?_
            obtain ⟨p_8, g9, F⟩ := F
            refine J_get (ci := 4) (k := 4) dX4_fold_93 rfl in_X4_fold_4 (by decide) lk_X4_fold_16 g9 ?_
            refine J_iload_n dX4_fold_96 3 rfl ?_
            obtain ⟨v_9, g9, F⟩ := F
            refine J_iald dX4_fold_97 g9 ?_
            refine J_aload_n dX4_fold_98 2 rfl ?_
            obtain ⟨p_10, g9, F⟩ := F
            refine J_get (ci := 4) (k := 11) dX4_fold_99 rfl in_X4_fold_4 (by decide) lk_X4_fold_38 g9 ?_
            refine J_bipush (v := nI 10) dX4_fold_102 (by decide) ?_
            refine J_iload dX4_fold_104 0 rfl ?_
            refine J_imul dX4_fold_106 ?_
            obtain ⟨u_11, g9, F⟩ := F
            refine J_lald dX4_fold_107 g9 ?_
            refine J_lload_n dX4_fold_108 4 rfl ?_
            refine J_callS0 (n := 3) (As := [.int v_9, .long u_11, .long x2]) (rest := [.int ((nI 10) * v_5), .ref p_7]) dX4_fold_109 gX4_fold_X4_folded rfl (by decide +kernel) rfl (by decide) (Nat.le_of_ble_eq_true rfl) (Nat.le_refl _) (Nat.le_refl _) F kL_no (kL_kk (fun u_13 h_12 F => ?_))
            obtain ⟨h_14, g9, F⟩ := F
            refine J_last dX4_fold_112 g9 ?_
            refine J_aload_n dX4_fold_113 2 rfl ?_
            obtain ⟨p_15, g9, F⟩ := F
            refine J_get (ci := 4) (k := 10) dX4_fold_114 rfl in_X4_fold_4 (by decide) lk_X4_fold_35 g9 ?_
            refine J_iload dX4_fold_117 0 rfl ?_
            refine J_dup2 dX4_fold_119 rfl rfl ?_
            obtain ⟨v_16, g9, F⟩ := F
            refine J_iald dX4_fold_120 g9 ?_
            refine J_iconst (v := nI 1) dX4_fold_121 (by decide) ?_
            refine J_iadd dX4_fold_122 ?_
            obtain ⟨h_17, g9, F⟩ := F
            refine J_iast dX4_fold_123 g9 ?_
            refine J_aload_n dX4_fold_124 2 rfl ?_
            obtain ⟨p_18, g9, F⟩ := F
            refine J_get (ci := 4) (k := 10) dX4_fold_125 rfl in_X4_fold_4 (by decide) lk_X4_fold_35 g9 ?_
            refine J_iload dX4_fold_128 0 rfl ?_
            obtain ⟨v_19, g9, F⟩ := F
            refine J_iald dX4_fold_130 g9 ?_
            exact J_iret dX4_fold_131 rfl (Nat.le_refl _) (Nat.le_refl _) F
          · replace F := F.2 c
            refine J_lload_n dX4_fold_88 4 rfl ?_
            refine J_goto (tgt := 112) dX4_fold_89 (by decide) ?_
            obtain ⟨h_20, g9, F⟩ := F
            refine J_last dX4_fold_112 g9 ?_
            refine J_aload_n dX4_fold_113 2 rfl ?_
            obtain ⟨p_21, g9, F⟩ := F
            refine J_get (ci := 4) (k := 10) dX4_fold_114 rfl in_X4_fold_4 (by decide) lk_X4_fold_35 g9 ?_
            refine J_iload dX4_fold_117 0 rfl ?_
            refine J_dup2 dX4_fold_119 rfl rfl ?_
            obtain ⟨v_22, g9, F⟩ := F
            refine J_iald dX4_fold_120 g9 ?_
            refine J_iconst (v := nI 1) dX4_fold_121 (by decide) ?_
            refine J_iadd dX4_fold_122 ?_
            obtain ⟨h_23, g9, F⟩ := F
            refine J_iast dX4_fold_123 g9 ?_
            refine J_aload_n dX4_fold_124 2 rfl ?_
            obtain ⟨p_24, g9, F⟩ := F
            refine J_get (ci := 4) (k := 10) dX4_fold_125 rfl in_X4_fold_4 (by decide) lk_X4_fold_35 g9 ?_
            refine J_iload dX4_fold_128 0 rfl ?_
            obtain ⟨v_25, g9, F⟩ := F
            refine J_iald dX4_fold_130 g9 ?_
            exact J_iret dX4_fold_131 rfl (Nat.le_refl _) (Nat.le_refl _) F
        · replace F := F.2 c
          refine J_aload_n dX4_fold_54 1 rfl ?_
          refine J_iload_n dX4_fold_55 2 rfl ?_
          obtain ⟨b9, F⟩ := F
          refine J_callV0 (ci := 4) (n := 1) (As := [.int x1]) (rest := []) dX4_fold_56 rfl gX4_fold_X4_newEntry rfl (by decide +kernel) rfl (by decide) b9 (Nat.le_of_ble_eq_true rfl) (Nat.le_refl _) (Nat.le_refl _) F kI_no (kI_kk (fun v_27 h_26 F => ?_))
          refine J_goto (tgt := 66) dX4_fold_59 (by decide) ?_
          refine J_istore (lv' := [(5, .int v_27), (4, .int (nI 0)), (0, .ref a0), (1, .int x1), (2, .long x2)]) dX4_fold_66 (by decide) rfl ?_
          refine J_aload_n dX4_fold_68 2 rfl ?_
          refine J_iload dX4_fold_69 0 rfl ?_
          obtain ⟨b9, F⟩ := F
          refine J_callV0 (ci := 4) (n := 1) (As := [.int v_27]) (rest := []) dX4_fold_71 rfl gX4_fold_X4_touchOf rfl (by decide +kernel) rfl (by decide) b9 (Nat.le_of_ble_eq_true rfl) (Nat.le_refl _) (Nat.le_refl _) F kV_no (kV_kk (fun h_28 F => ?_))
          refine J_aload_n dX4_fold_74 2 rfl ?_
          obtain ⟨p_29, g9, F⟩ := F
          refine J_get (ci := 4) (k := 11) dX4_fold_75 rfl in_X4_fold_4 (by decide) lk_X4_fold_38 g9 ?_
          refine J_bipush (v := nI 10) dX4_fold_78 (by decide) ?_
          refine J_iload dX4_fold_80 0 rfl ?_
          refine J_imul dX4_fold_82 ?_
          refine J_iload dX4_fold_83 1 rfl ?_
          refine J_if_eq (tgt := 92) dX4_fold_85 (by decide) (fun c => ?_) (fun c => ?_)
          · replace F := F.1 c
            refine J_aload_n dX4_fold_92 2 rfl ?_
            obtain ⟨p_30, g9, F⟩ := F
            refine J_get (ci := 4) (k := 4) dX4_fold_93 rfl in_X4_fold_4 (by decide) lk_X4_fold_16 g9 ?_
            refine J_iload_n dX4_fold_96 3 rfl ?_
            obtain ⟨v_31, g9, F⟩ := F
            refine J_iald dX4_fold_97 g9 ?_
            refine J_aload_n dX4_fold_98 2 rfl ?_
            obtain ⟨p_32, g9, F⟩ := F
            refine J_get (ci := 4) (k := 11) dX4_fold_99 rfl in_X4_fold_4 (by decide) lk_X4_fold_38 g9 ?_
            refine J_bipush (v := nI 10) dX4_fold_102 (by decide) ?_
            refine J_iload dX4_fold_104 0 rfl ?_
            refine J_imul dX4_fold_106 ?_
            obtain ⟨u_33, g9, F⟩ := F
            refine J_lald dX4_fold_107 g9 ?_
            refine J_lload_n dX4_fold_108 4 rfl ?_
            refine J_callS0 (n := 3) (As := [.int v_31, .long u_33, .long x2]) (rest := [.int ((nI 10) * v_27), .ref p_29]) dX4_fold_109 gX4_fold_X4_folded rfl (by decide +kernel) rfl (by decide) (Nat.le_of_ble_eq_true rfl) (Nat.le_refl _) (Nat.le_refl _) F kL_no (kL_kk (fun u_35 h_34 F => ?_))
            obtain ⟨h_36, g9, F⟩ := F
            refine J_last dX4_fold_112 g9 ?_
            refine J_aload_n dX4_fold_113 2 rfl ?_
            obtain ⟨p_37, g9, F⟩ := F
            refine J_get (ci := 4) (k := 10) dX4_fold_114 rfl in_X4_fold_4 (by decide) lk_X4_fold_35 g9 ?_
            refine J_iload dX4_fold_117 0 rfl ?_
            refine J_dup2 dX4_fold_119 rfl rfl ?_
            obtain ⟨v_38, g9, F⟩ := F
            refine J_iald dX4_fold_120 g9 ?_
            refine J_iconst (v := nI 1) dX4_fold_121 (by decide) ?_
            refine J_iadd dX4_fold_122 ?_
            obtain ⟨h_39, g9, F⟩ := F
            refine J_iast dX4_fold_123 g9 ?_
            refine J_aload_n dX4_fold_124 2 rfl ?_
            obtain ⟨p_40, g9, F⟩ := F
            refine J_get (ci := 4) (k := 10) dX4_fold_125 rfl in_X4_fold_4 (by decide) lk_X4_fold_35 g9 ?_
            refine J_iload dX4_fold_128 0 rfl ?_
            obtain ⟨v_41, g9, F⟩ := F
            refine J_iald dX4_fold_130 g9 ?_
            exact J_iret dX4_fold_131 rfl (Nat.le_refl _) (Nat.le_refl _) F
          · replace F := F.2 c
            refine J_lload_n dX4_fold_88 4 rfl ?_
            refine J_goto (tgt := 112) dX4_fold_89 (by decide) ?_
            obtain ⟨h_42, g9, F⟩ := F
            refine J_last dX4_fold_112 g9 ?_
            refine J_aload_n dX4_fold_113 2 rfl ?_
            obtain ⟨p_43, g9, F⟩ := F
            refine J_get (ci := 4) (k := 10) dX4_fold_114 rfl in_X4_fold_4 (by decide) lk_X4_fold_35 g9 ?_
            refine J_iload dX4_fold_117 0 rfl ?_
            refine J_dup2 dX4_fold_119 rfl rfl ?_
            obtain ⟨v_44, g9, F⟩ := F
            refine J_iald dX4_fold_120 g9 ?_
            refine J_iconst (v := nI 1) dX4_fold_121 (by decide) ?_
            refine J_iadd dX4_fold_122 ?_
            obtain ⟨h_45, g9, F⟩ := F
            refine J_iast dX4_fold_123 g9 ?_
            refine J_aload_n dX4_fold_124 2 rfl ?_
            obtain ⟨p_46, g9, F⟩ := F
            refine J_get (ci := 4) (k := 10) dX4_fold_125 rfl in_X4_fold_4 (by decide) lk_X4_fold_35 g9 ?_
            refine J_iload dX4_fold_128 0 rfl ?_
            obtain ⟨v_47, g9, F⟩ := F
            refine J_iald dX4_fold_130 g9 ?_
            exact J_iret dX4_fold_131 rfl (Nat.le_refl _) (Nat.le_refl _) F
      · replace F := F.2 c
        refine J_iconst (v := nI 1) dX4_fold_42 (by decide) ?_
        refine J_goto (tgt := 47) dX4_fold_43 (by decide) ?_
        refine J_istore (lv' := [(4, .int (nI 1)), (0, .ref a0), (1, .int x1), (2, .long x2)]) dX4_fold_47 (by decide) rfl ?_
        refine J_iload dX4_fold_49 0 rfl ?_
        refine J_if_eq (tgt := 62) dX4_fold_51 (by decide) (fun c => ?_) (fun c => ?_)
        · replace F := F.1 c
          refine J_aload_n dX4_fold_62 1 rfl ?_
          obtain ⟨v_48, g9, F⟩ := F
          refine J_get (ci := 4) (k := 22) dX4_fold_63 rfl in_X4_fold_4 (by decide) lk_X4_fold_120 g9 ?_
          refine J_istore (lv' := [(5, .int v_48), (4, .int (nI 1)), (0, .ref a0), (1, .int x1), (2, .long x2)]) dX4_fold_66 (by decide) rfl ?_
          refine J_aload_n dX4_fold_68 2 rfl ?_
          refine J_iload dX4_fold_69 0 rfl ?_
          obtain ⟨b9, F⟩ := F
          refine J_callV0 (ci := 4) (n := 1) (As := [.int v_48]) (rest := []) dX4_fold_71 rfl gX4_fold_X4_touchOf rfl (by decide +kernel) rfl (by decide) b9 (Nat.le_of_ble_eq_true rfl) (Nat.le_refl _) (Nat.le_refl _) F kV_no (kV_kk (fun h_49 F => ?_))
          refine J_aload_n dX4_fold_74 2 rfl ?_
          obtain ⟨p_50, g9, F⟩ := F
          refine J_get (ci := 4) (k := 11) dX4_fold_75 rfl in_X4_fold_4 (by decide) lk_X4_fold_38 g9 ?_
          refine J_bipush (v := nI 10) dX4_fold_78 (by decide) ?_
          refine J_iload dX4_fold_80 0 rfl ?_
          refine J_imul dX4_fold_82 ?_
          refine J_iload dX4_fold_83 1 rfl ?_
          refine J_if_eq (tgt := 92) dX4_fold_85 (by decide) (fun c => ?_) (fun c => ?_)
          · replace F := F.1 c
            refine J_aload_n dX4_fold_92 2 rfl ?_
            obtain ⟨p_51, g9, F⟩ := F
            refine J_get (ci := 4) (k := 4) dX4_fold_93 rfl in_X4_fold_4 (by decide) lk_X4_fold_16 g9 ?_
            refine J_iload_n dX4_fold_96 3 rfl ?_
            obtain ⟨v_52, g9, F⟩ := F
            refine J_iald dX4_fold_97 g9 ?_
            refine J_aload_n dX4_fold_98 2 rfl ?_
            obtain ⟨p_53, g9, F⟩ := F
            refine J_get (ci := 4) (k := 11) dX4_fold_99 rfl in_X4_fold_4 (by decide) lk_X4_fold_38 g9 ?_
            refine J_bipush (v := nI 10) dX4_fold_102 (by decide) ?_
            refine J_iload dX4_fold_104 0 rfl ?_
            refine J_imul dX4_fold_106 ?_
            obtain ⟨u_54, g9, F⟩ := F
            refine J_lald dX4_fold_107 g9 ?_
            refine J_lload_n dX4_fold_108 4 rfl ?_
            refine J_callS0 (n := 3) (As := [.int v_52, .long u_54, .long x2]) (rest := [.int ((nI 10) * v_48), .ref p_50]) dX4_fold_109 gX4_fold_X4_folded rfl (by decide +kernel) rfl (by decide) (Nat.le_of_ble_eq_true rfl) (Nat.le_refl _) (Nat.le_refl _) F kL_no (kL_kk (fun u_56 h_55 F => ?_))
            obtain ⟨h_57, g9, F⟩ := F
            refine J_last dX4_fold_112 g9 ?_
            refine J_aload_n dX4_fold_113 2 rfl ?_
            obtain ⟨p_58, g9, F⟩ := F
            refine J_get (ci := 4) (k := 10) dX4_fold_114 rfl in_X4_fold_4 (by decide) lk_X4_fold_35 g9 ?_
            refine J_iload dX4_fold_117 0 rfl ?_
            refine J_dup2 dX4_fold_119 rfl rfl ?_
            obtain ⟨v_59, g9, F⟩ := F
            refine J_iald dX4_fold_120 g9 ?_
            refine J_iconst (v := nI 1) dX4_fold_121 (by decide) ?_
            refine J_iadd dX4_fold_122 ?_
            obtain ⟨h_60, g9, F⟩ := F
            refine J_iast dX4_fold_123 g9 ?_
            refine J_aload_n dX4_fold_124 2 rfl ?_
            obtain ⟨p_61, g9, F⟩ := F
            refine J_get (ci := 4) (k := 10) dX4_fold_125 rfl in_X4_fold_4 (by decide) lk_X4_fold_35 g9 ?_
            refine J_iload dX4_fold_128 0 rfl ?_
            obtain ⟨v_62, g9, F⟩ := F
            refine J_iald dX4_fold_130 g9 ?_
            exact J_iret dX4_fold_131 rfl (Nat.le_refl _) (Nat.le_refl _) F
          · replace F := F.2 c
            refine J_lload_n dX4_fold_88 4 rfl ?_
            refine J_goto (tgt := 112) dX4_fold_89 (by decide) ?_
            obtain ⟨h_63, g9, F⟩ := F
            refine J_last dX4_fold_112 g9 ?_
            refine J_aload_n dX4_fold_113 2 rfl ?_
            obtain ⟨p_64, g9, F⟩ := F
            refine J_get (ci := 4) (k := 10) dX4_fold_114 rfl in_X4_fold_4 (by decide) lk_X4_fold_35 g9 ?_
            refine J_iload dX4_fold_117 0 rfl ?_
            refine J_dup2 dX4_fold_119 rfl rfl ?_
            obtain ⟨v_65, g9, F⟩ := F
            refine J_iald dX4_fold_120 g9 ?_
            refine J_iconst (v := nI 1) dX4_fold_121 (by decide) ?_
            refine J_iadd dX4_fold_122 ?_
            obtain ⟨h_66, g9, F⟩ := F
            refine J_iast dX4_fold_123 g9 ?_
            refine J_aload_n dX4_fold_124 2 rfl ?_
            obtain ⟨p_67, g9, F⟩ := F
            refine J_get (ci := 4) (k := 10) dX4_fold_125 rfl in_X4_fold_4 (by decide) lk_X4_fold_35 g9 ?_
            refine J_iload dX4_fold_128 0 rfl ?_
            obtain ⟨v_68, g9, F⟩ := F
            refine J_iald dX4_fold_130 g9 ?_
            exact J_iret dX4_fold_131 rfl (Nat.le_refl _) (Nat.le_refl _) F
        · replace F := F.2 c
          refine J_aload_n dX4_fold_54 1 rfl ?_
          refine J_iload_n dX4_fold_55 2 rfl ?_
          obtain ⟨b9, F⟩ := F
          refine J_callV0 (ci := 4) (n := 1) (As := [.int x1]) (rest := []) dX4_fold_56 rfl gX4_fold_X4_newEntry rfl (by decide +kernel) rfl (by decide) b9 (Nat.le_of_ble_eq_true rfl) (Nat.le_refl _) (Nat.le_refl _) F kI_no (kI_kk (fun v_70 h_69 F => ?_))
          refine J_goto (tgt := 66) dX4_fold_59 (by decide) ?_
          refine J_istore (lv' := [(5, .int v_70), (4, .int (nI 1)), (0, .ref a0), (1, .int x1), (2, .long x2)]) dX4_fold_66 (by decide) rfl ?_
          refine J_aload_n dX4_fold_68 2 rfl ?_
          refine J_iload dX4_fold_69 0 rfl ?_
          obtain ⟨b9, F⟩ := F
          refine J_callV0 (ci := 4) (n := 1) (As := [.int v_70]) (rest := []) dX4_fold_71 rfl gX4_fold_X4_touchOf rfl (by decide +kernel) rfl (by decide) b9 (Nat.le_of_ble_eq_true rfl) (Nat.le_refl _) (Nat.le_refl _) F kV_no (kV_kk (fun h_71 F => ?_))
          refine J_aload_n dX4_fold_74 2 rfl ?_
          obtain ⟨p_72, g9, F⟩ := F
          refine J_get (ci := 4) (k := 11) dX4_fold_75 rfl in_X4_fold_4 (by decide) lk_X4_fold_38 g9 ?_
          refine J_bipush (v := nI 10) dX4_fold_78 (by decide) ?_
          refine J_iload dX4_fold_80 0 rfl ?_
          refine J_imul dX4_fold_82 ?_
          refine J_iload dX4_fold_83 1 rfl ?_
          refine J_if_eq (tgt := 92) dX4_fold_85 (by decide) (fun c => ?_) (fun c => ?_)
          · replace F := F.1 c
            refine J_aload_n dX4_fold_92 2 rfl ?_
            obtain ⟨p_73, g9, F⟩ := F
            refine J_get (ci := 4) (k := 4) dX4_fold_93 rfl in_X4_fold_4 (by decide) lk_X4_fold_16 g9 ?_
            refine J_iload_n dX4_fold_96 3 rfl ?_
            obtain ⟨v_74, g9, F⟩ := F
            refine J_iald dX4_fold_97 g9 ?_
            refine J_aload_n dX4_fold_98 2 rfl ?_
            obtain ⟨p_75, g9, F⟩ := F
            refine J_get (ci := 4) (k := 11) dX4_fold_99 rfl in_X4_fold_4 (by decide) lk_X4_fold_38 g9 ?_
            refine J_bipush (v := nI 10) dX4_fold_102 (by decide) ?_
            refine J_iload dX4_fold_104 0 rfl ?_
            refine J_imul dX4_fold_106 ?_
            obtain ⟨u_76, g9, F⟩ := F
            refine J_lald dX4_fold_107 g9 ?_
            refine J_lload_n dX4_fold_108 4 rfl ?_
            refine J_callS0 (n := 3) (As := [.int v_74, .long u_76, .long x2]) (rest := [.int ((nI 10) * v_70), .ref p_72]) dX4_fold_109 gX4_fold_X4_folded rfl (by decide +kernel) rfl (by decide) (Nat.le_of_ble_eq_true rfl) (Nat.le_refl _) (Nat.le_refl _) F kL_no (kL_kk (fun u_78 h_77 F => ?_))
            obtain ⟨h_79, g9, F⟩ := F
            refine J_last dX4_fold_112 g9 ?_
            refine J_aload_n dX4_fold_113 2 rfl ?_
            obtain ⟨p_80, g9, F⟩ := F
            refine J_get (ci := 4) (k := 10) dX4_fold_114 rfl in_X4_fold_4 (by decide) lk_X4_fold_35 g9 ?_
            refine J_iload dX4_fold_117 0 rfl ?_
            refine J_dup2 dX4_fold_119 rfl rfl ?_
            obtain ⟨v_81, g9, F⟩ := F
            refine J_iald dX4_fold_120 g9 ?_
            refine J_iconst (v := nI 1) dX4_fold_121 (by decide) ?_
            refine J_iadd dX4_fold_122 ?_
            obtain ⟨h_82, g9, F⟩ := F
            refine J_iast dX4_fold_123 g9 ?_
            refine J_aload_n dX4_fold_124 2 rfl ?_
            obtain ⟨p_83, g9, F⟩ := F
            refine J_get (ci := 4) (k := 10) dX4_fold_125 rfl in_X4_fold_4 (by decide) lk_X4_fold_35 g9 ?_
            refine J_iload dX4_fold_128 0 rfl ?_
            obtain ⟨v_84, g9, F⟩ := F
            refine J_iald dX4_fold_130 g9 ?_
            exact J_iret dX4_fold_131 rfl (Nat.le_refl _) (Nat.le_refl _) F
          · replace F := F.2 c
            refine J_lload_n dX4_fold_88 4 rfl ?_
            refine J_goto (tgt := 112) dX4_fold_89 (by decide) ?_
            obtain ⟨h_85, g9, F⟩ := F
            refine J_last dX4_fold_112 g9 ?_
            refine J_aload_n dX4_fold_113 2 rfl ?_
            obtain ⟨p_86, g9, F⟩ := F
            refine J_get (ci := 4) (k := 10) dX4_fold_114 rfl in_X4_fold_4 (by decide) lk_X4_fold_35 g9 ?_
            refine J_iload dX4_fold_117 0 rfl ?_
            refine J_dup2 dX4_fold_119 rfl rfl ?_
            obtain ⟨v_87, g9, F⟩ := F
            refine J_iald dX4_fold_120 g9 ?_
            refine J_iconst (v := nI 1) dX4_fold_121 (by decide) ?_
            refine J_iadd dX4_fold_122 ?_
            obtain ⟨h_88, g9, F⟩ := F
            refine J_iast dX4_fold_123 g9 ?_
            refine J_aload_n dX4_fold_124 2 rfl ?_
            obtain ⟨p_89, g9, F⟩ := F
            refine J_get (ci := 4) (k := 10) dX4_fold_125 rfl in_X4_fold_4 (by decide) lk_X4_fold_35 g9 ?_
            refine J_iload dX4_fold_128 0 rfl ?_
            obtain ⟨v_90, g9, F⟩ := F
            refine J_iald dX4_fold_130 g9 ?_
            exact J_iret dX4_fold_131 rfl (Nat.le_refl _) (Nat.le_refl _) F
    · replace F := F.2 c
      refine J_aload_n dX4_fold_20 0 rfl ?_
      obtain ⟨p_91, g9, F⟩ := F
      refine J_get (ci := 4) (k := 6) dX4_fold_21 rfl in_X4_fold_4 (by decide) lk_X4_fold_22 g9 ?_
      refine J_iconst (v := nI 0) dX4_fold_24 (by decide) ?_
      obtain ⟨v_92, g9, F⟩ := F
      refine J_iald dX4_fold_25 g9 ?_
      refine J_sipush (v := nI 150) dX4_fold_26 (by decide) ?_
      refine J_icmp_ne (tgt := 35) dX4_fold_29 (by decide) (fun c => ?_) (fun c => ?_)
      · replace F := F.1 c
        refine J_aload_n dX4_fold_35 0 rfl ?_
        obtain ⟨v_93, g9, F⟩ := F
        refine J_get (ci := 4) (k := 22) dX4_fold_36 rfl in_X4_fold_4 (by decide) lk_X4_fold_120 g9 ?_
        refine J_if_ge (tgt := 46) dX4_fold_39 (by decide) (fun c => ?_) (fun c => ?_)
        · replace F := F.1 c
          refine J_iconst (v := nI 0) dX4_fold_46 (by decide) ?_
          refine J_istore (lv' := [(4, .int (nI 0)), (0, .ref a0), (1, .int x1), (2, .long x2)]) dX4_fold_47 (by decide) rfl ?_
          refine J_iload dX4_fold_49 0 rfl ?_
          refine J_if_eq (tgt := 62) dX4_fold_51 (by decide) (fun c => ?_) (fun c => ?_)
          · replace F := F.1 c
            refine J_aload_n dX4_fold_62 1 rfl ?_
            obtain ⟨v_94, g9, F⟩ := F
            refine J_get (ci := 4) (k := 22) dX4_fold_63 rfl in_X4_fold_4 (by decide) lk_X4_fold_120 g9 ?_
            refine J_istore (lv' := [(5, .int v_94), (4, .int (nI 0)), (0, .ref a0), (1, .int x1), (2, .long x2)]) dX4_fold_66 (by decide) rfl ?_
            refine J_aload_n dX4_fold_68 2 rfl ?_
            refine J_iload dX4_fold_69 0 rfl ?_
            obtain ⟨b9, F⟩ := F
            refine J_callV0 (ci := 4) (n := 1) (As := [.int v_94]) (rest := []) dX4_fold_71 rfl gX4_fold_X4_touchOf rfl (by decide +kernel) rfl (by decide) b9 (Nat.le_of_ble_eq_true rfl) (Nat.le_refl _) (Nat.le_refl _) F kV_no (kV_kk (fun h_95 F => ?_))
            refine J_aload_n dX4_fold_74 2 rfl ?_
            obtain ⟨p_96, g9, F⟩ := F
            refine J_get (ci := 4) (k := 11) dX4_fold_75 rfl in_X4_fold_4 (by decide) lk_X4_fold_38 g9 ?_
            refine J_bipush (v := nI 10) dX4_fold_78 (by decide) ?_
            refine J_iload dX4_fold_80 0 rfl ?_
            refine J_imul dX4_fold_82 ?_
            refine J_iload dX4_fold_83 1 rfl ?_
            refine J_if_eq (tgt := 92) dX4_fold_85 (by decide) (fun c => ?_) (fun c => ?_)
            · replace F := F.1 c
              refine J_aload_n dX4_fold_92 2 rfl ?_
              obtain ⟨p_97, g9, F⟩ := F
              refine J_get (ci := 4) (k := 4) dX4_fold_93 rfl in_X4_fold_4 (by decide) lk_X4_fold_16 g9 ?_
              refine J_iload_n dX4_fold_96 3 rfl ?_
              obtain ⟨v_98, g9, F⟩ := F
              refine J_iald dX4_fold_97 g9 ?_
              refine J_aload_n dX4_fold_98 2 rfl ?_
              obtain ⟨p_99, g9, F⟩ := F
              refine J_get (ci := 4) (k := 11) dX4_fold_99 rfl in_X4_fold_4 (by decide) lk_X4_fold_38 g9 ?_
              refine J_bipush (v := nI 10) dX4_fold_102 (by decide) ?_
              refine J_iload dX4_fold_104 0 rfl ?_
              refine J_imul dX4_fold_106 ?_
              obtain ⟨u_100, g9, F⟩ := F
              refine J_lald dX4_fold_107 g9 ?_
              refine J_lload_n dX4_fold_108 4 rfl ?_
              refine J_callS0 (n := 3) (As := [.int v_98, .long u_100, .long x2]) (rest := [.int ((nI 10) * v_94), .ref p_96]) dX4_fold_109 gX4_fold_X4_folded rfl (by decide +kernel) rfl (by decide) (Nat.le_of_ble_eq_true rfl) (Nat.le_refl _) (Nat.le_refl _) F kL_no (kL_kk (fun u_102 h_101 F => ?_))
              obtain ⟨h_103, g9, F⟩ := F
              refine J_last dX4_fold_112 g9 ?_
              refine J_aload_n dX4_fold_113 2 rfl ?_
              obtain ⟨p_104, g9, F⟩ := F
              refine J_get (ci := 4) (k := 10) dX4_fold_114 rfl in_X4_fold_4 (by decide) lk_X4_fold_35 g9 ?_
              refine J_iload dX4_fold_117 0 rfl ?_
              refine J_dup2 dX4_fold_119 rfl rfl ?_
              obtain ⟨v_105, g9, F⟩ := F
              refine J_iald dX4_fold_120 g9 ?_
              refine J_iconst (v := nI 1) dX4_fold_121 (by decide) ?_
              refine J_iadd dX4_fold_122 ?_
              obtain ⟨h_106, g9, F⟩ := F
              refine J_iast dX4_fold_123 g9 ?_
              refine J_aload_n dX4_fold_124 2 rfl ?_
              obtain ⟨p_107, g9, F⟩ := F
              refine J_get (ci := 4) (k := 10) dX4_fold_125 rfl in_X4_fold_4 (by decide) lk_X4_fold_35 g9 ?_
              refine J_iload dX4_fold_128 0 rfl ?_
              obtain ⟨v_108, g9, F⟩ := F
              refine J_iald dX4_fold_130 g9 ?_
              exact J_iret dX4_fold_131 rfl (Nat.le_refl _) (Nat.le_refl _) F
            · replace F := F.2 c
              refine J_lload_n dX4_fold_88 4 rfl ?_
              refine J_goto (tgt := 112) dX4_fold_89 (by decide) ?_
              obtain ⟨h_109, g9, F⟩ := F
              refine J_last dX4_fold_112 g9 ?_
              refine J_aload_n dX4_fold_113 2 rfl ?_
              obtain ⟨p_110, g9, F⟩ := F
              refine J_get (ci := 4) (k := 10) dX4_fold_114 rfl in_X4_fold_4 (by decide) lk_X4_fold_35 g9 ?_
              refine J_iload dX4_fold_117 0 rfl ?_
              refine J_dup2 dX4_fold_119 rfl rfl ?_
              obtain ⟨v_111, g9, F⟩ := F
              refine J_iald dX4_fold_120 g9 ?_
              refine J_iconst (v := nI 1) dX4_fold_121 (by decide) ?_
              refine J_iadd dX4_fold_122 ?_
              obtain ⟨h_112, g9, F⟩ := F
              refine J_iast dX4_fold_123 g9 ?_
              refine J_aload_n dX4_fold_124 2 rfl ?_
              obtain ⟨p_113, g9, F⟩ := F
              refine J_get (ci := 4) (k := 10) dX4_fold_125 rfl in_X4_fold_4 (by decide) lk_X4_fold_35 g9 ?_
              refine J_iload dX4_fold_128 0 rfl ?_
              obtain ⟨v_114, g9, F⟩ := F
              refine J_iald dX4_fold_130 g9 ?_
              exact J_iret dX4_fold_131 rfl (Nat.le_refl _) (Nat.le_refl _) F
          · replace F := F.2 c
            refine J_aload_n dX4_fold_54 1 rfl ?_
            refine J_iload_n dX4_fold_55 2 rfl ?_
            obtain ⟨b9, F⟩ := F
            refine J_callV0 (ci := 4) (n := 1) (As := [.int x1]) (rest := []) dX4_fold_56 rfl gX4_fold_X4_newEntry rfl (by decide +kernel) rfl (by decide) b9 (Nat.le_of_ble_eq_true rfl) (Nat.le_refl _) (Nat.le_refl _) F kI_no (kI_kk (fun v_116 h_115 F => ?_))
            refine J_goto (tgt := 66) dX4_fold_59 (by decide) ?_
            refine J_istore (lv' := [(5, .int v_116), (4, .int (nI 0)), (0, .ref a0), (1, .int x1), (2, .long x2)]) dX4_fold_66 (by decide) rfl ?_
            refine J_aload_n dX4_fold_68 2 rfl ?_
            refine J_iload dX4_fold_69 0 rfl ?_
            obtain ⟨b9, F⟩ := F
            refine J_callV0 (ci := 4) (n := 1) (As := [.int v_116]) (rest := []) dX4_fold_71 rfl gX4_fold_X4_touchOf rfl (by decide +kernel) rfl (by decide) b9 (Nat.le_of_ble_eq_true rfl) (Nat.le_refl _) (Nat.le_refl _) F kV_no (kV_kk (fun h_117 F => ?_))
            refine J_aload_n dX4_fold_74 2 rfl ?_
            obtain ⟨p_118, g9, F⟩ := F
            refine J_get (ci := 4) (k := 11) dX4_fold_75 rfl in_X4_fold_4 (by decide) lk_X4_fold_38 g9 ?_
            refine J_bipush (v := nI 10) dX4_fold_78 (by decide) ?_
            refine J_iload dX4_fold_80 0 rfl ?_
            refine J_imul dX4_fold_82 ?_
            refine J_iload dX4_fold_83 1 rfl ?_
            refine J_if_eq (tgt := 92) dX4_fold_85 (by decide) (fun c => ?_) (fun c => ?_)
            · replace F := F.1 c
              refine J_aload_n dX4_fold_92 2 rfl ?_
              obtain ⟨p_119, g9, F⟩ := F
              refine J_get (ci := 4) (k := 4) dX4_fold_93 rfl in_X4_fold_4 (by decide) lk_X4_fold_16 g9 ?_
              refine J_iload_n dX4_fold_96 3 rfl ?_
              obtain ⟨v_120, g9, F⟩ := F
              refine J_iald dX4_fold_97 g9 ?_
              refine J_aload_n dX4_fold_98 2 rfl ?_
              obtain ⟨p_121, g9, F⟩ := F
              refine J_get (ci := 4) (k := 11) dX4_fold_99 rfl in_X4_fold_4 (by decide) lk_X4_fold_38 g9 ?_
              refine J_bipush (v := nI 10) dX4_fold_102 (by decide) ?_
              refine J_iload dX4_fold_104 0 rfl ?_
              refine J_imul dX4_fold_106 ?_
              obtain ⟨u_122, g9, F⟩ := F
              refine J_lald dX4_fold_107 g9 ?_
              refine J_lload_n dX4_fold_108 4 rfl ?_
              refine J_callS0 (n := 3) (As := [.int v_120, .long u_122, .long x2]) (rest := [.int ((nI 10) * v_116), .ref p_118]) dX4_fold_109 gX4_fold_X4_folded rfl (by decide +kernel) rfl (by decide) (Nat.le_of_ble_eq_true rfl) (Nat.le_refl _) (Nat.le_refl _) F kL_no (kL_kk (fun u_124 h_123 F => ?_))
              obtain ⟨h_125, g9, F⟩ := F
              refine J_last dX4_fold_112 g9 ?_
              refine J_aload_n dX4_fold_113 2 rfl ?_
              obtain ⟨p_126, g9, F⟩ := F
              refine J_get (ci := 4) (k := 10) dX4_fold_114 rfl in_X4_fold_4 (by decide) lk_X4_fold_35 g9 ?_
              refine J_iload dX4_fold_117 0 rfl ?_
              refine J_dup2 dX4_fold_119 rfl rfl ?_
              obtain ⟨v_127, g9, F⟩ := F
              refine J_iald dX4_fold_120 g9 ?_
              refine J_iconst (v := nI 1) dX4_fold_121 (by decide) ?_
              refine J_iadd dX4_fold_122 ?_
              obtain ⟨h_128, g9, F⟩ := F
              refine J_iast dX4_fold_123 g9 ?_
              refine J_aload_n dX4_fold_124 2 rfl ?_
              obtain ⟨p_129, g9, F⟩ := F
              refine J_get (ci := 4) (k := 10) dX4_fold_125 rfl in_X4_fold_4 (by decide) lk_X4_fold_35 g9 ?_
              refine J_iload dX4_fold_128 0 rfl ?_
              obtain ⟨v_130, g9, F⟩ := F
              refine J_iald dX4_fold_130 g9 ?_
              exact J_iret dX4_fold_131 rfl (Nat.le_refl _) (Nat.le_refl _) F
            · replace F := F.2 c
              refine J_lload_n dX4_fold_88 4 rfl ?_
              refine J_goto (tgt := 112) dX4_fold_89 (by decide) ?_
              obtain ⟨h_131, g9, F⟩ := F
              refine J_last dX4_fold_112 g9 ?_
              refine J_aload_n dX4_fold_113 2 rfl ?_
              obtain ⟨p_132, g9, F⟩ := F
              refine J_get (ci := 4) (k := 10) dX4_fold_114 rfl in_X4_fold_4 (by decide) lk_X4_fold_35 g9 ?_
              refine J_iload dX4_fold_117 0 rfl ?_
              refine J_dup2 dX4_fold_119 rfl rfl ?_
              obtain ⟨v_133, g9, F⟩ := F
              refine J_iald dX4_fold_120 g9 ?_
              refine J_iconst (v := nI 1) dX4_fold_121 (by decide) ?_
              refine J_iadd dX4_fold_122 ?_
              obtain ⟨h_134, g9, F⟩ := F
              refine J_iast dX4_fold_123 g9 ?_
              refine J_aload_n dX4_fold_124 2 rfl ?_
              obtain ⟨p_135, g9, F⟩ := F
              refine J_get (ci := 4) (k := 10) dX4_fold_125 rfl in_X4_fold_4 (by decide) lk_X4_fold_35 g9 ?_
              refine J_iload dX4_fold_128 0 rfl ?_
              obtain ⟨v_136, g9, F⟩ := F
              refine J_iald dX4_fold_130 g9 ?_
              exact J_iret dX4_fold_131 rfl (Nat.le_refl _) (Nat.le_refl _) F
        · replace F := F.2 c
          refine J_iconst (v := nI 1) dX4_fold_42 (by decide) ?_
          refine J_goto (tgt := 47) dX4_fold_43 (by decide) ?_
          refine J_istore (lv' := [(4, .int (nI 1)), (0, .ref a0), (1, .int x1), (2, .long x2)]) dX4_fold_47 (by decide) rfl ?_
          refine J_iload dX4_fold_49 0 rfl ?_
          refine J_if_eq (tgt := 62) dX4_fold_51 (by decide) (fun c => ?_) (fun c => ?_)
          · replace F := F.1 c
            refine J_aload_n dX4_fold_62 1 rfl ?_
            obtain ⟨v_137, g9, F⟩ := F
            refine J_get (ci := 4) (k := 22) dX4_fold_63 rfl in_X4_fold_4 (by decide) lk_X4_fold_120 g9 ?_
            refine J_istore (lv' := [(5, .int v_137), (4, .int (nI 1)), (0, .ref a0), (1, .int x1), (2, .long x2)]) dX4_fold_66 (by decide) rfl ?_
            refine J_aload_n dX4_fold_68 2 rfl ?_
            refine J_iload dX4_fold_69 0 rfl ?_
            obtain ⟨b9, F⟩ := F
            refine J_callV0 (ci := 4) (n := 1) (As := [.int v_137]) (rest := []) dX4_fold_71 rfl gX4_fold_X4_touchOf rfl (by decide +kernel) rfl (by decide) b9 (Nat.le_of_ble_eq_true rfl) (Nat.le_refl _) (Nat.le_refl _) F kV_no (kV_kk (fun h_138 F => ?_))
            refine J_aload_n dX4_fold_74 2 rfl ?_
            obtain ⟨p_139, g9, F⟩ := F
            refine J_get (ci := 4) (k := 11) dX4_fold_75 rfl in_X4_fold_4 (by decide) lk_X4_fold_38 g9 ?_
            refine J_bipush (v := nI 10) dX4_fold_78 (by decide) ?_
            refine J_iload dX4_fold_80 0 rfl ?_
            refine J_imul dX4_fold_82 ?_
            refine J_iload dX4_fold_83 1 rfl ?_
            refine J_if_eq (tgt := 92) dX4_fold_85 (by decide) (fun c => ?_) (fun c => ?_)
            · replace F := F.1 c
              refine J_aload_n dX4_fold_92 2 rfl ?_
              obtain ⟨p_140, g9, F⟩ := F
              refine J_get (ci := 4) (k := 4) dX4_fold_93 rfl in_X4_fold_4 (by decide) lk_X4_fold_16 g9 ?_
              refine J_iload_n dX4_fold_96 3 rfl ?_
              obtain ⟨v_141, g9, F⟩ := F
              refine J_iald dX4_fold_97 g9 ?_
              refine J_aload_n dX4_fold_98 2 rfl ?_
              obtain ⟨p_142, g9, F⟩ := F
              refine J_get (ci := 4) (k := 11) dX4_fold_99 rfl in_X4_fold_4 (by decide) lk_X4_fold_38 g9 ?_
              refine J_bipush (v := nI 10) dX4_fold_102 (by decide) ?_
              refine J_iload dX4_fold_104 0 rfl ?_
              refine J_imul dX4_fold_106 ?_
              obtain ⟨u_143, g9, F⟩ := F
              refine J_lald dX4_fold_107 g9 ?_
              refine J_lload_n dX4_fold_108 4 rfl ?_
              refine J_callS0 (n := 3) (As := [.int v_141, .long u_143, .long x2]) (rest := [.int ((nI 10) * v_137), .ref p_139]) dX4_fold_109 gX4_fold_X4_folded rfl (by decide +kernel) rfl (by decide) (Nat.le_of_ble_eq_true rfl) (Nat.le_refl _) (Nat.le_refl _) F kL_no (kL_kk (fun u_145 h_144 F => ?_))
              obtain ⟨h_146, g9, F⟩ := F
              refine J_last dX4_fold_112 g9 ?_
              refine J_aload_n dX4_fold_113 2 rfl ?_
              obtain ⟨p_147, g9, F⟩ := F
              refine J_get (ci := 4) (k := 10) dX4_fold_114 rfl in_X4_fold_4 (by decide) lk_X4_fold_35 g9 ?_
              refine J_iload dX4_fold_117 0 rfl ?_
              refine J_dup2 dX4_fold_119 rfl rfl ?_
              obtain ⟨v_148, g9, F⟩ := F
              refine J_iald dX4_fold_120 g9 ?_
              refine J_iconst (v := nI 1) dX4_fold_121 (by decide) ?_
              refine J_iadd dX4_fold_122 ?_
              obtain ⟨h_149, g9, F⟩ := F
              refine J_iast dX4_fold_123 g9 ?_
              refine J_aload_n dX4_fold_124 2 rfl ?_
              obtain ⟨p_150, g9, F⟩ := F
              refine J_get (ci := 4) (k := 10) dX4_fold_125 rfl in_X4_fold_4 (by decide) lk_X4_fold_35 g9 ?_
              refine J_iload dX4_fold_128 0 rfl ?_
              obtain ⟨v_151, g9, F⟩ := F
              refine J_iald dX4_fold_130 g9 ?_
              exact J_iret dX4_fold_131 rfl (Nat.le_refl _) (Nat.le_refl _) F
            · replace F := F.2 c
              refine J_lload_n dX4_fold_88 4 rfl ?_
              refine J_goto (tgt := 112) dX4_fold_89 (by decide) ?_
              obtain ⟨h_152, g9, F⟩ := F
              refine J_last dX4_fold_112 g9 ?_
              refine J_aload_n dX4_fold_113 2 rfl ?_
              obtain ⟨p_153, g9, F⟩ := F
              refine J_get (ci := 4) (k := 10) dX4_fold_114 rfl in_X4_fold_4 (by decide) lk_X4_fold_35 g9 ?_
              refine J_iload dX4_fold_117 0 rfl ?_
              refine J_dup2 dX4_fold_119 rfl rfl ?_
              obtain ⟨v_154, g9, F⟩ := F
              refine J_iald dX4_fold_120 g9 ?_
              refine J_iconst (v := nI 1) dX4_fold_121 (by decide) ?_
              refine J_iadd dX4_fold_122 ?_
              obtain ⟨h_155, g9, F⟩ := F
              refine J_iast dX4_fold_123 g9 ?_
              refine J_aload_n dX4_fold_124 2 rfl ?_
              obtain ⟨p_156, g9, F⟩ := F
              refine J_get (ci := 4) (k := 10) dX4_fold_125 rfl in_X4_fold_4 (by decide) lk_X4_fold_35 g9 ?_
              refine J_iload dX4_fold_128 0 rfl ?_
              obtain ⟨v_157, g9, F⟩ := F
              refine J_iald dX4_fold_130 g9 ?_
              exact J_iret dX4_fold_131 rfl (Nat.le_refl _) (Nat.le_refl _) F
          · replace F := F.2 c
            refine J_aload_n dX4_fold_54 1 rfl ?_
            refine J_iload_n dX4_fold_55 2 rfl ?_
            obtain ⟨b9, F⟩ := F
            refine J_callV0 (ci := 4) (n := 1) (As := [.int x1]) (rest := []) dX4_fold_56 rfl gX4_fold_X4_newEntry rfl (by decide +kernel) rfl (by decide) b9 (Nat.le_of_ble_eq_true rfl) (Nat.le_refl _) (Nat.le_refl _) F kI_no (kI_kk (fun v_159 h_158 F => ?_))
            refine J_goto (tgt := 66) dX4_fold_59 (by decide) ?_
            refine J_istore (lv' := [(5, .int v_159), (4, .int (nI 1)), (0, .ref a0), (1, .int x1), (2, .long x2)]) dX4_fold_66 (by decide) rfl ?_
            refine J_aload_n dX4_fold_68 2 rfl ?_
            refine J_iload dX4_fold_69 0 rfl ?_
            obtain ⟨b9, F⟩ := F
            refine J_callV0 (ci := 4) (n := 1) (As := [.int v_159]) (rest := []) dX4_fold_71 rfl gX4_fold_X4_touchOf rfl (by decide +kernel) rfl (by decide) b9 (Nat.le_of_ble_eq_true rfl) (Nat.le_refl _) (Nat.le_refl _) F kV_no (kV_kk (fun h_160 F => ?_))
            refine J_aload_n dX4_fold_74 2 rfl ?_
            obtain ⟨p_161, g9, F⟩ := F
            refine J_get (ci := 4) (k := 11) dX4_fold_75 rfl in_X4_fold_4 (by decide) lk_X4_fold_38 g9 ?_
            refine J_bipush (v := nI 10) dX4_fold_78 (by decide) ?_
            refine J_iload dX4_fold_80 0 rfl ?_
            refine J_imul dX4_fold_82 ?_
            refine J_iload dX4_fold_83 1 rfl ?_
            refine J_if_eq (tgt := 92) dX4_fold_85 (by decide) (fun c => ?_) (fun c => ?_)
            · replace F := F.1 c
              refine J_aload_n dX4_fold_92 2 rfl ?_
              obtain ⟨p_162, g9, F⟩ := F
              refine J_get (ci := 4) (k := 4) dX4_fold_93 rfl in_X4_fold_4 (by decide) lk_X4_fold_16 g9 ?_
              refine J_iload_n dX4_fold_96 3 rfl ?_
              obtain ⟨v_163, g9, F⟩ := F
              refine J_iald dX4_fold_97 g9 ?_
              refine J_aload_n dX4_fold_98 2 rfl ?_
              obtain ⟨p_164, g9, F⟩ := F
              refine J_get (ci := 4) (k := 11) dX4_fold_99 rfl in_X4_fold_4 (by decide) lk_X4_fold_38 g9 ?_
              refine J_bipush (v := nI 10) dX4_fold_102 (by decide) ?_
              refine J_iload dX4_fold_104 0 rfl ?_
              refine J_imul dX4_fold_106 ?_
              obtain ⟨u_165, g9, F⟩ := F
              refine J_lald dX4_fold_107 g9 ?_
              refine J_lload_n dX4_fold_108 4 rfl ?_
              refine J_callS0 (n := 3) (As := [.int v_163, .long u_165, .long x2]) (rest := [.int ((nI 10) * v_159), .ref p_161]) dX4_fold_109 gX4_fold_X4_folded rfl (by decide +kernel) rfl (by decide) (Nat.le_of_ble_eq_true rfl) (Nat.le_refl _) (Nat.le_refl _) F kL_no (kL_kk (fun u_167 h_166 F => ?_))
              obtain ⟨h_168, g9, F⟩ := F
              refine J_last dX4_fold_112 g9 ?_
              refine J_aload_n dX4_fold_113 2 rfl ?_
              obtain ⟨p_169, g9, F⟩ := F
              refine J_get (ci := 4) (k := 10) dX4_fold_114 rfl in_X4_fold_4 (by decide) lk_X4_fold_35 g9 ?_
              refine J_iload dX4_fold_117 0 rfl ?_
              refine J_dup2 dX4_fold_119 rfl rfl ?_
              obtain ⟨v_170, g9, F⟩ := F
              refine J_iald dX4_fold_120 g9 ?_
              refine J_iconst (v := nI 1) dX4_fold_121 (by decide) ?_
              refine J_iadd dX4_fold_122 ?_
              obtain ⟨h_171, g9, F⟩ := F
              refine J_iast dX4_fold_123 g9 ?_
              refine J_aload_n dX4_fold_124 2 rfl ?_
              obtain ⟨p_172, g9, F⟩ := F
              refine J_get (ci := 4) (k := 10) dX4_fold_125 rfl in_X4_fold_4 (by decide) lk_X4_fold_35 g9 ?_
              refine J_iload dX4_fold_128 0 rfl ?_
              obtain ⟨v_173, g9, F⟩ := F
              refine J_iald dX4_fold_130 g9 ?_
              exact J_iret dX4_fold_131 rfl (Nat.le_refl _) (Nat.le_refl _) F
            · replace F := F.2 c
              refine J_lload_n dX4_fold_88 4 rfl ?_
              refine J_goto (tgt := 112) dX4_fold_89 (by decide) ?_
              obtain ⟨h_174, g9, F⟩ := F
              refine J_last dX4_fold_112 g9 ?_
              refine J_aload_n dX4_fold_113 2 rfl ?_
              obtain ⟨p_175, g9, F⟩ := F
              refine J_get (ci := 4) (k := 10) dX4_fold_114 rfl in_X4_fold_4 (by decide) lk_X4_fold_35 g9 ?_
              refine J_iload dX4_fold_117 0 rfl ?_
              refine J_dup2 dX4_fold_119 rfl rfl ?_
              obtain ⟨v_176, g9, F⟩ := F
              refine J_iald dX4_fold_120 g9 ?_
              refine J_iconst (v := nI 1) dX4_fold_121 (by decide) ?_
              refine J_iadd dX4_fold_122 ?_
              obtain ⟨h_177, g9, F⟩ := F
              refine J_iast dX4_fold_123 g9 ?_
              refine J_aload_n dX4_fold_124 2 rfl ?_
              obtain ⟨p_178, g9, F⟩ := F
              refine J_get (ci := 4) (k := 10) dX4_fold_125 rfl in_X4_fold_4 (by decide) lk_X4_fold_35 g9 ?_
              refine J_iload dX4_fold_128 0 rfl ?_
              obtain ⟨v_179, g9, F⟩ := F
              refine J_iald dX4_fold_130 g9 ?_
              exact J_iret dX4_fold_131 rfl (Nat.le_refl _) (Nat.le_refl _) F
      · replace F := F.2 c
        refine J_bipush (v := -nI 4) dX4_fold_32 (by decide) ?_
        exact J_iret dX4_fold_34 rfl (Nat.le_refl _) (Nat.le_refl _) F
  · replace F := F.2 c
    refine J_iconst (v := nI 0) dX4_fold_11 (by decide) ?_
    exact J_iret dX4_fold_12 rfl (Nat.le_refl _) (Nat.le_refl _) F

abbrev mX4_placeOf (l : Launch) (K : Kx) (As : List Value) (h : Hp) (Post : Rs → Hp → Prop) : Prop := MX l K yX4_placeOf wsX4_placeOf 0 0 0 0 As h Post
set_option maxRecDepth 100000 in
set_option maxHeartbeats 4000000 in
theorem fX4_placeOf {l : Launch} {K : Kx} {a0 : Nat} {x1 : Int32} {x2 : Int64} {h : Hp} {Post : Rs → Hp → Prop} (htr : l.stackTraces = false)
    (F : (∀ X_2 : Int32 → Prop, (∀ (i_1 : Int32), ((∃ p_3, gf h a0 4 10 = some (.ref p_3) ∧ (∃ v_4, aI K h p_3 x1 = some v_4 ∧ ((v_4 ≤ i_1 → (Post (.inl (some (.int i_1))) h)) ∧ (¬ v_4 ≤ i_1 → (∃ p_5, gf h a0 4 12 = some (.ref p_5) ∧ (∃ u_6, aJ K h p_5 (((nI 10) * x1) + i_1) = some u_6 ∧ ((x2 ≤ u_6 → (Post (.inl (some (.int i_1))) h)) ∧ (¬ x2 ≤ u_6 → X_2 (i_1 + nI 1)))))))))) → X_2 i_1) → X_2 (nI 0))) :
    mX4_placeOf l K [.ref a0, .int x1, .long x2] h Post := by
  refine MX.enter htr (by decide) rfl (Nat.le_of_ble_eq_true rfl) ?_
  refine J_lveq (lv' := [(0, .ref a0), (1, .int x1), (2, .long x2)]) rfl ?_
  refine J_iconst (v := nI 0) dX4_placeOf_0 (by decide) ?_
  refine J_istore (lv' := [(4, .int (nI 0)), (0, .ref a0), (1, .int x1), (2, .long x2)]) dX4_placeOf_1 (by decide) rfl ?_
  refine J_sub [1, 2, 3, 0] rfl ?_
  refine F (fun (i_1 : Int32) => J l K yX4_placeOf.cls cX4_placeOf 5 (some .int) wsX4_placeOf [] yX4_placeOf.name 0 0 0 0 (QM K 0 0 Post) 3 [] [(0, .ref a0), (1, .int x1), (2, .long x2), (4, .int i_1)] h 0 0) ?_
  intro i_1 F
  refine J_iload dX4_placeOf_3 3 rfl ?_
  refine J_aload_n dX4_placeOf_5 0 rfl ?_
  obtain ⟨p_3, g9, F⟩ := F
  refine J_get (ci := 4) (k := 10) dX4_placeOf_6 rfl in_X4_placeOf_4 (by decide) lk_X4_placeOf_35 g9 ?_
  refine J_iload_n dX4_placeOf_9 1 rfl ?_
  obtain ⟨v_4, g9, F⟩ := F
  refine J_iald dX4_placeOf_10 g9 ?_
  refine J_icmp_ge (tgt := 37) dX4_placeOf_11 (by decide) (fun c => ?_) (fun c => ?_)
  · replace F := F.1 c
    refine J_iload dX4_placeOf_37 3 rfl ?_
    exact J_iret dX4_placeOf_39 rfl (Nat.le_refl _) (Nat.le_refl _) F
  · replace F := F.2 c
    refine J_aload_n dX4_placeOf_14 0 rfl ?_
    obtain ⟨p_5, g9, F⟩ := F
    refine J_get (ci := 4) (k := 12) dX4_placeOf_15 rfl in_X4_placeOf_4 (by decide) lk_X4_placeOf_41 g9 ?_
    refine J_bipush (v := nI 10) dX4_placeOf_18 (by decide) ?_
    refine J_iload_n dX4_placeOf_20 1 rfl ?_
    refine J_imul dX4_placeOf_21 ?_
    refine J_iload dX4_placeOf_22 3 rfl ?_
    refine J_iadd dX4_placeOf_24 ?_
    obtain ⟨u_6, g9, F⟩ := F
    refine J_lald dX4_placeOf_25 g9 ?_
    refine J_lload_n dX4_placeOf_26 2 rfl ?_
    refine J_lcmp dX4_placeOf_27 ?_
    refine J_if_ge (tgt := 37) dX4_placeOf_28 (by decide) (fun c => ?_) (fun c => ?_)
    · replace F := F.1 ((lg_cmp_ge _ _).mp c)
      refine J_iload dX4_placeOf_37 3 rfl ?_
      exact J_iret dX4_placeOf_39 rfl (Nat.le_refl _) (Nat.le_refl _) F
    · replace F := F.2 (fun e9 => c ((lg_cmp_ge _ _).mpr e9))
      refine J_iinc (v := i_1 + nI 1) (lv' := [(4, .int (i_1 + nI 1)), (0, .ref a0), (1, .int x1), (2, .long x2)]) dX4_placeOf_31 3 rfl rfl (by decide) rfl ?_
      refine J_goto (tgt := 3) dX4_placeOf_34 (by decide) ?_
      exact J_sub [1, 2, 3, 0] rfl F

abbrev mX4_has (l : Launch) (K : Kx) (As : List Value) (h : Hp) (Post : Rs → Hp → Prop) : Prop := MX l K yX4_has wsX4_has 1 24 0 0 As h Post
set_option maxRecDepth 100000 in
set_option maxHeartbeats 4000000 in
theorem fX4_has {l : Launch} {K : Kx} {a0 : Nat} {x1 : Int32} {x2 : Int64} {h : Hp} {Post : Rs → Hp → Prop} (htr : l.stackTraces = false)
    (F : ((nI 0 ≤ x1 → ((∃ fs, h a0 = some (xO 4 fs)) ∧ mX4_placeOf l K [.ref a0, .int x1, .long x2] h (kI (fun v_2 h_1 => ((x1 < nI 0 → (Post (.inl (some (.int (nI 0)))) h_1)) ∧ (¬ x1 < nI 0 → (∃ p_3, gf h_1 a0 4 10 = some (.ref p_3) ∧ (∃ v_4, aI K h_1 p_3 x1 = some v_4 ∧ ((v_4 ≤ v_2 → (Post (.inl (some (.int (nI 0)))) h_1)) ∧ (¬ v_4 ≤ v_2 → (∃ p_5, gf h_1 a0 4 12 = some (.ref p_5) ∧ (∃ u_6, aJ K h_1 p_5 (((nI 10) * x1) + v_2) = some u_6 ∧ ((¬ u_6 = x2 → (Post (.inl (some (.int (nI 0)))) h_1)) ∧ (u_6 = x2 → (Post (.inl (some (.int (nI 1)))) h_1))))))))))))))) ∧ (¬ nI 0 ≤ x1 → ((x1 < nI 0 → (Post (.inl (some (.int (nI 0)))) h)) ∧ (¬ x1 < nI 0 → (∃ p_7, gf h a0 4 10 = some (.ref p_7) ∧ (∃ v_8, aI K h p_7 x1 = some v_8 ∧ ((v_8 ≤ (nI 0) → (Post (.inl (some (.int (nI 0)))) h)) ∧ (¬ v_8 ≤ (nI 0) → (∃ p_9, gf h a0 4 12 = some (.ref p_9) ∧ (∃ u_10, aJ K h p_9 (((nI 10) * x1) + (nI 0)) = some u_10 ∧ ((¬ u_10 = x2 → (Post (.inl (some (.int (nI 0)))) h)) ∧ (u_10 = x2 → (Post (.inl (some (.int (nI 1)))) h)))))))))))))) :
    mX4_has l K [.ref a0, .int x1, .long x2] h Post := by
  refine MX.enter htr (by decide) rfl (Nat.le_of_ble_eq_true rfl) ?_
  refine J_lveq (lv' := [(0, .ref a0), (1, .int x1), (2, .long x2)]) rfl ?_
  refine J_iload_n dX4_has_0 1 rfl ?_
  refine J_if_ge (tgt := 8) dX4_has_1 (by decide) (fun c => ?_) (fun c => ?_)
  · replace F := F.1 c
    refine J_aload_n dX4_has_8 0 rfl ?_
    refine J_iload_n dX4_has_9 1 rfl ?_
    refine J_lload_n dX4_has_10 2 rfl ?_
    obtain ⟨b9, F⟩ := F
    refine J_callV0 (ci := 4) (n := 2) (As := [.int x1, .long x2]) (rest := []) dX4_has_11 rfl gX4_has_X4_placeOf rfl (by decide +kernel) rfl (by decide) b9 (Nat.le_of_ble_eq_true rfl) (Nat.le_refl _) (Nat.le_refl _) F kI_no (kI_kk (fun v_2 h_1 F => ?_))
    refine J_istore (lv' := [(4, .int v_2), (0, .ref a0), (1, .int x1), (2, .long x2)]) dX4_has_14 (by decide) rfl ?_
    refine J_iload_n dX4_has_16 2 rfl ?_
    refine J_if_lt (tgt := 52) dX4_has_17 (by decide) (fun c => ?_) (fun c => ?_)
    · replace F := F.1 c
      refine J_iconst (v := nI 0) dX4_has_52 (by decide) ?_
      exact J_zret dX4_has_53 rfl (by decide) (Nat.le_refl _) (Nat.le_refl _) F
    · replace F := F.2 c
      refine J_iload dX4_has_20 0 rfl ?_
      refine J_aload_n dX4_has_22 1 rfl ?_
      obtain ⟨p_3, g9, F⟩ := F
      refine J_get (ci := 4) (k := 10) dX4_has_23 rfl in_X4_has_4 (by decide) lk_X4_has_35 g9 ?_
      refine J_iload_n dX4_has_26 2 rfl ?_
      obtain ⟨v_4, g9, F⟩ := F
      refine J_iald dX4_has_27 g9 ?_
      refine J_icmp_ge (tgt := 52) dX4_has_28 (by decide) (fun c => ?_) (fun c => ?_)
      · replace F := F.1 c
        refine J_iconst (v := nI 0) dX4_has_52 (by decide) ?_
        exact J_zret dX4_has_53 rfl (by decide) (Nat.le_refl _) (Nat.le_refl _) F
      · replace F := F.2 c
        refine J_aload_n dX4_has_31 1 rfl ?_
        obtain ⟨p_5, g9, F⟩ := F
        refine J_get (ci := 4) (k := 12) dX4_has_32 rfl in_X4_has_4 (by decide) lk_X4_has_41 g9 ?_
        refine J_bipush (v := nI 10) dX4_has_35 (by decide) ?_
        refine J_iload_n dX4_has_37 2 rfl ?_
        refine J_imul dX4_has_38 ?_
        refine J_iload dX4_has_39 0 rfl ?_
        refine J_iadd dX4_has_41 ?_
        obtain ⟨u_6, g9, F⟩ := F
        refine J_lald dX4_has_42 g9 ?_
        refine J_lload_n dX4_has_43 3 rfl ?_
        refine J_lcmp dX4_has_44 ?_
        refine J_if_ne (tgt := 52) dX4_has_45 (by decide) (fun c => ?_) (fun c => ?_)
        · replace F := F.1 (fun e9 => c ((lg_cmp_eq _ _).mpr e9))
          refine J_iconst (v := nI 0) dX4_has_52 (by decide) ?_
          exact J_zret dX4_has_53 rfl (by decide) (Nat.le_refl _) (Nat.le_refl _) F
        · replace F := F.2 ((lg_cmp_eq _ _).mp c)
          refine J_iconst (v := nI 1) dX4_has_48 (by decide) ?_
          refine J_goto (tgt := 53) dX4_has_49 (by decide) ?_
          exact J_zret dX4_has_53 rfl (by decide) (Nat.le_refl _) (Nat.le_refl _) F
  · replace F := F.2 c
    refine J_iconst (v := nI 0) dX4_has_4 (by decide) ?_
    refine J_goto (tgt := 14) dX4_has_5 (by decide) ?_
    refine J_istore (lv' := [(4, .int (nI 0)), (0, .ref a0), (1, .int x1), (2, .long x2)]) dX4_has_14 (by decide) rfl ?_
    refine J_iload_n dX4_has_16 2 rfl ?_
    refine J_if_lt (tgt := 52) dX4_has_17 (by decide) (fun c => ?_) (fun c => ?_)
    · replace F := F.1 c
      refine J_iconst (v := nI 0) dX4_has_52 (by decide) ?_
      exact J_zret dX4_has_53 rfl (by decide) (Nat.le_refl _) (Nat.le_refl _) F
    · replace F := F.2 c
      refine J_iload dX4_has_20 0 rfl ?_
      refine J_aload_n dX4_has_22 1 rfl ?_
      obtain ⟨p_7, g9, F⟩ := F
      refine J_get (ci := 4) (k := 10) dX4_has_23 rfl in_X4_has_4 (by decide) lk_X4_has_35 g9 ?_
      refine J_iload_n dX4_has_26 2 rfl ?_
      obtain ⟨v_8, g9, F⟩ := F
      refine J_iald dX4_has_27 g9 ?_
      refine J_icmp_ge (tgt := 52) dX4_has_28 (by decide) (fun c => ?_) (fun c => ?_)
      · replace F := F.1 c
        refine J_iconst (v := nI 0) dX4_has_52 (by decide) ?_
        exact J_zret dX4_has_53 rfl (by decide) (Nat.le_refl _) (Nat.le_refl _) F
      · replace F := F.2 c
        refine J_aload_n dX4_has_31 1 rfl ?_
        obtain ⟨p_9, g9, F⟩ := F
        refine J_get (ci := 4) (k := 12) dX4_has_32 rfl in_X4_has_4 (by decide) lk_X4_has_41 g9 ?_
        refine J_bipush (v := nI 10) dX4_has_35 (by decide) ?_
        refine J_iload_n dX4_has_37 2 rfl ?_
        refine J_imul dX4_has_38 ?_
        refine J_iload dX4_has_39 0 rfl ?_
        refine J_iadd dX4_has_41 ?_
        obtain ⟨u_10, g9, F⟩ := F
        refine J_lald dX4_has_42 g9 ?_
        refine J_lload_n dX4_has_43 3 rfl ?_
        refine J_lcmp dX4_has_44 ?_
        refine J_if_ne (tgt := 52) dX4_has_45 (by decide) (fun c => ?_) (fun c => ?_)
        · replace F := F.1 (fun e9 => c ((lg_cmp_eq _ _).mpr e9))
          refine J_iconst (v := nI 0) dX4_has_52 (by decide) ?_
          exact J_zret dX4_has_53 rfl (by decide) (Nat.le_refl _) (Nat.le_refl _) F
        · replace F := F.2 ((lg_cmp_eq _ _).mp c)
          refine J_iconst (v := nI 1) dX4_has_48 (by decide) ?_
          refine J_goto (tgt := 53) dX4_has_49 (by decide) ?_
          exact J_zret dX4_has_53 rfl (by decide) (Nat.le_refl _) (Nat.le_refl _) F

abbrev mX4_get (l : Launch) (K : Kx) (As : List Value) (h : Hp) (Post : Rs → Hp → Prop) : Prop := MX l K yX4_get wsX4_get 3 72 0 0 As h Post
set_option maxRecDepth 100000 in
set_option maxHeartbeats 4000000 in
theorem fX4_get {l : Launch} {K : Kx} {a0 : Nat} {x1 : Int32} {x2 : Int64} {h : Hp} {Post : Rs → Hp → Prop} (htr : l.stackTraces = false)
    (F : ((∃ fs, h a0 = some (xO 4 fs)) ∧ mX4_isRefused l K [.ref a0, .int x1, .int (nI 2), .int (nI 2), .long (lN 0)] h (kI (fun v_2 h_1 => ((v_2 = nI 0 → (∃ v_3, gf h_1 a0 4 22 = some (.int v_3) ∧ ((∃ fs, h_1 a0 = some (xO 4 fs)) ∧ mX4_has l K [.ref a0, .int v_3, .long x2] h_1 (kI (fun v_5 h_4 => ((v_5 = nI 0 → ((∃ fs, h_4 a0 = some (xO 4 fs)) ∧ mX4_fails l K [.ref a0, .int (nI 4)] h_4 (kI (fun v_7 h_6 => (Post (.inl (some (.long v_7.toInt64))) h_6))))) ∧ (¬ v_5 = nI 0 → (∃ p_8, gf h_4 a0 4 11 = some (.ref p_8) ∧ (∃ v_9, gf h_4 a0 4 22 = some (.int v_9) ∧ (∃ v_10, gf h_4 a0 4 22 = some (.int v_10) ∧ ((∃ fs, h_4 a0 = some (xO 4 fs)) ∧ mX4_placeOf l K [.ref a0, .int v_10, .long x2] h_4 (kI (fun v_12 h_11 => (∃ u_13, aJ K h_11 p_8 (((nI 10) * v_9) + v_12) = some u_13 ∧ (Post (.inl (some (.long u_13))) h_11))))))))))))))) ∧ (¬ v_2 = nI 0 → (Post (.inl (some (.long (lN 0)))) h_1))))))) :
    mX4_get l K [.ref a0, .int x1, .long x2] h Post := by
  refine MX.enter htr (by decide) rfl (Nat.le_of_ble_eq_true rfl) ?_
  refine J_lveq (lv' := [(0, .ref a0), (1, .int x1), (2, .long x2)]) rfl ?_
  refine J_aload_n dX4_get_0 0 rfl ?_
  refine J_iload_n dX4_get_1 1 rfl ?_
  refine J_iconst (v := nI 2) dX4_get_2 (by decide) ?_
  refine J_iconst (v := nI 2) dX4_get_3 (by decide) ?_
  refine J_lconst (v := lN 0) dX4_get_4 rfl ?_
  obtain ⟨b9, F⟩ := F
  refine J_callV0 (ci := 4) (n := 4) (As := [.int x1, .int (nI 2), .int (nI 2), .long (lN 0)]) (rest := []) dX4_get_5 rfl gX4_get_X4_isRefused rfl (by decide +kernel) rfl (by decide) b9 (Nat.le_of_ble_eq_true rfl) (Nat.le_refl _) (Nat.le_refl _) F kI_no (kI_kk (fun v_2 h_1 F => ?_))
  refine J_if_eq (tgt := 13) dX4_get_8 (by decide) (fun c => ?_) (fun c => ?_)
  · replace F := F.1 c
    refine J_aload_n dX4_get_13 0 rfl ?_
    refine J_aload_n dX4_get_14 0 rfl ?_
    obtain ⟨v_3, g9, F⟩ := F
    refine J_get (ci := 4) (k := 22) dX4_get_15 rfl in_X4_get_4 (by decide) lk_X4_get_120 g9 ?_
    refine J_lload_n dX4_get_18 2 rfl ?_
    obtain ⟨b9, F⟩ := F
    refine J_callV0 (ci := 4) (n := 2) (As := [.int v_3, .long x2]) (rest := []) dX4_get_19 rfl gX4_get_X4_has rfl (by decide +kernel) rfl (by decide) b9 (Nat.le_of_ble_eq_true rfl) (Nat.le_refl _) (Nat.le_refl _) F kI_no (kI_kk (fun v_5 h_4 F => ?_))
    refine J_if_eq (tgt := 50) dX4_get_22 (by decide) (fun c => ?_) (fun c => ?_)
    · replace F := F.1 c
      refine J_aload_n dX4_get_50 0 rfl ?_
      refine J_iconst (v := nI 4) dX4_get_51 (by decide) ?_
      obtain ⟨b9, F⟩ := F
      refine J_callV0 (ci := 4) (n := 1) (As := [.int (nI 4)]) (rest := []) dX4_get_52 rfl gX4_get_X4_fails rfl (by decide +kernel) rfl (by decide) b9 (Nat.le_of_ble_eq_true rfl) (Nat.le_refl _) (Nat.le_refl _) F kI_no (kI_kk (fun v_7 h_6 F => ?_))
      refine J_i2l dX4_get_55 ?_
      exact J_lret dX4_get_56 rfl (Nat.le_refl _) (Nat.le_refl _) F
    · replace F := F.2 c
      refine J_aload_n dX4_get_25 0 rfl ?_
      obtain ⟨p_8, g9, F⟩ := F
      refine J_get (ci := 4) (k := 11) dX4_get_26 rfl in_X4_get_4 (by decide) lk_X4_get_38 g9 ?_
      refine J_bipush (v := nI 10) dX4_get_29 (by decide) ?_
      refine J_aload_n dX4_get_31 0 rfl ?_
      obtain ⟨v_9, g9, F⟩ := F
      refine J_get (ci := 4) (k := 22) dX4_get_32 rfl in_X4_get_4 (by decide) lk_X4_get_120 g9 ?_
      refine J_imul dX4_get_35 ?_
      refine J_aload_n dX4_get_36 0 rfl ?_
      refine J_aload_n dX4_get_37 0 rfl ?_
      obtain ⟨v_10, g9, F⟩ := F
      refine J_get (ci := 4) (k := 22) dX4_get_38 rfl in_X4_get_4 (by decide) lk_X4_get_120 g9 ?_
      refine J_lload_n dX4_get_41 2 rfl ?_
      obtain ⟨b9, F⟩ := F
      refine J_callV0 (ci := 4) (n := 2) (As := [.int v_10, .long x2]) (rest := [.int ((nI 10) * v_9), .ref p_8]) dX4_get_42 rfl gX4_get_X4_placeOf rfl (by decide +kernel) rfl (by decide) b9 (Nat.le_of_ble_eq_true rfl) (Nat.le_refl _) (Nat.le_refl _) F kI_no (kI_kk (fun v_12 h_11 F => ?_))
      refine J_iadd dX4_get_45 ?_
      obtain ⟨u_13, g9, F⟩ := F
      refine J_lald dX4_get_46 g9 ?_
      refine J_goto (tgt := 56) dX4_get_47 (by decide) ?_
      exact J_lret dX4_get_56 rfl (Nat.le_refl _) (Nat.le_refl _) F
  · replace F := F.2 c
    refine J_lconst (v := lN 0) dX4_get_11 rfl ?_
    exact J_lret dX4_get_12 rfl (Nat.le_refl _) (Nat.le_refl _) F

abbrev mX4_init (l : Launch) (K : Kx) (mc ms : Nat) (As : List Value) (h : Hp) (Post : Rs → Hp → Prop) : Prop := MX l K yX4_init wsX4_init 1 60 mc ms As h Post
set_option maxRecDepth 100000 in
set_option maxHeartbeats 4000000 in
theorem fX4_init {l : Launch} {K : Kx} {mc ms : Nat} {a0 : Nat} {h : Hp} {Post : Rs → Hp → Prop} (htr : l.stackTraces = false)
    (F : (∃ N_3, nI 8 = nI N_3 ∧ N_3 ≤ 60000000 ∧ 0 + 1 ≤ mc ∧ 0 + N_3 ≤ ms ∧ ∀ (q_1 : Nat) (h_2 : Hp), h q_1 = none → kB K ≤ q_1 → h_2 = va_up h q_1 (some (xI K N_3 (fun _ => 0))) → (∃ h_4, pf h_2 a0 4 2 (.ref q_1) = some h_4 ∧ (∃ N_7, nI 56 = nI N_7 ∧ N_7 ≤ 60000000 ∧ (0 + 1) + 1 ≤ mc ∧ (0 + N_3) + N_7 ≤ ms ∧ ∀ (q_5 : Nat) (h_6 : Hp), h_4 q_5 = none → kB K ≤ q_5 → h_6 = va_up h_4 q_5 (some (xI K N_7 (fun _ => 0))) → (∃ h_8, pf h_6 a0 4 3 (.ref q_5) = some h_8 ∧ (∃ N_11, nI 56 = nI N_11 ∧ N_11 ≤ 60000000 ∧ ((0 + 1) + 1) + 1 ≤ mc ∧ ((0 + N_3) + N_7) + N_11 ≤ ms ∧ ∀ (q_9 : Nat) (h_10 : Hp), h_8 q_9 = none → kB K ≤ q_9 → h_10 = va_up h_8 q_9 (some (xI K N_11 (fun _ => 0))) → (∃ h_12, pf h_10 a0 4 4 (.ref q_9) = some h_12 ∧ (∃ N_15, nI 7 = nI N_15 ∧ N_15 ≤ 60000000 ∧ (((0 + 1) + 1) + 1) + 1 ≤ mc ∧ (((0 + N_3) + N_7) + N_11) + N_15 ≤ ms ∧ ∀ (q_13 : Nat) (h_14 : Hp), h_12 q_13 = none → kB K ≤ q_13 → h_14 = va_up h_12 q_13 (some (xI K N_15 (fun _ => 0))) → (∃ h_16, pf h_14 a0 4 5 (.ref q_13) = some h_16 ∧ (∃ N_19, nI 7 = nI N_19 ∧ N_19 ≤ 60000000 ∧ ((((0 + 1) + 1) + 1) + 1) + 1 ≤ mc ∧ ((((0 + N_3) + N_7) + N_11) + N_15) + N_19 ≤ ms ∧ ∀ (q_17 : Nat) (h_18 : Hp), h_16 q_17 = none → kB K ≤ q_17 → h_18 = va_up h_16 q_17 (some (xI K N_19 (fun _ => 0))) → (∃ h_20, pf h_18 a0 4 6 (.ref q_17) = some h_20 ∧ (∃ N_23, nI 1050 = nI N_23 ∧ N_23 ≤ 60000000 ∧ (((((0 + 1) + 1) + 1) + 1) + 1) + 1 ≤ mc ∧ (((((0 + N_3) + N_7) + N_11) + N_15) + N_19) + N_23 ≤ ms ∧ ∀ (q_21 : Nat) (h_22 : Hp), h_20 q_21 = none → kB K ≤ q_21 → h_22 = va_up h_20 q_21 (some (xI K N_23 (fun _ => 0))) → (∃ h_24, pf h_22 a0 4 7 (.ref q_21) = some h_24 ∧ (∃ N_27, nI 1050 = nI N_27 ∧ N_27 ≤ 60000000 ∧ ((((((0 + 1) + 1) + 1) + 1) + 1) + 1) + 1 ≤ mc ∧ ((((((0 + N_3) + N_7) + N_11) + N_15) + N_19) + N_23) + N_27 ≤ ms ∧ ∀ (q_25 : Nat) (h_26 : Hp), h_24 q_25 = none → kB K ≤ q_25 → h_26 = va_up h_24 q_25 (some (xJ K N_27 (fun _ => 0))) → (∃ h_28, pf h_26 a0 4 8 (.ref q_25) = some h_28 ∧ (∃ N_31, nI 1050 = nI N_31 ∧ N_31 ≤ 60000000 ∧ (((((((0 + 1) + 1) + 1) + 1) + 1) + 1) + 1) + 1 ≤ mc ∧ (((((((0 + N_3) + N_7) + N_11) + N_15) + N_19) + N_23) + N_27) + N_31 ≤ ms ∧ ∀ (q_29 : Nat) (h_30 : Hp), h_28 q_29 = none → kB K ≤ q_29 → h_30 = va_up h_28 q_29 (some (xI K N_31 (fun _ => 0))) → (∃ h_32, pf h_30 a0 4 9 (.ref q_29) = some h_32 ∧ (∃ N_35, nI 1050 = nI N_35 ∧ N_35 ≤ 60000000 ∧ ((((((((0 + 1) + 1) + 1) + 1) + 1) + 1) + 1) + 1) + 1 ≤ mc ∧ ((((((((0 + N_3) + N_7) + N_11) + N_15) + N_19) + N_23) + N_27) + N_31) + N_35 ≤ ms ∧ ∀ (q_33 : Nat) (h_34 : Hp), h_32 q_33 = none → kB K ≤ q_33 → h_34 = va_up h_32 q_33 (some (xI K N_35 (fun _ => 0))) → (∃ h_36, pf h_34 a0 4 10 (.ref q_33) = some h_36 ∧ (∃ N_39, nI 10500 = nI N_39 ∧ N_39 ≤ 60000000 ∧ (((((((((0 + 1) + 1) + 1) + 1) + 1) + 1) + 1) + 1) + 1) + 1 ≤ mc ∧ (((((((((0 + N_3) + N_7) + N_11) + N_15) + N_19) + N_23) + N_27) + N_31) + N_35) + N_39 ≤ ms ∧ ∀ (q_37 : Nat) (h_38 : Hp), h_36 q_37 = none → kB K ≤ q_37 → h_38 = va_up h_36 q_37 (some (xJ K N_39 (fun _ => 0))) → (∃ h_40, pf h_38 a0 4 11 (.ref q_37) = some h_40 ∧ (∃ N_43, nI 10500 = nI N_43 ∧ N_43 ≤ 60000000 ∧ ((((((((((0 + 1) + 1) + 1) + 1) + 1) + 1) + 1) + 1) + 1) + 1) + 1 ≤ mc ∧ ((((((((((0 + N_3) + N_7) + N_11) + N_15) + N_19) + N_23) + N_27) + N_31) + N_35) + N_39) + N_43 ≤ ms ∧ ∀ (q_41 : Nat) (h_42 : Hp), h_40 q_41 = none → kB K ≤ q_41 → h_42 = va_up h_40 q_41 (some (xJ K N_43 (fun _ => 0))) → (∃ h_44, pf h_42 a0 4 12 (.ref q_41) = some h_44 ∧ (∃ N_47, nI 112 = nI N_47 ∧ N_47 ≤ 60000000 ∧ (((((((((((0 + 1) + 1) + 1) + 1) + 1) + 1) + 1) + 1) + 1) + 1) + 1) + 1 ≤ mc ∧ (((((((((((0 + N_3) + N_7) + N_11) + N_15) + N_19) + N_23) + N_27) + N_31) + N_35) + N_39) + N_43) + N_47 ≤ ms ∧ ∀ (q_45 : Nat) (h_46 : Hp), h_44 q_45 = none → kB K ≤ q_45 → h_46 = va_up h_44 q_45 (some (xI K N_47 (fun _ => 0))) → (∃ h_48, pf h_46 a0 4 13 (.ref q_45) = some h_48 ∧ (∃ N_51, nI 7 = nI N_51 ∧ N_51 ≤ 60000000 ∧ ((((((((((((0 + 1) + 1) + 1) + 1) + 1) + 1) + 1) + 1) + 1) + 1) + 1) + 1) + 1 ≤ mc ∧ ((((((((((((0 + N_3) + N_7) + N_11) + N_15) + N_19) + N_23) + N_27) + N_31) + N_35) + N_39) + N_43) + N_47) + N_51 ≤ ms ∧ ∀ (q_49 : Nat) (h_50 : Hp), h_48 q_49 = none → kB K ≤ q_49 → h_50 = va_up h_48 q_49 (some (xZ K N_51 (fun _ => 0))) → (∃ h_52, pf h_50 a0 4 14 (.ref q_49) = some h_52 ∧ (∃ N_55, nI 7 = nI N_55 ∧ N_55 ≤ 60000000 ∧ (((((((((((((0 + 1) + 1) + 1) + 1) + 1) + 1) + 1) + 1) + 1) + 1) + 1) + 1) + 1) + 1 ≤ mc ∧ (((((((((((((0 + N_3) + N_7) + N_11) + N_15) + N_19) + N_23) + N_27) + N_31) + N_35) + N_39) + N_43) + N_47) + N_51) + N_55 ≤ ms ∧ ∀ (q_53 : Nat) (h_54 : Hp), h_52 q_53 = none → kB K ≤ q_53 → h_54 = va_up h_52 q_53 (some (xI K N_55 (fun _ => 0))) → (∃ h_56, pf h_54 a0 4 15 (.ref q_53) = some h_56 ∧ (∀ X_61 : Int32 → Hp → Nat → Nat → Prop, (∀ (i_57 : Int32) (h_58 : Hp) (kc_59 : Nat) (ks_60 : Nat), ((((nI 16) ≤ i_57 → ((kc_59 ≤ mc ∧ ks_60 ≤ ms) ∧ Post (.inl none) h_58)) ∧ (¬ (nI 16) ≤ i_57 → (∃ p_62, gf h_58 a0 4 13 = some (.ref p_62) ∧ ((∃ fs, h_58 a0 = some (xO 4 fs)) ∧ (kc_59 + 0 ≤ mc ∧ ks_60 + 0 ≤ ms ∧ mX4_newPage l K [.ref a0] h_58 (kI (fun v_64 h_63 => (∃ h_65, wI K h_63 p_62 i_57 v_64 = some h_65 ∧ X_61 (i_57 + nI 1) h_65 (kc_59 + 0) (ks_60 + 0)))))))))) → X_61 i_57 h_58 kc_59 ks_60) → X_61 (nI 0) h_56 ((((((((((((((0 + 1) + 1) + 1) + 1) + 1) + 1) + 1) + 1) + 1) + 1) + 1) + 1) + 1) + 1) ((((((((((((((0 + N_3) + N_7) + N_11) + N_15) + N_19) + N_23) + N_27) + N_31) + N_35) + N_39) + N_43) + N_47) + N_51) + N_55))))))))))))))))))))))))))))))) :
    mX4_init l K mc ms [.ref a0] h Post := by
  refine MX.enter htr (by decide) rfl (Nat.le_of_ble_eq_true rfl) ?_
  refine J_lveq (lv' := [(0, .ref a0)]) rfl ?_
  refine J_aload_n dX4_init_0 0 rfl ?_
  refine J_objInit dX4_init_1 wd_X4_init_m1 wd_X4_init_oi wd_X4_init_oc (by decide) (Nat.le_of_ble_eq_true rfl) ?_
  refine J_aload_n dX4_init_4 0 rfl ?_
  refine J_bipush (v := nI 8) dX4_init_5 (by decide) ?_
  obtain ⟨N_3, e9, b9, k9, w9, F⟩ := F
  refine J_newa (t := 0) (N' := N_3) (a0 := (N_3, .inl (fun _ => 0))) dX4_init_7 wd_X4_init_a0 rfl rfl ra_i (fun _ => rfl) e9 b9 (by decide) k9 w9 (fun q_1 h9 i9 => ?_)
  replace F := F q_1 _ h9 i9 rfl
  generalize va_up h q_1 (some (xI K N_3 (fun _ => 0))) = h_2 at F ⊢
  obtain ⟨h_4, g9, F⟩ := F
  refine J_putF (ci := 4) (k := 2) dX4_init_9 rfl in_X4_init_4 tyX4 tyX4_ok nmX4 (by decide) lk_X4_init_7 rfl rfl rfl rfl rfl rfl g9 ?_
  refine J_aload_n dX4_init_12 0 rfl ?_
  refine J_bipush (v := nI 56) dX4_init_13 (by decide) ?_
  obtain ⟨N_7, e9, b9, k9, w9, F⟩ := F
  refine J_newa (t := 0) (N' := N_7) (a0 := (N_7, .inl (fun _ => 0))) dX4_init_15 wd_X4_init_a0 rfl rfl ra_i (fun _ => rfl) e9 b9 (by decide) k9 w9 (fun q_5 h9 i9 => ?_)
  replace F := F q_5 _ h9 i9 rfl
  generalize va_up h_4 q_5 (some (xI K N_7 (fun _ => 0))) = h_6 at F ⊢
  obtain ⟨h_8, g9, F⟩ := F
  refine J_putF (ci := 4) (k := 3) dX4_init_17 rfl in_X4_init_4 tyX4 tyX4_ok nmX4 (by decide) lk_X4_init_13 rfl rfl rfl rfl rfl rfl g9 ?_
  refine J_aload_n dX4_init_20 0 rfl ?_
  refine J_bipush (v := nI 56) dX4_init_21 (by decide) ?_
  obtain ⟨N_11, e9, b9, k9, w9, F⟩ := F
  refine J_newa (t := 0) (N' := N_11) (a0 := (N_11, .inl (fun _ => 0))) dX4_init_23 wd_X4_init_a0 rfl rfl ra_i (fun _ => rfl) e9 b9 (by decide) k9 w9 (fun q_9 h9 i9 => ?_)
  replace F := F q_9 _ h9 i9 rfl
  generalize va_up h_8 q_9 (some (xI K N_11 (fun _ => 0))) = h_10 at F ⊢
  obtain ⟨h_12, g9, F⟩ := F
  refine J_putF (ci := 4) (k := 4) dX4_init_25 rfl in_X4_init_4 tyX4 tyX4_ok nmX4 (by decide) lk_X4_init_16 rfl rfl rfl rfl rfl rfl g9 ?_
  refine J_aload_n dX4_init_28 0 rfl ?_
  refine J_bipush (v := nI 7) dX4_init_29 (by decide) ?_
  obtain ⟨N_15, e9, b9, k9, w9, F⟩ := F
  refine J_newa (t := 0) (N' := N_15) (a0 := (N_15, .inl (fun _ => 0))) dX4_init_31 wd_X4_init_a0 rfl rfl ra_i (fun _ => rfl) e9 b9 (by decide) k9 w9 (fun q_13 h9 i9 => ?_)
  replace F := F q_13 _ h9 i9 rfl
  generalize va_up h_12 q_13 (some (xI K N_15 (fun _ => 0))) = h_14 at F ⊢
  obtain ⟨h_16, g9, F⟩ := F
  refine J_putF (ci := 4) (k := 5) dX4_init_33 rfl in_X4_init_4 tyX4 tyX4_ok nmX4 (by decide) lk_X4_init_19 rfl rfl rfl rfl rfl rfl g9 ?_
  refine J_aload_n dX4_init_36 0 rfl ?_
  refine J_bipush (v := nI 7) dX4_init_37 (by decide) ?_
  obtain ⟨N_19, e9, b9, k9, w9, F⟩ := F
  refine J_newa (t := 0) (N' := N_19) (a0 := (N_19, .inl (fun _ => 0))) dX4_init_39 wd_X4_init_a0 rfl rfl ra_i (fun _ => rfl) e9 b9 (by decide) k9 w9 (fun q_17 h9 i9 => ?_)
  replace F := F q_17 _ h9 i9 rfl
  generalize va_up h_16 q_17 (some (xI K N_19 (fun _ => 0))) = h_18 at F ⊢
  obtain ⟨h_20, g9, F⟩ := F
  refine J_putF (ci := 4) (k := 6) dX4_init_41 rfl in_X4_init_4 tyX4 tyX4_ok nmX4 (by decide) lk_X4_init_22 rfl rfl rfl rfl rfl rfl g9 ?_
  refine J_aload_n dX4_init_44 0 rfl ?_
  refine J_sipush (v := nI 1050) dX4_init_45 (by decide) ?_
  obtain ⟨N_23, e9, b9, k9, w9, F⟩ := F
  refine J_newa (t := 0) (N' := N_23) (a0 := (N_23, .inl (fun _ => 0))) dX4_init_48 wd_X4_init_a0 rfl rfl ra_i (fun _ => rfl) e9 b9 (by decide) k9 w9 (fun q_21 h9 i9 => ?_)
  replace F := F q_21 _ h9 i9 rfl
  generalize va_up h_20 q_21 (some (xI K N_23 (fun _ => 0))) = h_22 at F ⊢
  obtain ⟨h_24, g9, F⟩ := F
  refine J_putF (ci := 4) (k := 7) dX4_init_50 rfl in_X4_init_4 tyX4 tyX4_ok nmX4 (by decide) lk_X4_init_25 rfl rfl rfl rfl rfl rfl g9 ?_
  refine J_aload_n dX4_init_53 0 rfl ?_
  refine J_sipush (v := nI 1050) dX4_init_54 (by decide) ?_
  obtain ⟨N_27, e9, b9, k9, w9, F⟩ := F
  refine J_newa (t := 1) (N' := N_27) (a0 := (N_27, .inr (.inl (fun _ => 0)))) dX4_init_57 wd_X4_init_a1 rfl rfl ra_j (fun _ => rfl) e9 b9 (by decide) k9 w9 (fun q_25 h9 i9 => ?_)
  replace F := F q_25 _ h9 i9 rfl
  generalize va_up h_24 q_25 (some (xJ K N_27 (fun _ => 0))) = h_26 at F ⊢
  obtain ⟨h_28, g9, F⟩ := F
  refine J_putF (ci := 4) (k := 8) dX4_init_59 rfl in_X4_init_4 tyX4 tyX4_ok nmX4 (by decide) lk_X4_init_28 rfl rfl rfl rfl rfl rfl g9 ?_
  refine J_aload_n dX4_init_62 0 rfl ?_
  refine J_sipush (v := nI 1050) dX4_init_63 (by decide) ?_
  obtain ⟨N_31, e9, b9, k9, w9, F⟩ := F
  refine J_newa (t := 0) (N' := N_31) (a0 := (N_31, .inl (fun _ => 0))) dX4_init_66 wd_X4_init_a0 rfl rfl ra_i (fun _ => rfl) e9 b9 (by decide) k9 w9 (fun q_29 h9 i9 => ?_)
  replace F := F q_29 _ h9 i9 rfl
  generalize va_up h_28 q_29 (some (xI K N_31 (fun _ => 0))) = h_30 at F ⊢
  obtain ⟨h_32, g9, F⟩ := F
  refine J_putF (ci := 4) (k := 9) dX4_init_68 rfl in_X4_init_4 tyX4 tyX4_ok nmX4 (by decide) lk_X4_init_32 rfl rfl rfl rfl rfl rfl g9 ?_
  refine J_aload_n dX4_init_71 0 rfl ?_
  refine J_sipush (v := nI 1050) dX4_init_72 (by decide) ?_
  obtain ⟨N_35, e9, b9, k9, w9, F⟩ := F
  refine J_newa (t := 0) (N' := N_35) (a0 := (N_35, .inl (fun _ => 0))) dX4_init_75 wd_X4_init_a0 rfl rfl ra_i (fun _ => rfl) e9 b9 (by decide) k9 w9 (fun q_33 h9 i9 => ?_)
  replace F := F q_33 _ h9 i9 rfl
  generalize va_up h_32 q_33 (some (xI K N_35 (fun _ => 0))) = h_34 at F ⊢
  obtain ⟨h_36, g9, F⟩ := F
  refine J_putF (ci := 4) (k := 10) dX4_init_77 rfl in_X4_init_4 tyX4 tyX4_ok nmX4 (by decide) lk_X4_init_35 rfl rfl rfl rfl rfl rfl g9 ?_
  refine J_aload_n dX4_init_80 0 rfl ?_
  refine J_sipush (v := nI 10500) dX4_init_81 (by decide) ?_
  obtain ⟨N_39, e9, b9, k9, w9, F⟩ := F
  refine J_newa (t := 1) (N' := N_39) (a0 := (N_39, .inr (.inl (fun _ => 0)))) dX4_init_84 wd_X4_init_a1 rfl rfl ra_j (fun _ => rfl) e9 b9 (by decide) k9 w9 (fun q_37 h9 i9 => ?_)
  replace F := F q_37 _ h9 i9 rfl
  generalize va_up h_36 q_37 (some (xJ K N_39 (fun _ => 0))) = h_38 at F ⊢
  obtain ⟨h_40, g9, F⟩ := F
  refine J_putF (ci := 4) (k := 11) dX4_init_86 rfl in_X4_init_4 tyX4 tyX4_ok nmX4 (by decide) lk_X4_init_38 rfl rfl rfl rfl rfl rfl g9 ?_
  refine J_aload_n dX4_init_89 0 rfl ?_
  refine J_sipush (v := nI 10500) dX4_init_90 (by decide) ?_
  obtain ⟨N_43, e9, b9, k9, w9, F⟩ := F
  refine J_newa (t := 1) (N' := N_43) (a0 := (N_43, .inr (.inl (fun _ => 0)))) dX4_init_93 wd_X4_init_a1 rfl rfl ra_j (fun _ => rfl) e9 b9 (by decide) k9 w9 (fun q_41 h9 i9 => ?_)
  replace F := F q_41 _ h9 i9 rfl
  generalize va_up h_40 q_41 (some (xJ K N_43 (fun _ => 0))) = h_42 at F ⊢
  obtain ⟨h_44, g9, F⟩ := F
  refine J_putF (ci := 4) (k := 12) dX4_init_95 rfl in_X4_init_4 tyX4 tyX4_ok nmX4 (by decide) lk_X4_init_41 rfl rfl rfl rfl rfl rfl g9 ?_
  refine J_aload_n dX4_init_98 0 rfl ?_
  refine J_bipush (v := nI 112) dX4_init_99 (by decide) ?_
  obtain ⟨N_47, e9, b9, k9, w9, F⟩ := F
  refine J_newa (t := 0) (N' := N_47) (a0 := (N_47, .inl (fun _ => 0))) dX4_init_101 wd_X4_init_a0 rfl rfl ra_i (fun _ => rfl) e9 b9 (by decide) k9 w9 (fun q_45 h9 i9 => ?_)
  replace F := F q_45 _ h9 i9 rfl
  generalize va_up h_44 q_45 (some (xI K N_47 (fun _ => 0))) = h_46 at F ⊢
  obtain ⟨h_48, g9, F⟩ := F
  refine J_putF (ci := 4) (k := 13) dX4_init_103 rfl in_X4_init_4 tyX4 tyX4_ok nmX4 (by decide) lk_X4_init_44 rfl rfl rfl rfl rfl rfl g9 ?_
  refine J_aload_n dX4_init_106 0 rfl ?_
  refine J_bipush (v := nI 7) dX4_init_107 (by decide) ?_
  obtain ⟨N_51, e9, b9, k9, w9, F⟩ := F
  refine J_newa (t := 2) (N' := N_51) (a0 := (N_51, .inl (fun _ => 0))) dX4_init_109 wd_X4_init_a2 rfl rfl ra_z (fun _ => rfl) e9 b9 (by decide) k9 w9 (fun q_49 h9 i9 => ?_)
  replace F := F q_49 _ h9 i9 rfl
  generalize va_up h_48 q_49 (some (xZ K N_51 (fun _ => 0))) = h_50 at F ⊢
  obtain ⟨h_52, g9, F⟩ := F
  refine J_putF (ci := 4) (k := 14) dX4_init_111 rfl in_X4_init_4 tyX4 tyX4_ok nmX4 (by decide) lk_X4_init_47 rfl rfl rfl rfl rfl rfl g9 ?_
  refine J_aload_n dX4_init_114 0 rfl ?_
  refine J_bipush (v := nI 7) dX4_init_115 (by decide) ?_
  obtain ⟨N_55, e9, b9, k9, w9, F⟩ := F
  refine J_newa (t := 0) (N' := N_55) (a0 := (N_55, .inl (fun _ => 0))) dX4_init_117 wd_X4_init_a0 rfl rfl ra_i (fun _ => rfl) e9 b9 (by decide) k9 w9 (fun q_53 h9 i9 => ?_)
  replace F := F q_53 _ h9 i9 rfl
  generalize va_up h_52 q_53 (some (xI K N_55 (fun _ => 0))) = h_54 at F ⊢
  obtain ⟨h_56, g9, F⟩ := F
  refine J_putF (ci := 4) (k := 15) dX4_init_119 rfl in_X4_init_4 tyX4 tyX4_ok nmX4 (by decide) lk_X4_init_51 rfl rfl rfl rfl rfl rfl g9 ?_
  refine J_iconst (v := nI 0) dX4_init_122 (by decide) ?_
  refine J_istore_n (lv' := [(1, .int (nI 0)), (0, .ref a0)]) dX4_init_123 rfl (by decide) rfl ?_
  refine J_sub [1, 0] rfl ?_
  refine F (fun (i_57 : Int32) (h_58 : Hp) (kc_59 : Nat) (ks_60 : Nat) => J l K yX4_init.cls cX4_init 2 none wsX4_init [] yX4_init.name 1 60 mc ms (QM K mc ms Post) 124 [] [(0, .ref a0), (1, .int i_57)] h_58 kc_59 ks_60) ?_
  intro i_57 h_58 kc_59 ks_60 F
  refine J_iload_n dX4_init_124 1 rfl ?_
  refine J_bipush (v := nI 16) dX4_init_125 (by decide) ?_
  refine J_icmp_ge (tgt := 146) dX4_init_127 (by decide) (fun c => ?_) (fun c => ?_)
  · replace F := F.1 c
    obtain ⟨k9, F⟩ := F
    exact J_vret dX4_init_146 rfl k9.1 k9.2 F
  · replace F := F.2 c
    refine J_aload_n dX4_init_130 0 rfl ?_
    obtain ⟨p_62, g9, F⟩ := F
    refine J_get (ci := 4) (k := 13) dX4_init_131 rfl in_X4_init_4 (by decide) lk_X4_init_44 g9 ?_
    refine J_iload_n dX4_init_134 1 rfl ?_
    refine J_aload_n dX4_init_135 0 rfl ?_
    obtain ⟨b9, F⟩ := F
    obtain ⟨k9, w9, F⟩ := F
    refine J_callV0 (ci := 4) (n := 0) (As := []) (rest := [.int i_57, .ref p_62]) dX4_init_136 rfl gX4_init_X4_newPage rfl (by decide +kernel) rfl (by decide) b9 (Nat.le_of_ble_eq_true rfl) k9 w9 F kI_no (kI_kk (fun v_64 h_63 F => ?_))
    obtain ⟨h_65, g9, F⟩ := F
    refine J_iast dX4_init_139 g9 ?_
    refine J_iinc (v := i_57 + nI 1) (lv' := [(1, .int (i_57 + nI 1)), (0, .ref a0)]) dX4_init_140 1 rfl rfl (by decide) rfl ?_
    refine J_goto (tgt := 124) dX4_init_143 (by decide) ?_
    exact J_sub [1, 0] rfl F

abbrev mX4_item (l : Launch) (K : Kx) (As : List Value) (h : Hp) (Post : Rs → Hp → Prop) : Prop := MX l K yX4_item wsX4_item 3 72 0 0 As h Post
set_option maxRecDepth 100000 in
set_option maxHeartbeats 4000000 in
theorem fX4_item {l : Launch} {K : Kx} {a0 : Nat} {x1 : Int32} {x2 : Int32} {h : Hp} {Post : Rs → Hp → Prop} (htr : l.stackTraces = false)
    (F : ((∃ fs, h a0 = some (xO 4 fs)) ∧ mX4_isRefused l K [.ref a0, .int x1, .int (nI 1), .int (nI 2), .long (lN 0)] h (kI (fun v_2 h_1 => ((v_2 = nI 0 → (∃ v_3, gf h_1 a0 4 22 = some (.int v_3) ∧ ((v_3 < nI 0 → ((∃ fs, h_1 a0 = some (xO 4 fs)) ∧ mX4_fails l K [.ref a0, .int (nI 1)] h_1 (kI (fun v_5 h_4 => (Post (.inl (some (.long v_5.toInt64))) h_4))))) ∧ (¬ v_3 < nI 0 → ((x2 < nI 0 → ((∃ fs, h_1 a0 = some (xO 4 fs)) ∧ mX4_fails l K [.ref a0, .int (nI 1)] h_1 (kI (fun v_7 h_6 => (Post (.inl (some (.long v_7.toInt64))) h_6))))) ∧ (¬ x2 < nI 0 → (∃ p_8, gf h_1 a0 4 10 = some (.ref p_8) ∧ (∃ v_9, gf h_1 a0 4 22 = some (.int v_9) ∧ (∃ v_10, aI K h_1 p_8 v_9 = some v_10 ∧ ((x2 < v_10 → (∃ p_11, gf h_1 a0 4 11 = some (.ref p_11) ∧ (∃ v_12, gf h_1 a0 4 22 = some (.int v_12) ∧ (∃ u_13, aJ K h_1 p_11 (((nI 10) * v_12) + x2) = some u_13 ∧ (Post (.inl (some (.long u_13))) h_1))))) ∧ (¬ x2 < v_10 → ((∃ fs, h_1 a0 = some (xO 4 fs)) ∧ mX4_fails l K [.ref a0, .int (nI 1)] h_1 (kI (fun v_15 h_14 => (Post (.inl (some (.long v_15.toInt64))) h_14))))))))))))))) ∧ (¬ v_2 = nI 0 → (Post (.inl (some (.long (lN 0)))) h_1))))))) :
    mX4_item l K [.ref a0, .int x1, .int x2] h Post := by
  refine MX.enter htr (by decide) rfl (Nat.le_of_ble_eq_true rfl) ?_
  refine J_lveq (lv' := [(0, .ref a0), (1, .int x1), (2, .int x2)]) rfl ?_
  refine J_aload_n dX4_item_0 0 rfl ?_
  refine J_iload_n dX4_item_1 1 rfl ?_
  refine J_iconst (v := nI 1) dX4_item_2 (by decide) ?_
  refine J_iconst (v := nI 2) dX4_item_3 (by decide) ?_
  refine J_lconst (v := lN 0) dX4_item_4 rfl ?_
  obtain ⟨b9, F⟩ := F
  refine J_callV0 (ci := 4) (n := 4) (As := [.int x1, .int (nI 1), .int (nI 2), .long (lN 0)]) (rest := []) dX4_item_5 rfl gX4_item_X4_isRefused rfl (by decide +kernel) rfl (by decide) b9 (Nat.le_of_ble_eq_true rfl) (Nat.le_refl _) (Nat.le_refl _) F kI_no (kI_kk (fun v_2 h_1 F => ?_))
  refine J_if_eq (tgt := 13) dX4_item_8 (by decide) (fun c => ?_) (fun c => ?_)
  · replace F := F.1 c
    refine J_aload_n dX4_item_13 0 rfl ?_
    obtain ⟨v_3, g9, F⟩ := F
    refine J_get (ci := 4) (k := 22) dX4_item_14 rfl in_X4_item_4 (by decide) lk_X4_item_120 g9 ?_
    refine J_if_lt (tgt := 37) dX4_item_17 (by decide) (fun c => ?_) (fun c => ?_)
    · replace F := F.1 c
      refine J_aload_n dX4_item_37 0 rfl ?_
      refine J_iconst (v := nI 1) dX4_item_38 (by decide) ?_
      obtain ⟨b9, F⟩ := F
      refine J_callV0 (ci := 4) (n := 1) (As := [.int (nI 1)]) (rest := []) dX4_item_39 rfl gX4_item_X4_fails rfl (by decide +kernel) rfl (by decide) b9 (Nat.le_of_ble_eq_true rfl) (Nat.le_refl _) (Nat.le_refl _) F kI_no (kI_kk (fun v_5 h_4 F => ?_))
      refine J_i2l dX4_item_42 ?_
      refine J_goto (tgt := 60) dX4_item_43 (by decide) ?_
      exact J_lret dX4_item_60 rfl (Nat.le_refl _) (Nat.le_refl _) F
    · replace F := F.2 c
      refine J_iload_n dX4_item_20 2 rfl ?_
      refine J_if_lt (tgt := 37) dX4_item_21 (by decide) (fun c => ?_) (fun c => ?_)
      · replace F := F.1 c
        refine J_aload_n dX4_item_37 0 rfl ?_
        refine J_iconst (v := nI 1) dX4_item_38 (by decide) ?_
        obtain ⟨b9, F⟩ := F
        refine J_callV0 (ci := 4) (n := 1) (As := [.int (nI 1)]) (rest := []) dX4_item_39 rfl gX4_item_X4_fails rfl (by decide +kernel) rfl (by decide) b9 (Nat.le_of_ble_eq_true rfl) (Nat.le_refl _) (Nat.le_refl _) F kI_no (kI_kk (fun v_7 h_6 F => ?_))
        refine J_i2l dX4_item_42 ?_
        refine J_goto (tgt := 60) dX4_item_43 (by decide) ?_
        exact J_lret dX4_item_60 rfl (Nat.le_refl _) (Nat.le_refl _) F
      · replace F := F.2 c
        refine J_iload_n dX4_item_24 2 rfl ?_
        refine J_aload_n dX4_item_25 0 rfl ?_
        obtain ⟨p_8, g9, F⟩ := F
        refine J_get (ci := 4) (k := 10) dX4_item_26 rfl in_X4_item_4 (by decide) lk_X4_item_35 g9 ?_
        refine J_aload_n dX4_item_29 0 rfl ?_
        obtain ⟨v_9, g9, F⟩ := F
        refine J_get (ci := 4) (k := 22) dX4_item_30 rfl in_X4_item_4 (by decide) lk_X4_item_120 g9 ?_
        obtain ⟨v_10, g9, F⟩ := F
        refine J_iald dX4_item_33 g9 ?_
        refine J_icmp_lt (tgt := 46) dX4_item_34 (by decide) (fun c => ?_) (fun c => ?_)
        · replace F := F.1 c
          refine J_aload_n dX4_item_46 0 rfl ?_
          obtain ⟨p_11, g9, F⟩ := F
          refine J_get (ci := 4) (k := 11) dX4_item_47 rfl in_X4_item_4 (by decide) lk_X4_item_38 g9 ?_
          refine J_bipush (v := nI 10) dX4_item_50 (by decide) ?_
          refine J_aload_n dX4_item_52 0 rfl ?_
          obtain ⟨v_12, g9, F⟩ := F
          refine J_get (ci := 4) (k := 22) dX4_item_53 rfl in_X4_item_4 (by decide) lk_X4_item_120 g9 ?_
          refine J_imul dX4_item_56 ?_
          refine J_iload_n dX4_item_57 2 rfl ?_
          refine J_iadd dX4_item_58 ?_
          obtain ⟨u_13, g9, F⟩ := F
          refine J_lald dX4_item_59 g9 ?_
          exact J_lret dX4_item_60 rfl (Nat.le_refl _) (Nat.le_refl _) F
        · replace F := F.2 c
          refine J_aload_n dX4_item_37 0 rfl ?_
          refine J_iconst (v := nI 1) dX4_item_38 (by decide) ?_
          obtain ⟨b9, F⟩ := F
          refine J_callV0 (ci := 4) (n := 1) (As := [.int (nI 1)]) (rest := []) dX4_item_39 rfl gX4_item_X4_fails rfl (by decide +kernel) rfl (by decide) b9 (Nat.le_of_ble_eq_true rfl) (Nat.le_refl _) (Nat.le_refl _) F kI_no (kI_kk (fun v_15 h_14 F => ?_))
          refine J_i2l dX4_item_42 ?_
          refine J_goto (tgt := 60) dX4_item_43 (by decide) ?_
          exact J_lret dX4_item_60 rfl (Nat.le_refl _) (Nat.le_refl _) F
  · replace F := F.2 c
    refine J_lconst (v := lN 0) dX4_item_11 rfl ?_
    exact J_lret dX4_item_12 rfl (Nat.le_refl _) (Nat.le_refl _) F

abbrev mX4_key (l : Launch) (K : Kx) (As : List Value) (h : Hp) (Post : Rs → Hp → Prop) : Prop := MX l K yX4_key wsX4_key 0 0 0 0 As h Post
set_option maxRecDepth 100000 in
set_option maxHeartbeats 4000000 in
theorem fX4_key {l : Launch} {K : Kx} {a0 : Nat} {x1 : Int64} {h : Hp} {Post : Rs → Hp → Prop} (htr : l.stackTraces = false)
    (F : (∃ h_1, pf h a0 4 0 (.int (nI 0)) = some h_1 ∧ (∃ h_2, pf h_1 a0 4 19 (.int (nI 1)) = some h_2 ∧ (∃ h_3, pf h_2 a0 4 20 (.long x1) = some h_3 ∧ (Post (.inl none) h_3))))) :
    mX4_key l K [.ref a0, .long x1] h Post := by
  refine MX.enter htr (by decide) rfl (Nat.le_of_ble_eq_true rfl) ?_
  refine J_lveq (lv' := [(0, .ref a0), (1, .long x1)]) rfl ?_
  refine J_aload_n dX4_key_0 0 rfl ?_
  refine J_iconst (v := nI 0) dX4_key_1 (by decide) ?_
  obtain ⟨h_1, g9, F⟩ := F
  refine J_put (ci := 4) (k := 0) dX4_key_2 rfl in_X4_key_4 tyX4 tyX4_ok nmX4 (by decide) lk_X4_key_58 rfl rfl rfl rfl g9 ?_
  refine J_aload_n dX4_key_5 0 rfl ?_
  refine J_iconst (v := nI 1) dX4_key_6 (by decide) ?_
  obtain ⟨h_2, g9, F⟩ := F
  refine J_put (ci := 4) (k := 19) dX4_key_7 rfl in_X4_key_4 tyX4 tyX4_ok nmX4 (by decide) lk_X4_key_112 rfl rfl rfl rfl g9 ?_
  refine J_aload_n dX4_key_10 0 rfl ?_
  refine J_lload_n dX4_key_11 1 rfl ?_
  obtain ⟨h_3, g9, F⟩ := F
  refine J_put (ci := 4) (k := 20) dX4_key_12 rfl in_X4_key_4 tyX4 tyX4_ok nmX4 (by decide) lk_X4_key_80 rfl rfl rfl rfl g9 ?_
  exact J_vret dX4_key_15 rfl (Nat.le_refl _) (Nat.le_refl _) F

abbrev mX4_keyAt (l : Launch) (K : Kx) (As : List Value) (h : Hp) (Post : Rs → Hp → Prop) : Prop := MX l K yX4_keyAt wsX4_keyAt 1 21 0 0 As h Post
set_option maxRecDepth 100000 in
set_option maxHeartbeats 4000000 in
theorem fX4_keyAt {l : Launch} {K : Kx} {a0 : Nat} {x1 : Int32} {x2 : Int32} {h : Hp} {Post : Rs → Hp → Prop} (htr : l.stackTraces = false)
    (F : (∃ h_1, pf h a0 4 0 (.int (nI 0)) = some h_1 ∧ (∀ X_4 : Int32 → Hp → Prop, (∀ (i_2 : Int32) (h_3 : Hp), ((∃ p_5, gf h_3 a0 4 6 = some (.ref p_5) ∧ (∃ v_6, aI K h_3 p_5 (nI 0) = some v_6 ∧ ((v_6 ≤ i_2 → ((∃ fs, h_3 a0 = some (xO 4 fs)) ∧ mX4_fails l K [.ref a0, .int (nI 1)] h_3 (kI (fun v_8 h_7 => (Post (.inl (some (.long v_8.toInt64))) h_7))))) ∧ (¬ v_6 ≤ i_2 → ((∃ fs, h_3 a0 = some (xO 4 fs)) ∧ mX4_isState l K [.ref a0, .int x1] h_3 (kI (fun v_10 h_9 => ((v_10 = nI 0 → ((∃ fs, h_9 a0 = some (xO 4 fs)) ∧ mX4_fails l K [.ref a0, .int (nI 1)] h_9 (kI (fun v_12 h_11 => (Post (.inl (some (.long v_12.toInt64))) h_11))))) ∧ (¬ v_10 = nI 0 → (∃ p_13, gf h_9 a0 4 7 = some (.ref p_13) ∧ (∃ v_14, aI K h_9 p_13 i_2 = some v_14 ∧ ((¬ v_14 = x1 → X_4 (i_2 + nI 1) h_9) ∧ (v_14 = x1 → (∃ p_15, gf h_9 a0 4 9 = some (.ref p_15) ∧ (∃ v_16, aI K h_9 p_15 i_2 = some v_16 ∧ (∃ v_17, gf h_9 a0 4 21 = some (.int v_17) ∧ ((¬ v_16 = v_17 → X_4 (i_2 + nI 1) h_9) ∧ (v_16 = v_17 → (∀ X_20 : Int32 → Int32 → Prop, (∀ (i_18 : Int32) (i_19 : Int32), ((∃ p_21, gf h_9 a0 4 6 = some (.ref p_21) ∧ (∃ v_22, aI K h_9 p_21 (nI 0) = some v_22 ∧ ((v_22 ≤ i_19 → ((¬ i_18 = x2 → X_4 (i_2 + nI 1) h_9) ∧ (i_18 = x2 → (∃ p_23, gf h_9 a0 4 8 = some (.ref p_23) ∧ (∃ u_24, aJ K h_9 p_23 i_2 = some u_24 ∧ (Post (.inl (some (.long u_24))) h_9)))))) ∧ (¬ v_22 ≤ i_19 → (∃ p_25, gf h_9 a0 4 7 = some (.ref p_25) ∧ (∃ v_26, aI K h_9 p_25 i_19 = some v_26 ∧ ((¬ v_26 = x1 → X_20 (i_18 + (nI 0)) (i_19 + nI 1)) ∧ (v_26 = x1 → (∃ p_27, gf h_9 a0 4 9 = some (.ref p_27) ∧ (∃ v_28, aI K h_9 p_27 i_19 = some v_28 ∧ (∃ v_29, gf h_9 a0 4 21 = some (.int v_29) ∧ ((¬ v_28 = v_29 → X_20 (i_18 + (nI 0)) (i_19 + nI 1)) ∧ (v_28 = v_29 → (∃ p_30, gf h_9 a0 4 8 = some (.ref p_30) ∧ (∃ u_31, aJ K h_9 p_30 i_19 = some u_31 ∧ (∃ p_32, gf h_9 a0 4 8 = some (.ref p_32) ∧ (∃ u_33, aJ K h_9 p_32 i_2 = some u_33 ∧ ((u_33 ≤ u_31 → X_20 (i_18 + (nI 0)) (i_19 + nI 1)) ∧ (¬ u_33 ≤ u_31 → X_20 (i_18 + (nI 1)) (i_19 + nI 1))))))))))))))))))))) → X_20 i_18 i_19) → X_20 (nI 0) (nI 0))))))))))))))))))))) → X_4 i_2 h_3) → X_4 (nI 0) h_1))) :
    mX4_keyAt l K [.ref a0, .int x1, .int x2] h Post := by
  refine MX.enter htr (by decide) rfl (Nat.le_of_ble_eq_true rfl) ?_
  refine J_lveq (lv' := [(0, .ref a0), (1, .int x1), (2, .int x2)]) rfl ?_
  refine J_aload_n dX4_keyAt_0 0 rfl ?_
  refine J_iconst (v := nI 0) dX4_keyAt_1 (by decide) ?_
  obtain ⟨h_1, g9, F⟩ := F
  refine J_put (ci := 4) (k := 0) dX4_keyAt_2 rfl in_X4_keyAt_4 tyX4 tyX4_ok nmX4 (by decide) lk_X4_keyAt_58 rfl rfl rfl rfl g9 ?_
  refine J_iconst (v := nI 0) dX4_keyAt_5 (by decide) ?_
  refine J_istore_n (lv' := [(3, .int (nI 0)), (0, .ref a0), (1, .int x1), (2, .int x2)]) dX4_keyAt_6 rfl (by decide) rfl ?_
  refine J_sub [1, 2, 3, 0] rfl ?_
  refine F (fun (i_2 : Int32) (h_3 : Hp) => J l K yX4_keyAt.cls cX4_keyAt 6 (some .long) wsX4_keyAt [] yX4_keyAt.name 1 21 0 0 (QM K 0 0 Post) 7 [] [(0, .ref a0), (1, .int x1), (2, .int x2), (3, .int i_2)] h_3 0 0) ?_
  intro i_2 h_3 F
  refine J_iload_n dX4_keyAt_7 3 rfl ?_
  refine J_aload_n dX4_keyAt_8 0 rfl ?_
  obtain ⟨p_5, g9, F⟩ := F
  refine J_get (ci := 4) (k := 6) dX4_keyAt_9 rfl in_X4_keyAt_4 (by decide) lk_X4_keyAt_22 g9 ?_
  refine J_iconst (v := nI 0) dX4_keyAt_12 (by decide) ?_
  obtain ⟨v_6, g9, F⟩ := F
  refine J_iald dX4_keyAt_13 g9 ?_
  refine J_icmp_ge (tgt := 142) dX4_keyAt_14 (by decide) (fun c => ?_) (fun c => ?_)
  · replace F := F.1 c
    refine J_aload_n dX4_keyAt_142 0 rfl ?_
    refine J_iconst (v := nI 1) dX4_keyAt_143 (by decide) ?_
    obtain ⟨b9, F⟩ := F
    refine J_callV0 (ci := 4) (n := 1) (As := [.int (nI 1)]) (rest := []) dX4_keyAt_144 rfl gX4_keyAt_X4_fails rfl (by decide +kernel) rfl (by decide) b9 (Nat.le_of_ble_eq_true rfl) (Nat.le_refl _) (Nat.le_refl _) F kI_no (kI_kk (fun v_8 h_7 F => ?_))
    refine J_i2l dX4_keyAt_147 ?_
    exact J_lret dX4_keyAt_148 rfl (Nat.le_refl _) (Nat.le_refl _) F
  · replace F := F.2 c
    refine J_aload_n dX4_keyAt_17 0 rfl ?_
    refine J_iload_n dX4_keyAt_18 1 rfl ?_
    obtain ⟨b9, F⟩ := F
    refine J_callV0 (ci := 4) (n := 1) (As := [.int x1]) (rest := []) dX4_keyAt_19 rfl gX4_keyAt_X4_isState rfl (by decide +kernel) rfl (by decide) b9 (Nat.le_of_ble_eq_true rfl) (Nat.le_refl _) (Nat.le_refl _) F kI_no (kI_kk (fun v_10 h_9 F => ?_))
    refine J_if_eq (tgt := 142) dX4_keyAt_22 (by decide) (fun c => ?_) (fun c => ?_)
    · replace F := F.1 c
      refine J_aload_n dX4_keyAt_142 0 rfl ?_
      refine J_iconst (v := nI 1) dX4_keyAt_143 (by decide) ?_
      obtain ⟨b9, F⟩ := F
      refine J_callV0 (ci := 4) (n := 1) (As := [.int (nI 1)]) (rest := []) dX4_keyAt_144 rfl gX4_keyAt_X4_fails rfl (by decide +kernel) rfl (by decide) b9 (Nat.le_of_ble_eq_true rfl) (Nat.le_refl _) (Nat.le_refl _) F kI_no (kI_kk (fun v_12 h_11 F => ?_))
      refine J_i2l dX4_keyAt_147 ?_
      exact J_lret dX4_keyAt_148 rfl (Nat.le_refl _) (Nat.le_refl _) F
    · replace F := F.2 c
      refine J_aload_n dX4_keyAt_25 0 rfl ?_
      obtain ⟨p_13, g9, F⟩ := F
      refine J_get (ci := 4) (k := 7) dX4_keyAt_26 rfl in_X4_keyAt_4 (by decide) lk_X4_keyAt_25 g9 ?_
      refine J_iload_n dX4_keyAt_29 3 rfl ?_
      obtain ⟨v_14, g9, F⟩ := F
      refine J_iald dX4_keyAt_30 g9 ?_
      refine J_iload_n dX4_keyAt_31 1 rfl ?_
      refine J_icmp_ne (tgt := 136) dX4_keyAt_32 (by decide) (fun c => ?_) (fun c => ?_)
      · replace F := F.1 c
        refine J_iinc (v := i_2 + nI 1) (lv' := [(3, .int (i_2 + nI 1)), (0, .ref a0), (1, .int x1), (2, .int x2)]) dX4_keyAt_136 3 rfl rfl (by decide) rfl ?_
        refine J_goto (tgt := 7) dX4_keyAt_139 (by decide) ?_
        exact J_sub [1, 2, 3, 0] rfl F
      · replace F := F.2 c
        refine J_aload_n dX4_keyAt_35 0 rfl ?_
        obtain ⟨p_15, g9, F⟩ := F
        refine J_get (ci := 4) (k := 9) dX4_keyAt_36 rfl in_X4_keyAt_4 (by decide) lk_X4_keyAt_32 g9 ?_
        refine J_iload_n dX4_keyAt_39 3 rfl ?_
        obtain ⟨v_16, g9, F⟩ := F
        refine J_iald dX4_keyAt_40 g9 ?_
        refine J_aload_n dX4_keyAt_41 0 rfl ?_
        obtain ⟨v_17, g9, F⟩ := F
        refine J_get (ci := 4) (k := 21) dX4_keyAt_42 rfl in_X4_keyAt_4 (by decide) lk_X4_keyAt_84 g9 ?_
        refine J_icmp_ne (tgt := 136) dX4_keyAt_45 (by decide) (fun c => ?_) (fun c => ?_)
        · replace F := F.1 c
          refine J_iinc (v := i_2 + nI 1) (lv' := [(3, .int (i_2 + nI 1)), (0, .ref a0), (1, .int x1), (2, .int x2)]) dX4_keyAt_136 3 rfl rfl (by decide) rfl ?_
          refine J_goto (tgt := 7) dX4_keyAt_139 (by decide) ?_
          exact J_sub [1, 2, 3, 0] rfl F
        · replace F := F.2 c
          refine J_iconst (v := nI 0) dX4_keyAt_48 (by decide) ?_
          refine J_istore (lv' := [(4, .int (nI 0)), (0, .ref a0), (1, .int x1), (2, .int x2), (3, .int i_2)]) dX4_keyAt_49 (by decide) rfl ?_
          refine J_iconst (v := nI 0) dX4_keyAt_51 (by decide) ?_
          refine J_istore (lv' := [(5, .int (nI 0)), (4, .int (nI 0)), (0, .ref a0), (1, .int x1), (2, .int x2), (3, .int i_2)]) dX4_keyAt_52 (by decide) rfl ?_
          refine J_sub [2, 3, 4, 5, 1, 0] rfl ?_
          refine F (fun (i_18 : Int32) (i_19 : Int32) => J l K yX4_keyAt.cls cX4_keyAt 6 (some .long) wsX4_keyAt [] yX4_keyAt.name 1 21 0 0 (QM K 0 0 Post) 54 [] [(0, .ref a0), (1, .int x1), (2, .int x2), (3, .int i_2), (4, .int i_18), (5, .int i_19)] h_9 (0 + 0) (0 + 0)) ?_
          intro i_18 i_19 F
          refine J_iload dX4_keyAt_54 5 rfl ?_
          refine J_aload_n dX4_keyAt_56 0 rfl ?_
          obtain ⟨p_21, g9, F⟩ := F
          refine J_get (ci := 4) (k := 6) dX4_keyAt_57 rfl in_X4_keyAt_4 (by decide) lk_X4_keyAt_22 g9 ?_
          refine J_iconst (v := nI 0) dX4_keyAt_60 (by decide) ?_
          obtain ⟨v_22, g9, F⟩ := F
          refine J_iald dX4_keyAt_61 g9 ?_
          refine J_icmp_ge (tgt := 123) dX4_keyAt_62 (by decide) (fun c => ?_) (fun c => ?_)
          · replace F := F.1 c
            refine J_iload dX4_keyAt_123 4 rfl ?_
            refine J_iload_n dX4_keyAt_125 2 rfl ?_
            refine J_icmp_ne (tgt := 136) dX4_keyAt_126 (by decide) (fun c => ?_) (fun c => ?_)
            · replace F := F.1 c
              refine J_iinc (v := i_2 + nI 1) (lv' := [(3, .int (i_2 + nI 1)), (0, .ref a0), (1, .int x1), (2, .int x2), (4, .int i_18), (5, .int i_19)]) dX4_keyAt_136 3 rfl rfl (by decide) rfl ?_
              refine J_goto (tgt := 7) dX4_keyAt_139 (by decide) ?_
              exact J_sub [1, 2, 3, 0] rfl F
            · replace F := F.2 c
              refine J_aload_n dX4_keyAt_129 0 rfl ?_
              obtain ⟨p_23, g9, F⟩ := F
              refine J_get (ci := 4) (k := 8) dX4_keyAt_130 rfl in_X4_keyAt_4 (by decide) lk_X4_keyAt_28 g9 ?_
              refine J_iload_n dX4_keyAt_133 3 rfl ?_
              obtain ⟨u_24, g9, F⟩ := F
              refine J_lald dX4_keyAt_134 g9 ?_
              exact J_lret dX4_keyAt_135 rfl (Nat.le_refl _) (Nat.le_refl _) F
          · replace F := F.2 c
            refine J_iload dX4_keyAt_65 4 rfl ?_
            refine J_aload_n dX4_keyAt_67 0 rfl ?_
            obtain ⟨p_25, g9, F⟩ := F
            refine J_get (ci := 4) (k := 7) dX4_keyAt_68 rfl in_X4_keyAt_4 (by decide) lk_X4_keyAt_25 g9 ?_
            refine J_iload dX4_keyAt_71 5 rfl ?_
            obtain ⟨v_26, g9, F⟩ := F
            refine J_iald dX4_keyAt_73 g9 ?_
            refine J_iload_n dX4_keyAt_74 1 rfl ?_
            refine J_icmp_ne (tgt := 113) dX4_keyAt_75 (by decide) (fun c => ?_) (fun c => ?_)
            · replace F := F.1 c
              refine J_iconst (v := nI 0) dX4_keyAt_113 (by decide) ?_
              refine J_iadd dX4_keyAt_114 ?_
              refine J_istore (lv' := [(4, .int (i_18 + (nI 0))), (0, .ref a0), (1, .int x1), (2, .int x2), (3, .int i_2), (5, .int i_19)]) dX4_keyAt_115 (by decide) rfl ?_
              refine J_iinc (v := i_19 + nI 1) (lv' := [(5, .int (i_19 + nI 1)), (4, .int (i_18 + (nI 0))), (0, .ref a0), (1, .int x1), (2, .int x2), (3, .int i_2)]) dX4_keyAt_117 5 rfl rfl (by decide) rfl ?_
              refine J_goto (tgt := 54) dX4_keyAt_120 (by decide) ?_
              exact J_sub [2, 3, 4, 5, 1, 0] rfl F
            · replace F := F.2 c
              refine J_aload_n dX4_keyAt_78 0 rfl ?_
              obtain ⟨p_27, g9, F⟩ := F
              refine J_get (ci := 4) (k := 9) dX4_keyAt_79 rfl in_X4_keyAt_4 (by decide) lk_X4_keyAt_32 g9 ?_
              refine J_iload dX4_keyAt_82 5 rfl ?_
              obtain ⟨v_28, g9, F⟩ := F
              refine J_iald dX4_keyAt_84 g9 ?_
              refine J_aload_n dX4_keyAt_85 0 rfl ?_
              obtain ⟨v_29, g9, F⟩ := F
              refine J_get (ci := 4) (k := 21) dX4_keyAt_86 rfl in_X4_keyAt_4 (by decide) lk_X4_keyAt_84 g9 ?_
              refine J_icmp_ne (tgt := 113) dX4_keyAt_89 (by decide) (fun c => ?_) (fun c => ?_)
              · replace F := F.1 c
                refine J_iconst (v := nI 0) dX4_keyAt_113 (by decide) ?_
                refine J_iadd dX4_keyAt_114 ?_
                refine J_istore (lv' := [(4, .int (i_18 + (nI 0))), (0, .ref a0), (1, .int x1), (2, .int x2), (3, .int i_2), (5, .int i_19)]) dX4_keyAt_115 (by decide) rfl ?_
                refine J_iinc (v := i_19 + nI 1) (lv' := [(5, .int (i_19 + nI 1)), (4, .int (i_18 + (nI 0))), (0, .ref a0), (1, .int x1), (2, .int x2), (3, .int i_2)]) dX4_keyAt_117 5 rfl rfl (by decide) rfl ?_
                refine J_goto (tgt := 54) dX4_keyAt_120 (by decide) ?_
                exact J_sub [2, 3, 4, 5, 1, 0] rfl F
              · replace F := F.2 c
                refine J_aload_n dX4_keyAt_92 0 rfl ?_
                obtain ⟨p_30, g9, F⟩ := F
                refine J_get (ci := 4) (k := 8) dX4_keyAt_93 rfl in_X4_keyAt_4 (by decide) lk_X4_keyAt_28 g9 ?_
                refine J_iload dX4_keyAt_96 5 rfl ?_
                obtain ⟨u_31, g9, F⟩ := F
                refine J_lald dX4_keyAt_98 g9 ?_
                refine J_aload_n dX4_keyAt_99 0 rfl ?_
                obtain ⟨p_32, g9, F⟩ := F
                refine J_get (ci := 4) (k := 8) dX4_keyAt_100 rfl in_X4_keyAt_4 (by decide) lk_X4_keyAt_28 g9 ?_
                refine J_iload_n dX4_keyAt_103 3 rfl ?_
                obtain ⟨u_33, g9, F⟩ := F
                refine J_lald dX4_keyAt_104 g9 ?_
                refine J_lcmp dX4_keyAt_105 ?_
                refine J_if_ge (tgt := 113) dX4_keyAt_106 (by decide) (fun c => ?_) (fun c => ?_)
                · replace F := F.1 ((lg_cmp_ge _ _).mp c)
                  refine J_iconst (v := nI 0) dX4_keyAt_113 (by decide) ?_
                  refine J_iadd dX4_keyAt_114 ?_
                  refine J_istore (lv' := [(4, .int (i_18 + (nI 0))), (0, .ref a0), (1, .int x1), (2, .int x2), (3, .int i_2), (5, .int i_19)]) dX4_keyAt_115 (by decide) rfl ?_
                  refine J_iinc (v := i_19 + nI 1) (lv' := [(5, .int (i_19 + nI 1)), (4, .int (i_18 + (nI 0))), (0, .ref a0), (1, .int x1), (2, .int x2), (3, .int i_2)]) dX4_keyAt_117 5 rfl rfl (by decide) rfl ?_
                  refine J_goto (tgt := 54) dX4_keyAt_120 (by decide) ?_
                  exact J_sub [2, 3, 4, 5, 1, 0] rfl F
                · replace F := F.2 (fun e9 => c ((lg_cmp_ge _ _).mpr e9))
                  refine J_iconst (v := nI 1) dX4_keyAt_109 (by decide) ?_
                  refine J_goto (tgt := 114) dX4_keyAt_110 (by decide) ?_
                  refine J_iadd dX4_keyAt_114 ?_
                  refine J_istore (lv' := [(4, .int (i_18 + (nI 1))), (0, .ref a0), (1, .int x1), (2, .int x2), (3, .int i_2), (5, .int i_19)]) dX4_keyAt_115 (by decide) rfl ?_
                  refine J_iinc (v := i_19 + nI 1) (lv' := [(5, .int (i_19 + nI 1)), (4, .int (i_18 + (nI 1))), (0, .ref a0), (1, .int x1), (2, .int x2), (3, .int i_2)]) dX4_keyAt_117 5 rfl rfl (by decide) rfl ?_
                  refine J_goto (tgt := 54) dX4_keyAt_120 (by decide) ?_
                  exact J_sub [2, 3, 4, 5, 1, 0] rfl F

abbrev mX4_keys (l : Launch) (K : Kx) (As : List Value) (h : Hp) (Post : Rs → Hp → Prop) : Prop := MX l K yX4_keys wsX4_keys 1 21 0 0 As h Post
set_option maxRecDepth 100000 in
set_option maxHeartbeats 4000000 in
theorem fX4_keys {l : Launch} {K : Kx} {a0 : Nat} {x1 : Int32} {h : Hp} {Post : Rs → Hp → Prop} (htr : l.stackTraces = false)
    (F : (∃ h_1, pf h a0 4 0 (.int (nI 0)) = some h_1 ∧ ((∃ fs, h_1 a0 = some (xO 4 fs)) ∧ mX4_isState l K [.ref a0, .int x1] h_1 (kI (fun v_3 h_2 => ((¬ v_3 = nI 0 → (∀ X_6 : Int32 → Int32 → Prop, (∀ (i_4 : Int32) (i_5 : Int32), ((∃ p_7, gf h_2 a0 4 6 = some (.ref p_7) ∧ (∃ v_8, aI K h_2 p_7 (nI 0) = some v_8 ∧ ((v_8 ≤ i_5 → (Post (.inl (some (.int i_4))) h_2)) ∧ (¬ v_8 ≤ i_5 → (∃ p_9, gf h_2 a0 4 7 = some (.ref p_9) ∧ (∃ v_10, aI K h_2 p_9 i_5 = some v_10 ∧ ((¬ v_10 = x1 → X_6 (i_4 + (nI 0)) (i_5 + nI 1)) ∧ (v_10 = x1 → (∃ p_11, gf h_2 a0 4 9 = some (.ref p_11) ∧ (∃ v_12, aI K h_2 p_11 i_5 = some v_12 ∧ (∃ v_13, gf h_2 a0 4 21 = some (.int v_13) ∧ ((¬ v_12 = v_13 → X_6 (i_4 + (nI 0)) (i_5 + nI 1)) ∧ (v_12 = v_13 → X_6 (i_4 + (nI 1)) (i_5 + nI 1))))))))))))))) → X_6 i_4 i_5) → X_6 (nI 0) (nI 0))) ∧ (v_3 = nI 0 → ((∃ fs, h_2 a0 = some (xO 4 fs)) ∧ mX4_fails l K [.ref a0, .int (nI 1)] h_2 (kI (fun v_15 h_14 => (Post (.inl (some (.int v_15))) h_14))))))))))) :
    mX4_keys l K [.ref a0, .int x1] h Post := by
  refine MX.enter htr (by decide) rfl (Nat.le_of_ble_eq_true rfl) ?_
  refine J_lveq (lv' := [(0, .ref a0), (1, .int x1)]) rfl ?_
  refine J_aload_n dX4_keys_0 0 rfl ?_
  refine J_iconst (v := nI 0) dX4_keys_1 (by decide) ?_
  obtain ⟨h_1, g9, F⟩ := F
  refine J_put (ci := 4) (k := 0) dX4_keys_2 rfl in_X4_keys_4 tyX4 tyX4_ok nmX4 (by decide) lk_X4_keys_58 rfl rfl rfl rfl g9 ?_
  refine J_aload_n dX4_keys_5 0 rfl ?_
  refine J_iload_n dX4_keys_6 1 rfl ?_
  obtain ⟨b9, F⟩ := F
  refine J_callV0 (ci := 4) (n := 1) (As := [.int x1]) (rest := []) dX4_keys_7 rfl gX4_keys_X4_isState rfl (by decide +kernel) rfl (by decide) b9 (Nat.le_of_ble_eq_true rfl) (Nat.le_refl _) (Nat.le_refl _) F kI_no (kI_kk (fun v_3 h_2 F => ?_))
  refine J_if_ne (tgt := 19) dX4_keys_10 (by decide) (fun c => ?_) (fun c => ?_)
  · replace F := F.1 c
    refine J_iconst (v := nI 0) dX4_keys_19 (by decide) ?_
    refine J_istore_n (lv' := [(2, .int (nI 0)), (0, .ref a0), (1, .int x1)]) dX4_keys_20 rfl (by decide) rfl ?_
    refine J_iconst (v := nI 0) dX4_keys_21 (by decide) ?_
    refine J_istore_n (lv' := [(3, .int (nI 0)), (2, .int (nI 0)), (0, .ref a0), (1, .int x1)]) dX4_keys_22 rfl (by decide) rfl ?_
    refine J_sub [2, 3, 1, 0] rfl ?_
    refine F (fun (i_4 : Int32) (i_5 : Int32) => J l K yX4_keys.cls cX4_keys 4 (some .int) wsX4_keys [] yX4_keys.name 1 21 0 0 (QM K 0 0 Post) 23 [] [(0, .ref a0), (1, .int x1), (2, .int i_4), (3, .int i_5)] h_2 (0 + 0) (0 + 0)) ?_
    intro i_4 i_5 F
    refine J_iload_n dX4_keys_23 3 rfl ?_
    refine J_aload_n dX4_keys_24 0 rfl ?_
    obtain ⟨p_7, g9, F⟩ := F
    refine J_get (ci := 4) (k := 6) dX4_keys_25 rfl in_X4_keys_4 (by decide) lk_X4_keys_22 g9 ?_
    refine J_iconst (v := nI 0) dX4_keys_28 (by decide) ?_
    obtain ⟨v_8, g9, F⟩ := F
    refine J_iald dX4_keys_29 g9 ?_
    refine J_icmp_ge (tgt := 70) dX4_keys_30 (by decide) (fun c => ?_) (fun c => ?_)
    · replace F := F.1 c
      refine J_iload_n dX4_keys_70 2 rfl ?_
      exact J_iret dX4_keys_71 rfl (Nat.le_refl _) (Nat.le_refl _) F
    · replace F := F.2 c
      refine J_iload_n dX4_keys_33 2 rfl ?_
      refine J_aload_n dX4_keys_34 0 rfl ?_
      obtain ⟨p_9, g9, F⟩ := F
      refine J_get (ci := 4) (k := 7) dX4_keys_35 rfl in_X4_keys_4 (by decide) lk_X4_keys_25 g9 ?_
      refine J_iload_n dX4_keys_38 3 rfl ?_
      obtain ⟨v_10, g9, F⟩ := F
      refine J_iald dX4_keys_39 g9 ?_
      refine J_iload_n dX4_keys_40 1 rfl ?_
      refine J_icmp_ne (tgt := 61) dX4_keys_41 (by decide) (fun c => ?_) (fun c => ?_)
      · replace F := F.1 c
        refine J_iconst (v := nI 0) dX4_keys_61 (by decide) ?_
        refine J_iadd dX4_keys_62 ?_
        refine J_istore_n (lv' := [(2, .int (i_4 + (nI 0))), (0, .ref a0), (1, .int x1), (3, .int i_5)]) dX4_keys_63 rfl (by decide) rfl ?_
        refine J_iinc (v := i_5 + nI 1) (lv' := [(3, .int (i_5 + nI 1)), (2, .int (i_4 + (nI 0))), (0, .ref a0), (1, .int x1)]) dX4_keys_64 3 rfl rfl (by decide) rfl ?_
        refine J_goto (tgt := 23) dX4_keys_67 (by decide) ?_
        exact J_sub [2, 3, 1, 0] rfl F
      · replace F := F.2 c
        refine J_aload_n dX4_keys_44 0 rfl ?_
        obtain ⟨p_11, g9, F⟩ := F
        refine J_get (ci := 4) (k := 9) dX4_keys_45 rfl in_X4_keys_4 (by decide) lk_X4_keys_32 g9 ?_
        refine J_iload_n dX4_keys_48 3 rfl ?_
        obtain ⟨v_12, g9, F⟩ := F
        refine J_iald dX4_keys_49 g9 ?_
        refine J_aload_n dX4_keys_50 0 rfl ?_
        obtain ⟨v_13, g9, F⟩ := F
        refine J_get (ci := 4) (k := 21) dX4_keys_51 rfl in_X4_keys_4 (by decide) lk_X4_keys_84 g9 ?_
        refine J_icmp_ne (tgt := 61) dX4_keys_54 (by decide) (fun c => ?_) (fun c => ?_)
        · replace F := F.1 c
          refine J_iconst (v := nI 0) dX4_keys_61 (by decide) ?_
          refine J_iadd dX4_keys_62 ?_
          refine J_istore_n (lv' := [(2, .int (i_4 + (nI 0))), (0, .ref a0), (1, .int x1), (3, .int i_5)]) dX4_keys_63 rfl (by decide) rfl ?_
          refine J_iinc (v := i_5 + nI 1) (lv' := [(3, .int (i_5 + nI 1)), (2, .int (i_4 + (nI 0))), (0, .ref a0), (1, .int x1)]) dX4_keys_64 3 rfl rfl (by decide) rfl ?_
          refine J_goto (tgt := 23) dX4_keys_67 (by decide) ?_
          exact J_sub [2, 3, 1, 0] rfl F
        · replace F := F.2 c
          refine J_iconst (v := nI 1) dX4_keys_57 (by decide) ?_
          refine J_goto (tgt := 62) dX4_keys_58 (by decide) ?_
          refine J_iadd dX4_keys_62 ?_
          refine J_istore_n (lv' := [(2, .int (i_4 + (nI 1))), (0, .ref a0), (1, .int x1), (3, .int i_5)]) dX4_keys_63 rfl (by decide) rfl ?_
          refine J_iinc (v := i_5 + nI 1) (lv' := [(3, .int (i_5 + nI 1)), (2, .int (i_4 + (nI 1))), (0, .ref a0), (1, .int x1)]) dX4_keys_64 3 rfl rfl (by decide) rfl ?_
          refine J_goto (tgt := 23) dX4_keys_67 (by decide) ?_
          exact J_sub [2, 3, 1, 0] rfl F
  · replace F := F.2 c
    refine J_aload_n dX4_keys_13 0 rfl ?_
    refine J_iconst (v := nI 1) dX4_keys_14 (by decide) ?_
    obtain ⟨b9, F⟩ := F
    refine J_callV0 (ci := 4) (n := 1) (As := [.int (nI 1)]) (rest := []) dX4_keys_15 rfl gX4_keys_X4_fails rfl (by decide +kernel) rfl (by decide) b9 (Nat.le_of_ble_eq_true rfl) (Nat.le_refl _) (Nat.le_refl _) F kI_no (kI_kk (fun v_15 h_14 F => ?_))
    exact J_iret dX4_keys_18 rfl (Nat.le_refl _) (Nat.le_refl _) F

abbrev mX4_leave (l : Launch) (K : Kx) (As : List Value) (h : Hp) (Post : Rs → Hp → Prop) : Prop := MX l K yX4_leave wsX4_leave 0 0 0 0 As h Post
set_option maxRecDepth 100000 in
set_option maxHeartbeats 4000000 in
theorem fX4_leave {l : Launch} {K : Kx} {a0 : Nat} {h : Hp} {Post : Rs → Hp → Prop} (htr : l.stackTraces = false)
    (F : (∃ h_1, pf h a0 4 0 (.int (nI 0)) = some h_1 ∧ (∃ v_2, gf h_1 a0 4 19 = some (.int v_2) ∧ (∃ h_3, pf h_1 a0 4 19 (.int (nI 0)) = some h_3 ∧ ((v_2 = nI 0 ∨ v_2 = nI 1) ∧ Post (.inl (some (.int v_2))) h_3))))) :
    mX4_leave l K [.ref a0] h Post := by
  refine MX.enter htr (by decide) rfl (Nat.le_of_ble_eq_true rfl) ?_
  refine J_lveq (lv' := [(0, .ref a0)]) rfl ?_
  refine J_aload_n dX4_leave_0 0 rfl ?_
  refine J_iconst (v := nI 0) dX4_leave_1 (by decide) ?_
  obtain ⟨h_1, g9, F⟩ := F
  refine J_put (ci := 4) (k := 0) dX4_leave_2 rfl in_X4_leave_4 tyX4 tyX4_ok nmX4 (by decide) lk_X4_leave_58 rfl rfl rfl rfl g9 ?_
  refine J_aload_n dX4_leave_5 0 rfl ?_
  obtain ⟨v_2, g9, F⟩ := F
  refine J_get (ci := 4) (k := 19) dX4_leave_6 rfl in_X4_leave_4 (by decide) lk_X4_leave_112 g9 ?_
  refine J_istore_n (lv' := [(1, .int v_2), (0, .ref a0)]) dX4_leave_9 rfl (by decide) rfl ?_
  refine J_aload_n dX4_leave_10 1 rfl ?_
  refine J_iconst (v := nI 0) dX4_leave_11 (by decide) ?_
  obtain ⟨h_3, g9, F⟩ := F
  refine J_put (ci := 4) (k := 19) dX4_leave_12 rfl in_X4_leave_4 tyX4 tyX4_ok nmX4 (by decide) lk_X4_leave_112 rfl rfl rfl rfl g9 ?_
  refine J_iload_n dX4_leave_15 0 rfl ?_
  exact J_zret dX4_leave_16 rfl F.1 (Nat.le_refl _) (Nat.le_refl _) F.2

abbrev mX4_member (l : Launch) (K : Kx) (As : List Value) (h : Hp) (Post : Rs → Hp → Prop) : Prop := MX l K yX4_member wsX4_member 3 72 0 0 As h Post
set_option maxRecDepth 100000 in
set_option maxHeartbeats 4000000 in
theorem fX4_member {l : Launch} {K : Kx} {a0 : Nat} {x1 : Int32} {x2 : Int32} {h : Hp} {Post : Rs → Hp → Prop} (htr : l.stackTraces = false)
    (F : ((∃ fs, h a0 = some (xO 4 fs)) ∧ mX4_isRefused l K [.ref a0, .int x1, .int (nI 2), .int (nI 2), .long (lN 0)] h (kI (fun v_2 h_1 => ((v_2 = nI 0 → (∃ v_3, gf h_1 a0 4 22 = some (.int v_3) ∧ ((v_3 < nI 0 → ((∃ fs, h_1 a0 = some (xO 4 fs)) ∧ mX4_fails l K [.ref a0, .int (nI 1)] h_1 (kI (fun v_5 h_4 => (Post (.inl (some (.long v_5.toInt64))) h_4))))) ∧ (¬ v_3 < nI 0 → ((x2 < nI 0 → ((∃ fs, h_1 a0 = some (xO 4 fs)) ∧ mX4_fails l K [.ref a0, .int (nI 1)] h_1 (kI (fun v_7 h_6 => (Post (.inl (some (.long v_7.toInt64))) h_6))))) ∧ (¬ x2 < nI 0 → (∃ p_8, gf h_1 a0 4 10 = some (.ref p_8) ∧ (∃ v_9, gf h_1 a0 4 22 = some (.int v_9) ∧ (∃ v_10, aI K h_1 p_8 v_9 = some v_10 ∧ ((x2 < v_10 → (∃ p_11, gf h_1 a0 4 12 = some (.ref p_11) ∧ (∃ v_12, gf h_1 a0 4 22 = some (.int v_12) ∧ (∃ u_13, aJ K h_1 p_11 (((nI 10) * v_12) + x2) = some u_13 ∧ (Post (.inl (some (.long u_13))) h_1))))) ∧ (¬ x2 < v_10 → ((∃ fs, h_1 a0 = some (xO 4 fs)) ∧ mX4_fails l K [.ref a0, .int (nI 1)] h_1 (kI (fun v_15 h_14 => (Post (.inl (some (.long v_15.toInt64))) h_14))))))))))))))) ∧ (¬ v_2 = nI 0 → (Post (.inl (some (.long (lN 0)))) h_1))))))) :
    mX4_member l K [.ref a0, .int x1, .int x2] h Post := by
  refine MX.enter htr (by decide) rfl (Nat.le_of_ble_eq_true rfl) ?_
  refine J_lveq (lv' := [(0, .ref a0), (1, .int x1), (2, .int x2)]) rfl ?_
  refine J_aload_n dX4_member_0 0 rfl ?_
  refine J_iload_n dX4_member_1 1 rfl ?_
  refine J_iconst (v := nI 2) dX4_member_2 (by decide) ?_
  refine J_iconst (v := nI 2) dX4_member_3 (by decide) ?_
  refine J_lconst (v := lN 0) dX4_member_4 rfl ?_
  obtain ⟨b9, F⟩ := F
  refine J_callV0 (ci := 4) (n := 4) (As := [.int x1, .int (nI 2), .int (nI 2), .long (lN 0)]) (rest := []) dX4_member_5 rfl gX4_member_X4_isRefused rfl (by decide +kernel) rfl (by decide) b9 (Nat.le_of_ble_eq_true rfl) (Nat.le_refl _) (Nat.le_refl _) F kI_no (kI_kk (fun v_2 h_1 F => ?_))
  refine J_if_eq (tgt := 13) dX4_member_8 (by decide) (fun c => ?_) (fun c => ?_)
  · replace F := F.1 c
    refine J_aload_n dX4_member_13 0 rfl ?_
    obtain ⟨v_3, g9, F⟩ := F
    refine J_get (ci := 4) (k := 22) dX4_member_14 rfl in_X4_member_4 (by decide) lk_X4_member_120 g9 ?_
    refine J_if_lt (tgt := 37) dX4_member_17 (by decide) (fun c => ?_) (fun c => ?_)
    · replace F := F.1 c
      refine J_aload_n dX4_member_37 0 rfl ?_
      refine J_iconst (v := nI 1) dX4_member_38 (by decide) ?_
      obtain ⟨b9, F⟩ := F
      refine J_callV0 (ci := 4) (n := 1) (As := [.int (nI 1)]) (rest := []) dX4_member_39 rfl gX4_member_X4_fails rfl (by decide +kernel) rfl (by decide) b9 (Nat.le_of_ble_eq_true rfl) (Nat.le_refl _) (Nat.le_refl _) F kI_no (kI_kk (fun v_5 h_4 F => ?_))
      refine J_i2l dX4_member_42 ?_
      refine J_goto (tgt := 60) dX4_member_43 (by decide) ?_
      exact J_lret dX4_member_60 rfl (Nat.le_refl _) (Nat.le_refl _) F
    · replace F := F.2 c
      refine J_iload_n dX4_member_20 2 rfl ?_
      refine J_if_lt (tgt := 37) dX4_member_21 (by decide) (fun c => ?_) (fun c => ?_)
      · replace F := F.1 c
        refine J_aload_n dX4_member_37 0 rfl ?_
        refine J_iconst (v := nI 1) dX4_member_38 (by decide) ?_
        obtain ⟨b9, F⟩ := F
        refine J_callV0 (ci := 4) (n := 1) (As := [.int (nI 1)]) (rest := []) dX4_member_39 rfl gX4_member_X4_fails rfl (by decide +kernel) rfl (by decide) b9 (Nat.le_of_ble_eq_true rfl) (Nat.le_refl _) (Nat.le_refl _) F kI_no (kI_kk (fun v_7 h_6 F => ?_))
        refine J_i2l dX4_member_42 ?_
        refine J_goto (tgt := 60) dX4_member_43 (by decide) ?_
        exact J_lret dX4_member_60 rfl (Nat.le_refl _) (Nat.le_refl _) F
      · replace F := F.2 c
        refine J_iload_n dX4_member_24 2 rfl ?_
        refine J_aload_n dX4_member_25 0 rfl ?_
        obtain ⟨p_8, g9, F⟩ := F
        refine J_get (ci := 4) (k := 10) dX4_member_26 rfl in_X4_member_4 (by decide) lk_X4_member_35 g9 ?_
        refine J_aload_n dX4_member_29 0 rfl ?_
        obtain ⟨v_9, g9, F⟩ := F
        refine J_get (ci := 4) (k := 22) dX4_member_30 rfl in_X4_member_4 (by decide) lk_X4_member_120 g9 ?_
        obtain ⟨v_10, g9, F⟩ := F
        refine J_iald dX4_member_33 g9 ?_
        refine J_icmp_lt (tgt := 46) dX4_member_34 (by decide) (fun c => ?_) (fun c => ?_)
        · replace F := F.1 c
          refine J_aload_n dX4_member_46 0 rfl ?_
          obtain ⟨p_11, g9, F⟩ := F
          refine J_get (ci := 4) (k := 12) dX4_member_47 rfl in_X4_member_4 (by decide) lk_X4_member_41 g9 ?_
          refine J_bipush (v := nI 10) dX4_member_50 (by decide) ?_
          refine J_aload_n dX4_member_52 0 rfl ?_
          obtain ⟨v_12, g9, F⟩ := F
          refine J_get (ci := 4) (k := 22) dX4_member_53 rfl in_X4_member_4 (by decide) lk_X4_member_120 g9 ?_
          refine J_imul dX4_member_56 ?_
          refine J_iload_n dX4_member_57 2 rfl ?_
          refine J_iadd dX4_member_58 ?_
          obtain ⟨u_13, g9, F⟩ := F
          refine J_lald dX4_member_59 g9 ?_
          exact J_lret dX4_member_60 rfl (Nat.le_refl _) (Nat.le_refl _) F
        · replace F := F.2 c
          refine J_aload_n dX4_member_37 0 rfl ?_
          refine J_iconst (v := nI 1) dX4_member_38 (by decide) ?_
          obtain ⟨b9, F⟩ := F
          refine J_callV0 (ci := 4) (n := 1) (As := [.int (nI 1)]) (rest := []) dX4_member_39 rfl gX4_member_X4_fails rfl (by decide +kernel) rfl (by decide) b9 (Nat.le_of_ble_eq_true rfl) (Nat.le_refl _) (Nat.le_refl _) F kI_no (kI_kk (fun v_15 h_14 F => ?_))
          refine J_i2l dX4_member_42 ?_
          refine J_goto (tgt := 60) dX4_member_43 (by decide) ?_
          exact J_lret dX4_member_60 rfl (Nat.le_refl _) (Nat.le_refl _) F
  · replace F := F.2 c
    refine J_lconst (v := lN 0) dX4_member_11 rfl ?_
    exact J_lret dX4_member_12 rfl (Nat.le_refl _) (Nat.le_refl _) F

abbrev mX4_move (l : Launch) (K : Kx) (As : List Value) (h : Hp) (Post : Rs → Hp → Prop) : Prop := MX l K yX4_move wsX4_move 3 65 0 0 As h Post
set_option maxRecDepth 100000 in
set_option maxHeartbeats 4000000 in
theorem fX4_move {l : Launch} {K : Kx} {a0 : Nat} {x1 : Int32} {x2 : Int32} {x3 : Int32} {h : Hp} {Post : Rs → Hp → Prop} (htr : l.stackTraces = false)
    (F : (∃ h_1, pf h a0 4 0 (.int (nI 0)) = some h_1 ∧ ((∃ fs, h_1 a0 = some (xO 4 fs)) ∧ mX4_isState l K [.ref a0, .int x1] h_1 (kI (fun v_3 h_2 => ((¬ v_3 = nI 0 → ((x2 < nI 0 → (Post (.inl (some (.int (-nI 1)))) h_2)) ∧ (¬ x2 < nI 0 → (((nI 3) < x2 → (Post (.inl (some (.int (-nI 1)))) h_2)) ∧ (¬ (nI 3) < x2 → ((x3 < nI 0 → (Post (.inl (some (.int (-nI 1)))) h_2)) ∧ (¬ x3 < nI 0 → ((x3 ≤ (nI 2) → (∃ p_4, gf h_2 a0 4 3 = some (.ref p_4) ∧ (∃ v_5, aI K h_2 p_4 x1 = some v_5 ∧ mX4_canMove l K [.int v_5, .int x2] h_2 (kI (fun v_7 h_6 => (∀ X_11 : Int32 → Int32 → Hp → Prop, (∀ (i_8 : Int32) (i_9 : Int32) (h_10 : Hp), ((∃ p_12, gf h_10 a0 4 6 = some (.ref p_12) ∧ (∃ v_13, aI K h_10 p_12 (nI 0) = some v_13 ∧ ((v_13 ≤ i_9 → ((¬ i_8 = nI 0 → (∀ X_17 : Int32 → Int32 → Hp → Prop, (∀ (i_14 : Int32) (i_15 : Int32) (h_16 : Hp), ((∃ p_18, gf h_16 a0 4 6 = some (.ref p_18) ∧ (∃ v_19, aI K h_16 p_18 (nI 0) = some v_19 ∧ ((v_19 ≤ i_15 → (∃ p_20, gf h_16 a0 4 3 = some (.ref p_20) ∧ (∃ h_21, wI K h_16 p_20 x1 x2 = some h_21 ∧ (∃ p_22, gf h_21 a0 4 4 = some (.ref p_22) ∧ (∃ h_23, wI K h_21 p_22 x1 x3 = some h_23 ∧ (Post (.inl (some (.int i_14))) h_23)))))) ∧ (¬ v_19 ≤ i_15 → (∃ p_24, gf h_16 a0 4 7 = some (.ref p_24) ∧ (∃ v_25, aI K h_16 p_24 i_15 = some v_25 ∧ ((¬ v_25 = x1 → X_17 i_14 (i_15 + nI 1) h_16) ∧ (v_25 = x1 → ((∃ fs, h_16 a0 = some (xO 4 fs)) ∧ mX4_touchOf l K [.ref a0, .int i_15] h_16 (kV (fun h_26 => (∃ p_27, gf h_26 a0 4 3 = some (.ref p_27) ∧ (∃ v_28, aI K h_26 p_27 x1 = some v_28 ∧ ((¬ v_28 = (nI 1) → (∃ p_29, gf h_26 a0 4 3 = some (.ref p_29) ∧ (∃ v_30, aI K h_26 p_29 x1 = some v_30 ∧ ((¬ v_30 = (nI 3) → X_17 (i_14 + nI 1) (i_15 + nI 1) h_26) ∧ (v_30 = (nI 3) → (∃ p_31, gf h_26 a0 4 10 = some (.ref p_31) ∧ (∃ h_32, wI K h_26 p_31 i_15 (nI 1) = some h_32 ∧ X_17 (i_14 + nI 1) (i_15 + nI 1) h_32))))))) ∧ (v_28 = (nI 1) → ((¬ x2 = (nI 3) → (∃ p_33, gf h_26 a0 4 3 = some (.ref p_33) ∧ (∃ v_34, aI K h_26 p_33 x1 = some v_34 ∧ ((¬ v_34 = (nI 3) → X_17 (i_14 + nI 1) (i_15 + nI 1) h_26) ∧ (v_34 = (nI 3) → (∃ p_35, gf h_26 a0 4 10 = some (.ref p_35) ∧ (∃ h_36, wI K h_26 p_35 i_15 (nI 1) = some h_36 ∧ X_17 (i_14 + nI 1) (i_15 + nI 1) h_36))))))) ∧ (x2 = (nI 3) → (∀ X_39 : Int32 → Hp → Prop, (∀ (i_37 : Int32) (h_38 : Hp), ((∃ p_40, gf h_38 a0 4 10 = some (.ref p_40) ∧ (∃ v_41, aI K h_38 p_40 i_15 = some v_41 ∧ ((v_41 ≤ i_37 → X_17 (i_14 + nI 1) (i_15 + nI 1) h_38) ∧ (¬ v_41 ≤ i_37 → (∃ p_42, gf h_38 a0 4 11 = some (.ref p_42) ∧ (∃ p_43, gf h_38 a0 4 11 = some (.ref p_43) ∧ (∃ u_44, aJ K h_38 p_43 ((nI 10) * i_15) = some u_44 ∧ (∃ p_45, gf h_38 a0 4 11 = some (.ref p_45) ∧ (∃ u_46, aJ K h_38 p_45 (((nI 10) * i_15) + i_37) = some u_46 ∧ mX4_folded l K [.int x3, .long u_44, .long u_46] h_38 (kL (fun u_48 h_47 => (∃ h_49, wJ K h_47 p_42 ((nI 10) * i_15) u_48 = some h_49 ∧ X_39 (i_37 + nI 1) h_49))))))))))))) → X_39 i_37 h_38) → X_39 (nI 1) h_26))))))))))))))))))) → X_17 i_14 i_15 h_16) → X_17 (nI 0) (nI 0) h_10)) ∧ (i_8 = nI 0 → (Post (.inl (some (.int (-nI 3)))) h_10)))) ∧ (¬ v_13 ≤ i_9 → (∀ X_53 : Int32 → Int32 → Hp → Prop, (∀ (i_50 : Int32) (i_51 : Int32) (h_52 : Hp), ((∃ p_54, gf h_52 a0 4 7 = some (.ref p_54) ∧ (∃ v_55, aI K h_52 p_54 i_9 = some v_55 ∧ ((¬ v_55 = x1 → X_11 i_50 (i_9 + nI 1) h_52) ∧ (v_55 = x1 → ((∃ fs, h_52 a0 = some (xO 4 fs)) ∧ mX4_numbersOf l K [.ref a0, .int (nI 0), .int i_9] h_52 (kI (fun v_57 h_56 => ((v_57 ≤ i_51 → X_11 i_50 (i_9 + nI 1) h_56) ∧ (¬ v_57 ≤ i_51 → (∃ p_58, gf h_56 a0 4 11 = some (.ref p_58) ∧ (∃ u_59, aJ K h_56 p_58 (((nI 10) * i_9) + i_51) = some u_59 ∧ mX4_fits l K [.int x2, .int x3, .long u_59] h_56 (kI (fun v_61 h_60 => X_53 (i_50 &&& v_61) (i_51 + nI 1) h_60)))))))))))))) → X_53 i_50 i_51 h_52) → X_53 i_8 (nI 0) h_10)))))) → X_11 i_8 i_9 h_10) → X_11 v_7 (nI 0) h_6)))))) ∧ (¬ x3 ≤ (nI 2) → (Post (.inl (some (.int (-nI 1)))) h_2)))))))))) ∧ (v_3 = nI 0 → ((∃ fs, h_2 a0 = some (xO 4 fs)) ∧ mX4_fails l K [.ref a0, .int (nI 1)] h_2 (kI (fun v_63 h_62 => (Post (.inl (some (.int v_63))) h_62))))))))))) :
    mX4_move l K [.ref a0, .int x1, .int x2, .int x3] h Post := by
  refine MX.enter htr (by decide) rfl (Nat.le_of_ble_eq_true rfl) ?_
  refine J_lveq (lv' := [(0, .ref a0), (1, .int x1), (2, .int x2), (3, .int x3)]) rfl ?_
  refine J_aload_n dX4_move_0 0 rfl ?_
  refine J_iconst (v := nI 0) dX4_move_1 (by decide) ?_
  obtain ⟨h_1, g9, F⟩ := F
  refine J_put (ci := 4) (k := 0) dX4_move_2 rfl in_X4_move_4 tyX4 tyX4_ok nmX4 (by decide) lk_X4_move_58 rfl rfl rfl rfl g9 ?_
  refine J_aload_n dX4_move_5 0 rfl ?_
  refine J_iload_n dX4_move_6 1 rfl ?_
  obtain ⟨b9, F⟩ := F
  refine J_callV0 (ci := 4) (n := 1) (As := [.int x1]) (rest := []) dX4_move_7 rfl gX4_move_X4_isState rfl (by decide +kernel) rfl (by decide) b9 (Nat.le_of_ble_eq_true rfl) (Nat.le_refl _) (Nat.le_refl _) F kI_no (kI_kk (fun v_3 h_2 F => ?_))
  refine J_if_ne (tgt := 19) dX4_move_10 (by decide) (fun c => ?_) (fun c => ?_)
  · replace F := F.1 c
    refine J_iload_n dX4_move_19 2 rfl ?_
    refine J_if_lt (tgt := 37) dX4_move_20 (by decide) (fun c => ?_) (fun c => ?_)
    · replace F := F.1 c
      refine J_iconst (v := -nI 1) dX4_move_37 (by decide) ?_
      exact J_iret dX4_move_38 rfl (Nat.le_refl _) (Nat.le_refl _) F
    · replace F := F.2 c
      refine J_iload_n dX4_move_23 2 rfl ?_
      refine J_iconst (v := nI 3) dX4_move_24 (by decide) ?_
      refine J_icmp_gt (tgt := 37) dX4_move_25 (by decide) (fun c => ?_) (fun c => ?_)
      · replace F := F.1 c
        refine J_iconst (v := -nI 1) dX4_move_37 (by decide) ?_
        exact J_iret dX4_move_38 rfl (Nat.le_refl _) (Nat.le_refl _) F
      · replace F := F.2 c
        refine J_iload_n dX4_move_28 3 rfl ?_
        refine J_if_lt (tgt := 37) dX4_move_29 (by decide) (fun c => ?_) (fun c => ?_)
        · replace F := F.1 c
          refine J_iconst (v := -nI 1) dX4_move_37 (by decide) ?_
          exact J_iret dX4_move_38 rfl (Nat.le_refl _) (Nat.le_refl _) F
        · replace F := F.2 c
          refine J_iload_n dX4_move_32 3 rfl ?_
          refine J_iconst (v := nI 2) dX4_move_33 (by decide) ?_
          refine J_icmp_le (tgt := 39) dX4_move_34 (by decide) (fun c => ?_) (fun c => ?_)
          · replace F := F.1 c
            refine J_aload_n dX4_move_39 0 rfl ?_
            obtain ⟨p_4, g9, F⟩ := F
            refine J_get (ci := 4) (k := 3) dX4_move_40 rfl in_X4_move_4 (by decide) lk_X4_move_13 g9 ?_
            refine J_iload_n dX4_move_43 1 rfl ?_
            obtain ⟨v_5, g9, F⟩ := F
            refine J_iald dX4_move_44 g9 ?_
            refine J_iload_n dX4_move_45 2 rfl ?_
            refine J_callS0 (n := 2) (As := [.int v_5, .int x2]) (rest := []) dX4_move_46 gX4_move_X4_canMove rfl (by decide +kernel) rfl (by decide) (Nat.le_of_ble_eq_true rfl) (Nat.le_refl _) (Nat.le_refl _) F kI_no (kI_kk (fun v_7 h_6 F => ?_))
            refine J_istore (lv' := [(4, .int v_7), (0, .ref a0), (1, .int x1), (2, .int x2), (3, .int x3)]) dX4_move_49 (by decide) rfl ?_
            refine J_iconst (v := nI 0) dX4_move_51 (by decide) ?_
            refine J_istore (lv' := [(5, .int (nI 0)), (4, .int v_7), (0, .ref a0), (1, .int x1), (2, .int x2), (3, .int x3)]) dX4_move_52 (by decide) rfl ?_
            refine J_sub [2, 3, 4, 5, 1, 0] rfl ?_
            refine F (fun (i_8 : Int32) (i_9 : Int32) (h_10 : Hp) => J l K yX4_move.cls cX4_move 8 (some .int) wsX4_move [] yX4_move.name 3 65 0 0 (QM K 0 0 Post) 54 [] [(0, .ref a0), (1, .int x1), (2, .int x2), (3, .int x3), (4, .int i_8), (5, .int i_9)] h_10 ((0 + 0) + 0) ((0 + 0) + 0)) ?_
            intro i_8 i_9 h_10 F
            refine J_iload dX4_move_54 5 rfl ?_
            refine J_aload_n dX4_move_56 0 rfl ?_
            obtain ⟨p_12, g9, F⟩ := F
            refine J_get (ci := 4) (k := 6) dX4_move_57 rfl in_X4_move_4 (by decide) lk_X4_move_22 g9 ?_
            refine J_iconst (v := nI 0) dX4_move_60 (by decide) ?_
            obtain ⟨v_13, g9, F⟩ := F
            refine J_iald dX4_move_61 g9 ?_
            refine J_icmp_ge (tgt := 126) dX4_move_62 (by decide) (fun c => ?_) (fun c => ?_)
            · replace F := F.1 c
              refine J_iload dX4_move_126 4 rfl ?_
              refine J_if_ne (tgt := 134) dX4_move_128 (by decide) (fun c => ?_) (fun c => ?_)
              · replace F := F.1 c
                refine J_iconst (v := nI 0) dX4_move_134 (by decide) ?_
                refine J_istore (lv' := [(5, .int (nI 0)), (0, .ref a0), (1, .int x1), (2, .int x2), (3, .int x3), (4, .int i_8)]) dX4_move_135 (by decide) rfl ?_
                refine J_iconst (v := nI 0) dX4_move_137 (by decide) ?_
                refine J_istore (lv' := [(6, .int (nI 0)), (5, .int (nI 0)), (0, .ref a0), (1, .int x1), (2, .int x2), (3, .int x3), (4, .int i_8)]) dX4_move_138 (by decide) rfl ?_
                refine J_sub [2, 3, 4, 5, 1, 0] rfl ?_
                refine F (fun (i_14 : Int32) (i_15 : Int32) (h_16 : Hp) => J l K yX4_move.cls cX4_move 8 (some .int) wsX4_move [] yX4_move.name 3 65 0 0 (QM K 0 0 Post) 140 [] [(0, .ref a0), (1, .int x1), (2, .int x2), (3, .int x3), (5, .int i_14), (6, .int i_15)] h_16 ((0 + 0) + 0) ((0 + 0) + 0)) ?_
                intro i_14 i_15 h_16 F
                refine J_iload dX4_move_140 5 rfl ?_
                refine J_aload_n dX4_move_142 0 rfl ?_
                obtain ⟨p_18, g9, F⟩ := F
                refine J_get (ci := 4) (k := 6) dX4_move_143 rfl in_X4_move_4 (by decide) lk_X4_move_22 g9 ?_
                refine J_iconst (v := nI 0) dX4_move_146 (by decide) ?_
                obtain ⟨v_19, g9, F⟩ := F
                refine J_iald dX4_move_147 g9 ?_
                refine J_icmp_ge (tgt := 271) dX4_move_148 (by decide) (fun c => ?_) (fun c => ?_)
                · replace F := F.1 c
                  refine J_aload_n dX4_move_271 0 rfl ?_
                  obtain ⟨p_20, g9, F⟩ := F
                  refine J_get (ci := 4) (k := 3) dX4_move_272 rfl in_X4_move_4 (by decide) lk_X4_move_13 g9 ?_
                  refine J_iload_n dX4_move_275 1 rfl ?_
                  refine J_iload_n dX4_move_276 2 rfl ?_
                  obtain ⟨h_21, g9, F⟩ := F
                  refine J_iast dX4_move_277 g9 ?_
                  refine J_aload_n dX4_move_278 0 rfl ?_
                  obtain ⟨p_22, g9, F⟩ := F
                  refine J_get (ci := 4) (k := 4) dX4_move_279 rfl in_X4_move_4 (by decide) lk_X4_move_16 g9 ?_
                  refine J_iload_n dX4_move_282 1 rfl ?_
                  refine J_iload_n dX4_move_283 3 rfl ?_
                  obtain ⟨h_23, g9, F⟩ := F
                  refine J_iast dX4_move_284 g9 ?_
                  refine J_iload dX4_move_285 4 rfl ?_
                  exact J_iret dX4_move_287 rfl (Nat.le_refl _) (Nat.le_refl _) F
                · replace F := F.2 c
                  refine J_aload_n dX4_move_151 0 rfl ?_
                  obtain ⟨p_24, g9, F⟩ := F
                  refine J_get (ci := 4) (k := 7) dX4_move_152 rfl in_X4_move_4 (by decide) lk_X4_move_25 g9 ?_
                  refine J_iload dX4_move_155 5 rfl ?_
                  obtain ⟨v_25, g9, F⟩ := F
                  refine J_iald dX4_move_157 g9 ?_
                  refine J_iload_n dX4_move_158 1 rfl ?_
                  refine J_icmp_ne (tgt := 265) dX4_move_159 (by decide) (fun c => ?_) (fun c => ?_)
                  · replace F := F.1 c
                    refine J_iinc (v := i_15 + nI 1) (lv' := [(6, .int (i_15 + nI 1)), (0, .ref a0), (1, .int x1), (2, .int x2), (3, .int x3), (5, .int i_14)]) dX4_move_265 5 rfl rfl (by decide) rfl ?_
                    refine J_goto (tgt := 140) dX4_move_268 (by decide) ?_
                    exact J_sub [1, 2, 3, 4, 5, 0] rfl F
                  · replace F := F.2 c
                    refine J_aload_n dX4_move_162 0 rfl ?_
                    refine J_iload dX4_move_163 5 rfl ?_
                    obtain ⟨b9, F⟩ := F
                    refine J_callV0 (ci := 4) (n := 1) (As := [.int i_15]) (rest := []) dX4_move_165 rfl gX4_move_X4_touchOf rfl (by decide +kernel) rfl (by decide) b9 (Nat.le_of_ble_eq_true rfl) (Nat.le_refl _) (Nat.le_refl _) F kV_no (kV_kk (fun h_26 F => ?_))
                    refine J_aload_n dX4_move_168 0 rfl ?_
                    obtain ⟨p_27, g9, F⟩ := F
                    refine J_get (ci := 4) (k := 3) dX4_move_169 rfl in_X4_move_4 (by decide) lk_X4_move_13 g9 ?_
                    refine J_iload_n dX4_move_172 1 rfl ?_
                    obtain ⟨v_28, g9, F⟩ := F
                    refine J_iald dX4_move_173 g9 ?_
                    refine J_iconst (v := nI 1) dX4_move_174 (by decide) ?_
                    refine J_icmp_ne (tgt := 244) dX4_move_175 (by decide) (fun c => ?_) (fun c => ?_)
                    · replace F := F.1 c
                      refine J_aload_n dX4_move_244 0 rfl ?_
                      obtain ⟨p_29, g9, F⟩ := F
                      refine J_get (ci := 4) (k := 3) dX4_move_245 rfl in_X4_move_4 (by decide) lk_X4_move_13 g9 ?_
                      refine J_iload_n dX4_move_248 1 rfl ?_
                      obtain ⟨v_30, g9, F⟩ := F
                      refine J_iald dX4_move_249 g9 ?_
                      refine J_iconst (v := nI 3) dX4_move_250 (by decide) ?_
                      refine J_icmp_ne (tgt := 262) dX4_move_251 (by decide) (fun c => ?_) (fun c => ?_)
                      · replace F := F.1 c
                        refine J_iinc (v := i_14 + nI 1) (lv' := [(5, .int (i_14 + nI 1)), (0, .ref a0), (1, .int x1), (2, .int x2), (3, .int x3), (6, .int i_15)]) dX4_move_262 4 rfl rfl (by decide) rfl ?_
                        refine J_iinc (v := i_15 + nI 1) (lv' := [(6, .int (i_15 + nI 1)), (5, .int (i_14 + nI 1)), (0, .ref a0), (1, .int x1), (2, .int x2), (3, .int x3)]) dX4_move_265 5 rfl rfl (by decide) rfl ?_
                        refine J_goto (tgt := 140) dX4_move_268 (by decide) ?_
                        exact J_sub [2, 3, 4, 5, 1, 0] rfl F
                      · replace F := F.2 c
                        refine J_aload_n dX4_move_254 0 rfl ?_
                        obtain ⟨p_31, g9, F⟩ := F
                        refine J_get (ci := 4) (k := 10) dX4_move_255 rfl in_X4_move_4 (by decide) lk_X4_move_35 g9 ?_
                        refine J_iload dX4_move_258 5 rfl ?_
                        refine J_iconst (v := nI 1) dX4_move_260 (by decide) ?_
                        obtain ⟨h_32, g9, F⟩ := F
                        refine J_iast dX4_move_261 g9 ?_
                        refine J_iinc (v := i_14 + nI 1) (lv' := [(5, .int (i_14 + nI 1)), (0, .ref a0), (1, .int x1), (2, .int x2), (3, .int x3), (6, .int i_15)]) dX4_move_262 4 rfl rfl (by decide) rfl ?_
                        refine J_iinc (v := i_15 + nI 1) (lv' := [(6, .int (i_15 + nI 1)), (5, .int (i_14 + nI 1)), (0, .ref a0), (1, .int x1), (2, .int x2), (3, .int x3)]) dX4_move_265 5 rfl rfl (by decide) rfl ?_
                        refine J_goto (tgt := 140) dX4_move_268 (by decide) ?_
                        exact J_sub [2, 3, 4, 5, 1, 0] rfl F
                    · replace F := F.2 c
                      refine J_iload_n dX4_move_178 2 rfl ?_
                      refine J_iconst (v := nI 3) dX4_move_179 (by decide) ?_
                      refine J_icmp_ne (tgt := 244) dX4_move_180 (by decide) (fun c => ?_) (fun c => ?_)
                      · replace F := F.1 c
                        refine J_aload_n dX4_move_244 0 rfl ?_
                        obtain ⟨p_33, g9, F⟩ := F
                        refine J_get (ci := 4) (k := 3) dX4_move_245 rfl in_X4_move_4 (by decide) lk_X4_move_13 g9 ?_
                        refine J_iload_n dX4_move_248 1 rfl ?_
                        obtain ⟨v_34, g9, F⟩ := F
                        refine J_iald dX4_move_249 g9 ?_
                        refine J_iconst (v := nI 3) dX4_move_250 (by decide) ?_
                        refine J_icmp_ne (tgt := 262) dX4_move_251 (by decide) (fun c => ?_) (fun c => ?_)
                        · replace F := F.1 c
                          refine J_iinc (v := i_14 + nI 1) (lv' := [(5, .int (i_14 + nI 1)), (0, .ref a0), (1, .int x1), (2, .int x2), (3, .int x3), (6, .int i_15)]) dX4_move_262 4 rfl rfl (by decide) rfl ?_
                          refine J_iinc (v := i_15 + nI 1) (lv' := [(6, .int (i_15 + nI 1)), (5, .int (i_14 + nI 1)), (0, .ref a0), (1, .int x1), (2, .int x2), (3, .int x3)]) dX4_move_265 5 rfl rfl (by decide) rfl ?_
                          refine J_goto (tgt := 140) dX4_move_268 (by decide) ?_
                          exact J_sub [2, 3, 4, 5, 1, 0] rfl F
                        · replace F := F.2 c
                          refine J_aload_n dX4_move_254 0 rfl ?_
                          obtain ⟨p_35, g9, F⟩ := F
                          refine J_get (ci := 4) (k := 10) dX4_move_255 rfl in_X4_move_4 (by decide) lk_X4_move_35 g9 ?_
                          refine J_iload dX4_move_258 5 rfl ?_
                          refine J_iconst (v := nI 1) dX4_move_260 (by decide) ?_
                          obtain ⟨h_36, g9, F⟩ := F
                          refine J_iast dX4_move_261 g9 ?_
                          refine J_iinc (v := i_14 + nI 1) (lv' := [(5, .int (i_14 + nI 1)), (0, .ref a0), (1, .int x1), (2, .int x2), (3, .int x3), (6, .int i_15)]) dX4_move_262 4 rfl rfl (by decide) rfl ?_
                          refine J_iinc (v := i_15 + nI 1) (lv' := [(6, .int (i_15 + nI 1)), (5, .int (i_14 + nI 1)), (0, .ref a0), (1, .int x1), (2, .int x2), (3, .int x3)]) dX4_move_265 5 rfl rfl (by decide) rfl ?_
                          refine J_goto (tgt := 140) dX4_move_268 (by decide) ?_
                          exact J_sub [2, 3, 4, 5, 1, 0] rfl F
                      · replace F := F.2 c
                        refine J_iconst (v := nI 1) dX4_move_183 (by decide) ?_
                        refine J_istore (lv' := [(7, .int (nI 1)), (0, .ref a0), (1, .int x1), (2, .int x2), (3, .int x3), (5, .int i_14), (6, .int i_15)]) dX4_move_184 (by decide) rfl ?_
                        refine J_sub [1, 2, 3, 4, 5, 6, 0] rfl ?_
                        refine F (fun (i_37 : Int32) (h_38 : Hp) => J l K yX4_move.cls cX4_move 8 (some .int) wsX4_move [] yX4_move.name 3 65 0 0 (QM K 0 0 Post) 186 [] [(0, .ref a0), (1, .int x1), (2, .int x2), (3, .int x3), (5, .int i_14), (6, .int i_15), (7, .int i_37)] h_38 (((0 + 0) + 0) + 0) (((0 + 0) + 0) + 0)) ?_
                        intro i_37 h_38 F
                        refine J_iload dX4_move_186 6 rfl ?_
                        refine J_aload_n dX4_move_188 0 rfl ?_
                        obtain ⟨p_40, g9, F⟩ := F
                        refine J_get (ci := 4) (k := 10) dX4_move_189 rfl in_X4_move_4 (by decide) lk_X4_move_35 g9 ?_
                        refine J_iload dX4_move_192 5 rfl ?_
                        obtain ⟨v_41, g9, F⟩ := F
                        refine J_iald dX4_move_194 g9 ?_
                        refine J_icmp_ge (tgt := 241) dX4_move_195 (by decide) (fun c => ?_) (fun c => ?_)
                        · replace F := F.1 c
                          refine J_goto (tgt := 262) dX4_move_241 (by decide) ?_
                          refine J_iinc (v := i_14 + nI 1) (lv' := [(5, .int (i_14 + nI 1)), (0, .ref a0), (1, .int x1), (2, .int x2), (3, .int x3), (6, .int i_15), (7, .int i_37)]) dX4_move_262 4 rfl rfl (by decide) rfl ?_
                          refine J_iinc (v := i_15 + nI 1) (lv' := [(6, .int (i_15 + nI 1)), (5, .int (i_14 + nI 1)), (0, .ref a0), (1, .int x1), (2, .int x2), (3, .int x3), (7, .int i_37)]) dX4_move_265 5 rfl rfl (by decide) rfl ?_
                          refine J_goto (tgt := 140) dX4_move_268 (by decide) ?_
                          exact J_sub [2, 3, 4, 5, 1, 0] rfl F
                        · replace F := F.2 c
                          refine J_aload_n dX4_move_198 0 rfl ?_
                          obtain ⟨p_42, g9, F⟩ := F
                          refine J_get (ci := 4) (k := 11) dX4_move_199 rfl in_X4_move_4 (by decide) lk_X4_move_38 g9 ?_
                          refine J_bipush (v := nI 10) dX4_move_202 (by decide) ?_
                          refine J_iload dX4_move_204 5 rfl ?_
                          refine J_imul dX4_move_206 ?_
                          refine J_iload_n dX4_move_207 3 rfl ?_
                          refine J_aload_n dX4_move_208 0 rfl ?_
                          obtain ⟨p_43, g9, F⟩ := F
                          refine J_get (ci := 4) (k := 11) dX4_move_209 rfl in_X4_move_4 (by decide) lk_X4_move_38 g9 ?_
                          refine J_bipush (v := nI 10) dX4_move_212 (by decide) ?_
                          refine J_iload dX4_move_214 5 rfl ?_
                          refine J_imul dX4_move_216 ?_
                          obtain ⟨u_44, g9, F⟩ := F
                          refine J_lald dX4_move_217 g9 ?_
                          refine J_aload_n dX4_move_218 0 rfl ?_
                          obtain ⟨p_45, g9, F⟩ := F
                          refine J_get (ci := 4) (k := 11) dX4_move_219 rfl in_X4_move_4 (by decide) lk_X4_move_38 g9 ?_
                          refine J_bipush (v := nI 10) dX4_move_222 (by decide) ?_
                          refine J_iload dX4_move_224 5 rfl ?_
                          refine J_imul dX4_move_226 ?_
                          refine J_iload dX4_move_227 6 rfl ?_
                          refine J_iadd dX4_move_229 ?_
                          obtain ⟨u_46, g9, F⟩ := F
                          refine J_lald dX4_move_230 g9 ?_
                          refine J_callS0 (n := 3) (As := [.int x3, .long u_44, .long u_46]) (rest := [.int ((nI 10) * i_15), .ref p_42]) dX4_move_231 gX4_move_X4_folded rfl (by decide +kernel) rfl (by decide) (Nat.le_of_ble_eq_true rfl) (Nat.le_refl _) (Nat.le_refl _) F kL_no (kL_kk (fun u_48 h_47 F => ?_))
                          obtain ⟨h_49, g9, F⟩ := F
                          refine J_last dX4_move_234 g9 ?_
                          refine J_iinc (v := i_37 + nI 1) (lv' := [(7, .int (i_37 + nI 1)), (0, .ref a0), (1, .int x1), (2, .int x2), (3, .int x3), (5, .int i_14), (6, .int i_15)]) dX4_move_235 6 rfl rfl (by decide) rfl ?_
                          refine J_goto (tgt := 186) dX4_move_238 (by decide) ?_
                          exact J_sub [1, 2, 3, 4, 5, 6, 0] rfl F
              · replace F := F.2 c
                refine J_bipush (v := -nI 3) dX4_move_131 (by decide) ?_
                exact J_iret dX4_move_133 rfl (Nat.le_refl _) (Nat.le_refl _) F
            · replace F := F.2 c
              refine J_iconst (v := nI 0) dX4_move_65 (by decide) ?_
              refine J_istore (lv' := [(6, .int (nI 0)), (0, .ref a0), (1, .int x1), (2, .int x2), (3, .int x3), (4, .int i_8), (5, .int i_9)]) dX4_move_66 (by decide) rfl ?_
              refine J_sub [1, 2, 3, 4, 5, 6, 0] rfl ?_
              refine F (fun (i_50 : Int32) (i_51 : Int32) (h_52 : Hp) => J l K yX4_move.cls cX4_move 8 (some .int) wsX4_move [] yX4_move.name 3 65 0 0 (QM K 0 0 Post) 68 [] [(0, .ref a0), (1, .int x1), (2, .int x2), (3, .int x3), (4, .int i_50), (5, .int i_9), (6, .int i_51)] h_52 ((0 + 0) + 0) ((0 + 0) + 0)) ?_
              intro i_50 i_51 h_52 F
              refine J_aload_n dX4_move_68 0 rfl ?_
              obtain ⟨p_54, g9, F⟩ := F
              refine J_get (ci := 4) (k := 7) dX4_move_69 rfl in_X4_move_4 (by decide) lk_X4_move_25 g9 ?_
              refine J_iload dX4_move_72 5 rfl ?_
              obtain ⟨v_55, g9, F⟩ := F
              refine J_iald dX4_move_74 g9 ?_
              refine J_iload_n dX4_move_75 1 rfl ?_
              refine J_icmp_ne (tgt := 120) dX4_move_76 (by decide) (fun c => ?_) (fun c => ?_)
              · replace F := F.1 c
                refine J_iinc (v := i_9 + nI 1) (lv' := [(5, .int (i_9 + nI 1)), (0, .ref a0), (1, .int x1), (2, .int x2), (3, .int x3), (4, .int i_50), (6, .int i_51)]) dX4_move_120 5 rfl rfl (by decide) rfl ?_
                refine J_goto (tgt := 54) dX4_move_123 (by decide) ?_
                exact J_sub [1, 2, 3, 4, 5, 0] rfl F
              · replace F := F.2 c
                refine J_iload dX4_move_79 6 rfl ?_
                refine J_aload_n dX4_move_81 0 rfl ?_
                refine J_iconst (v := nI 0) dX4_move_82 (by decide) ?_
                refine J_iload dX4_move_83 5 rfl ?_
                obtain ⟨b9, F⟩ := F
                refine J_callV0 (ci := 4) (n := 2) (As := [.int (nI 0), .int i_9]) (rest := [.int i_51]) dX4_move_85 rfl gX4_move_X4_numbersOf rfl (by decide +kernel) rfl (by decide) b9 (Nat.le_of_ble_eq_true rfl) (Nat.le_refl _) (Nat.le_refl _) F kI_no (kI_kk (fun v_57 h_56 F => ?_))
                refine J_icmp_ge (tgt := 120) dX4_move_88 (by decide) (fun c => ?_) (fun c => ?_)
                · replace F := F.1 c
                  refine J_iinc (v := i_9 + nI 1) (lv' := [(5, .int (i_9 + nI 1)), (0, .ref a0), (1, .int x1), (2, .int x2), (3, .int x3), (4, .int i_50), (6, .int i_51)]) dX4_move_120 5 rfl rfl (by decide) rfl ?_
                  refine J_goto (tgt := 54) dX4_move_123 (by decide) ?_
                  exact J_sub [1, 2, 3, 4, 5, 0] rfl F
                · replace F := F.2 c
                  refine J_iload dX4_move_91 4 rfl ?_
                  refine J_iload_n dX4_move_93 2 rfl ?_
                  refine J_iload_n dX4_move_94 3 rfl ?_
                  refine J_aload_n dX4_move_95 0 rfl ?_
                  obtain ⟨p_58, g9, F⟩ := F
                  refine J_get (ci := 4) (k := 11) dX4_move_96 rfl in_X4_move_4 (by decide) lk_X4_move_38 g9 ?_
                  refine J_bipush (v := nI 10) dX4_move_99 (by decide) ?_
                  refine J_iload dX4_move_101 5 rfl ?_
                  refine J_imul dX4_move_103 ?_
                  refine J_iload dX4_move_104 6 rfl ?_
                  refine J_iadd dX4_move_106 ?_
                  obtain ⟨u_59, g9, F⟩ := F
                  refine J_lald dX4_move_107 g9 ?_
                  refine J_callS0 (n := 3) (As := [.int x2, .int x3, .long u_59]) (rest := [.int i_50]) dX4_move_108 gX4_move_X4_fits rfl (by decide +kernel) rfl (by decide) (Nat.le_of_ble_eq_true rfl) (Nat.le_refl _) (Nat.le_refl _) F kI_no (kI_kk (fun v_61 h_60 F => ?_))
                  refine J_iand dX4_move_111 ?_
                  refine J_istore (lv' := [(4, .int (i_50 &&& v_61)), (0, .ref a0), (1, .int x1), (2, .int x2), (3, .int x3), (5, .int i_9), (6, .int i_51)]) dX4_move_112 (by decide) rfl ?_
                  refine J_iinc (v := i_51 + nI 1) (lv' := [(6, .int (i_51 + nI 1)), (4, .int (i_50 &&& v_61)), (0, .ref a0), (1, .int x1), (2, .int x2), (3, .int x3), (5, .int i_9)]) dX4_move_114 6 rfl rfl (by decide) rfl ?_
                  refine J_goto (tgt := 68) dX4_move_117 (by decide) ?_
                  exact J_sub [2, 3, 4, 5, 1, 6, 0] rfl F
          · replace F := F.2 c
            refine J_iconst (v := -nI 1) dX4_move_37 (by decide) ?_
            exact J_iret dX4_move_38 rfl (Nat.le_refl _) (Nat.le_refl _) F
  · replace F := F.2 c
    refine J_aload_n dX4_move_13 0 rfl ?_
    refine J_iconst (v := nI 1) dX4_move_14 (by decide) ?_
    obtain ⟨b9, F⟩ := F
    refine J_callV0 (ci := 4) (n := 1) (As := [.int (nI 1)]) (rest := []) dX4_move_15 rfl gX4_move_X4_fails rfl (by decide +kernel) rfl (by decide) b9 (Nat.le_of_ble_eq_true rfl) (Nat.le_refl _) (Nat.le_refl _) F kI_no (kI_kk (fun v_63 h_62 F => ?_))
    exact J_iret dX4_move_18 rfl (Nat.le_refl _) (Nat.le_refl _) F

abbrev mX4_of (l : Launch) (K : Kx) (As : List Value) (h : Hp) (Post : Rs → Hp → Prop) : Prop := MX l K yX4_of wsX4_of 1 21 0 0 As h Post
set_option maxRecDepth 100000 in
set_option maxHeartbeats 4000000 in
theorem fX4_of {l : Launch} {K : Kx} {a0 : Nat} {x1 : Int32} {x2 : Int32} {h : Hp} {Post : Rs → Hp → Prop} (htr : l.stackTraces = false)
    (F : (∃ h_1, pf h a0 4 0 (.int (nI 0)) = some h_1 ∧ ((∃ fs, h_1 a0 = some (xO 4 fs)) ∧ mX4_isState l K [.ref a0, .int x1] h_1 (kI (fun v_3 h_2 => ((v_3 = nI 0 → ((∃ fs, h_2 a0 = some (xO 4 fs)) ∧ mX4_fails l K [.ref a0, .int (nI 1)] h_2 (kI (fun v_5 h_4 => (Post (.inl (some (.int v_5))) h_4))))) ∧ (¬ v_3 = nI 0 → ((x2 < nI 0 → ((∃ fs, h_2 a0 = some (xO 4 fs)) ∧ mX4_fails l K [.ref a0, .int (nI 1)] h_2 (kI (fun v_7 h_6 => (Post (.inl (some (.int v_7))) h_6))))) ∧ (¬ x2 < nI 0 → ((x2 ≤ (nI 2) → ((¬ x2 = nI 0 → ((¬ x2 = (nI 1) → (∃ p_8, gf h_2 a0 4 4 = some (.ref p_8) ∧ (∃ v_9, aI K h_2 p_8 x1 = some v_9 ∧ (Post (.inl (some (.int v_9))) h_2)))) ∧ (x2 = (nI 1) → (∃ p_10, gf h_2 a0 4 3 = some (.ref p_10) ∧ (∃ v_11, aI K h_2 p_10 x1 = some v_11 ∧ (Post (.inl (some (.int v_11))) h_2)))))) ∧ (x2 = nI 0 → (∃ p_12, gf h_2 a0 4 2 = some (.ref p_12) ∧ (∃ v_13, aI K h_2 p_12 x1 = some v_13 ∧ (Post (.inl (some (.int v_13))) h_2)))))) ∧ (¬ x2 ≤ (nI 2) → ((∃ fs, h_2 a0 = some (xO 4 fs)) ∧ mX4_fails l K [.ref a0, .int (nI 1)] h_2 (kI (fun v_15 h_14 => (Post (.inl (some (.int v_15))) h_14))))))))))))))) :
    mX4_of l K [.ref a0, .int x1, .int x2] h Post := by
  refine MX.enter htr (by decide) rfl (Nat.le_of_ble_eq_true rfl) ?_
  refine J_lveq (lv' := [(0, .ref a0), (1, .int x1), (2, .int x2)]) rfl ?_
  refine J_aload_n dX4_of_0 0 rfl ?_
  refine J_iconst (v := nI 0) dX4_of_1 (by decide) ?_
  obtain ⟨h_1, g9, F⟩ := F
  refine J_put (ci := 4) (k := 0) dX4_of_2 rfl in_X4_of_4 tyX4 tyX4_ok nmX4 (by decide) lk_X4_of_58 rfl rfl rfl rfl g9 ?_
  refine J_aload_n dX4_of_5 0 rfl ?_
  refine J_iload_n dX4_of_6 1 rfl ?_
  obtain ⟨b9, F⟩ := F
  refine J_callV0 (ci := 4) (n := 1) (As := [.int x1]) (rest := []) dX4_of_7 rfl gX4_of_X4_isState rfl (by decide +kernel) rfl (by decide) b9 (Nat.le_of_ble_eq_true rfl) (Nat.le_refl _) (Nat.le_refl _) F kI_no (kI_kk (fun v_3 h_2 F => ?_))
  refine J_if_eq (tgt := 22) dX4_of_10 (by decide) (fun c => ?_) (fun c => ?_)
  · replace F := F.1 c
    refine J_aload_n dX4_of_22 0 rfl ?_
    refine J_iconst (v := nI 1) dX4_of_23 (by decide) ?_
    obtain ⟨b9, F⟩ := F
    refine J_callV0 (ci := 4) (n := 1) (As := [.int (nI 1)]) (rest := []) dX4_of_24 rfl gX4_of_X4_fails rfl (by decide +kernel) rfl (by decide) b9 (Nat.le_of_ble_eq_true rfl) (Nat.le_refl _) (Nat.le_refl _) F kI_no (kI_kk (fun v_5 h_4 F => ?_))
    exact J_iret dX4_of_27 rfl (Nat.le_refl _) (Nat.le_refl _) F
  · replace F := F.2 c
    refine J_iload_n dX4_of_13 2 rfl ?_
    refine J_if_lt (tgt := 22) dX4_of_14 (by decide) (fun c => ?_) (fun c => ?_)
    · replace F := F.1 c
      refine J_aload_n dX4_of_22 0 rfl ?_
      refine J_iconst (v := nI 1) dX4_of_23 (by decide) ?_
      obtain ⟨b9, F⟩ := F
      refine J_callV0 (ci := 4) (n := 1) (As := [.int (nI 1)]) (rest := []) dX4_of_24 rfl gX4_of_X4_fails rfl (by decide +kernel) rfl (by decide) b9 (Nat.le_of_ble_eq_true rfl) (Nat.le_refl _) (Nat.le_refl _) F kI_no (kI_kk (fun v_7 h_6 F => ?_))
      exact J_iret dX4_of_27 rfl (Nat.le_refl _) (Nat.le_refl _) F
    · replace F := F.2 c
      refine J_iload_n dX4_of_17 2 rfl ?_
      refine J_iconst (v := nI 2) dX4_of_18 (by decide) ?_
      refine J_icmp_le (tgt := 28) dX4_of_19 (by decide) (fun c => ?_) (fun c => ?_)
      · replace F := F.1 c
        refine J_iload_n dX4_of_28 2 rfl ?_
        refine J_if_ne (tgt := 41) dX4_of_29 (by decide) (fun c => ?_) (fun c => ?_)
        · replace F := F.1 c
          refine J_iload_n dX4_of_41 2 rfl ?_
          refine J_iconst (v := nI 1) dX4_of_42 (by decide) ?_
          refine J_icmp_ne (tgt := 55) dX4_of_43 (by decide) (fun c => ?_) (fun c => ?_)
          · replace F := F.1 c
            refine J_aload_n dX4_of_55 0 rfl ?_
            obtain ⟨p_8, g9, F⟩ := F
            refine J_get (ci := 4) (k := 4) dX4_of_56 rfl in_X4_of_4 (by decide) lk_X4_of_16 g9 ?_
            refine J_iload_n dX4_of_59 1 rfl ?_
            obtain ⟨v_9, g9, F⟩ := F
            refine J_iald dX4_of_60 g9 ?_
            exact J_iret dX4_of_61 rfl (Nat.le_refl _) (Nat.le_refl _) F
          · replace F := F.2 c
            refine J_aload_n dX4_of_46 0 rfl ?_
            obtain ⟨p_10, g9, F⟩ := F
            refine J_get (ci := 4) (k := 3) dX4_of_47 rfl in_X4_of_4 (by decide) lk_X4_of_13 g9 ?_
            refine J_iload_n dX4_of_50 1 rfl ?_
            obtain ⟨v_11, g9, F⟩ := F
            refine J_iald dX4_of_51 g9 ?_
            refine J_goto (tgt := 61) dX4_of_52 (by decide) ?_
            exact J_iret dX4_of_61 rfl (Nat.le_refl _) (Nat.le_refl _) F
        · replace F := F.2 c
          refine J_aload_n dX4_of_32 0 rfl ?_
          obtain ⟨p_12, g9, F⟩ := F
          refine J_get (ci := 4) (k := 2) dX4_of_33 rfl in_X4_of_4 (by decide) lk_X4_of_7 g9 ?_
          refine J_iload_n dX4_of_36 1 rfl ?_
          obtain ⟨v_13, g9, F⟩ := F
          refine J_iald dX4_of_37 g9 ?_
          refine J_goto (tgt := 61) dX4_of_38 (by decide) ?_
          exact J_iret dX4_of_61 rfl (Nat.le_refl _) (Nat.le_refl _) F
      · replace F := F.2 c
        refine J_aload_n dX4_of_22 0 rfl ?_
        refine J_iconst (v := nI 1) dX4_of_23 (by decide) ?_
        obtain ⟨b9, F⟩ := F
        refine J_callV0 (ci := 4) (n := 1) (As := [.int (nI 1)]) (rest := []) dX4_of_24 rfl gX4_of_X4_fails rfl (by decide +kernel) rfl (by decide) b9 (Nat.le_of_ble_eq_true rfl) (Nat.le_refl _) (Nat.le_refl _) F kI_no (kI_kk (fun v_15 h_14 F => ?_))
        exact J_iret dX4_of_27 rfl (Nat.le_refl _) (Nat.le_refl _) F

abbrev mX4_put (l : Launch) (K : Kx) (As : List Value) (h : Hp) (Post : Rs → Hp → Prop) : Prop := MX l K yX4_put wsX4_put 3 72 0 0 As h Post
set_option maxRecDepth 100000 in
set_option maxHeartbeats 4000000 in
theorem fX4_put {l : Launch} {K : Kx} {a0 : Nat} {x1 : Int32} {x2 : Int64} {h : Hp} {Post : Rs → Hp → Prop} (htr : l.stackTraces = false)
    (F : ((∃ fs, h a0 = some (xO 4 fs)) ∧ mX4_isRefused l K [.ref a0, .int x1, .int (nI 0), .int (nI 0), .long x2] h (kI (fun v_2 h_1 => ((v_2 = nI 0 → (∃ v_3, gf h_1 a0 4 22 = some (.int v_3) ∧ ((nI 0 ≤ v_3 → (∃ v_4, gf h_1 a0 4 22 = some (.int v_4) ∧ ((nI 0 ≤ v_4 → (((nI 0) = nI 0 → (∃ v_5, gf h_1 a0 4 22 = some (.int v_5) ∧ ((∃ fs, h_1 a0 = some (xO 4 fs)) ∧ mX4_touchOf l K [.ref a0, .int v_5] h_1 (kV (fun h_6 => (∃ p_7, gf h_6 a0 4 11 = some (.ref p_7) ∧ (∃ h_8, wJ K h_6 p_7 ((nI 10) * v_5) x2 = some h_8 ∧ (∃ p_9, gf h_8 a0 4 10 = some (.ref p_9) ∧ (∃ h_10, wI K h_8 p_9 v_5 (nI 1) = some h_10 ∧ (((nI 0) = nI 0 → (Post (.inl (some (.int (nI 0)))) h_10)) ∧ (¬ (nI 0) = nI 0 → (Post (.inl (some (.int (nI 1)))) h_10)))))))))))) ∧ (¬ (nI 0) = nI 0 → ((∃ fs, h_1 a0 = some (xO 4 fs)) ∧ mX4_newEntry l K [.ref a0, .int x1] h_1 (kI (fun v_12 h_11 => ((∃ fs, h_11 a0 = some (xO 4 fs)) ∧ mX4_touchOf l K [.ref a0, .int v_12] h_11 (kV (fun h_13 => (∃ p_14, gf h_13 a0 4 11 = some (.ref p_14) ∧ (∃ h_15, wJ K h_13 p_14 ((nI 10) * v_12) x2 = some h_15 ∧ (∃ p_16, gf h_15 a0 4 10 = some (.ref p_16) ∧ (∃ h_17, wI K h_15 p_16 v_12 (nI 1) = some h_17 ∧ (((nI 0) = nI 0 → (Post (.inl (some (.int (nI 0)))) h_17)) ∧ (¬ (nI 0) = nI 0 → (Post (.inl (some (.int (nI 1)))) h_17)))))))))))))))) ∧ (¬ nI 0 ≤ v_4 → (((nI 1) = nI 0 → (∃ v_18, gf h_1 a0 4 22 = some (.int v_18) ∧ ((∃ fs, h_1 a0 = some (xO 4 fs)) ∧ mX4_touchOf l K [.ref a0, .int v_18] h_1 (kV (fun h_19 => (∃ p_20, gf h_19 a0 4 11 = some (.ref p_20) ∧ (∃ h_21, wJ K h_19 p_20 ((nI 10) * v_18) x2 = some h_21 ∧ (∃ p_22, gf h_21 a0 4 10 = some (.ref p_22) ∧ (∃ h_23, wI K h_21 p_22 v_18 (nI 1) = some h_23 ∧ (((nI 1) = nI 0 → (Post (.inl (some (.int (nI 0)))) h_23)) ∧ (¬ (nI 1) = nI 0 → (Post (.inl (some (.int (nI 1)))) h_23)))))))))))) ∧ (¬ (nI 1) = nI 0 → ((∃ fs, h_1 a0 = some (xO 4 fs)) ∧ mX4_newEntry l K [.ref a0, .int x1] h_1 (kI (fun v_25 h_24 => ((∃ fs, h_24 a0 = some (xO 4 fs)) ∧ mX4_touchOf l K [.ref a0, .int v_25] h_24 (kV (fun h_26 => (∃ p_27, gf h_26 a0 4 11 = some (.ref p_27) ∧ (∃ h_28, wJ K h_26 p_27 ((nI 10) * v_25) x2 = some h_28 ∧ (∃ p_29, gf h_28 a0 4 10 = some (.ref p_29) ∧ (∃ h_30, wI K h_28 p_29 v_25 (nI 1) = some h_30 ∧ (((nI 1) = nI 0 → (Post (.inl (some (.int (nI 0)))) h_30)) ∧ (¬ (nI 1) = nI 0 → (Post (.inl (some (.int (nI 1)))) h_30))))))))))))))))))) ∧ (¬ nI 0 ≤ v_3 → (∃ p_31, gf h_1 a0 4 6 = some (.ref p_31) ∧ (∃ v_32, aI K h_1 p_31 (nI 0) = some v_32 ∧ ((¬ v_32 = (nI 150) → (∃ v_33, gf h_1 a0 4 22 = some (.int v_33) ∧ ((nI 0 ≤ v_33 → (((nI 0) = nI 0 → (∃ v_34, gf h_1 a0 4 22 = some (.int v_34) ∧ ((∃ fs, h_1 a0 = some (xO 4 fs)) ∧ mX4_touchOf l K [.ref a0, .int v_34] h_1 (kV (fun h_35 => (∃ p_36, gf h_35 a0 4 11 = some (.ref p_36) ∧ (∃ h_37, wJ K h_35 p_36 ((nI 10) * v_34) x2 = some h_37 ∧ (∃ p_38, gf h_37 a0 4 10 = some (.ref p_38) ∧ (∃ h_39, wI K h_37 p_38 v_34 (nI 1) = some h_39 ∧ (((nI 0) = nI 0 → (Post (.inl (some (.int (nI 0)))) h_39)) ∧ (¬ (nI 0) = nI 0 → (Post (.inl (some (.int (nI 1)))) h_39)))))))))))) ∧ (¬ (nI 0) = nI 0 → ((∃ fs, h_1 a0 = some (xO 4 fs)) ∧ mX4_newEntry l K [.ref a0, .int x1] h_1 (kI (fun v_41 h_40 => ((∃ fs, h_40 a0 = some (xO 4 fs)) ∧ mX4_touchOf l K [.ref a0, .int v_41] h_40 (kV (fun h_42 => (∃ p_43, gf h_42 a0 4 11 = some (.ref p_43) ∧ (∃ h_44, wJ K h_42 p_43 ((nI 10) * v_41) x2 = some h_44 ∧ (∃ p_45, gf h_44 a0 4 10 = some (.ref p_45) ∧ (∃ h_46, wI K h_44 p_45 v_41 (nI 1) = some h_46 ∧ (((nI 0) = nI 0 → (Post (.inl (some (.int (nI 0)))) h_46)) ∧ (¬ (nI 0) = nI 0 → (Post (.inl (some (.int (nI 1)))) h_46)))))))))))))))) ∧ (¬ nI 0 ≤ v_33 → (((nI 1) = nI 0 → (∃ v_47, gf h_1 a0 4 22 = some (.int v_47) ∧ ((∃ fs, h_1 a0 = some (xO 4 fs)) ∧ mX4_touchOf l K [.ref a0, .int v_47] h_1 (kV (fun h_48 => (∃ p_49, gf h_48 a0 4 11 = some (.ref p_49) ∧ (∃ h_50, wJ K h_48 p_49 ((nI 10) * v_47) x2 = some h_50 ∧ (∃ p_51, gf h_50 a0 4 10 = some (.ref p_51) ∧ (∃ h_52, wI K h_50 p_51 v_47 (nI 1) = some h_52 ∧ (((nI 1) = nI 0 → (Post (.inl (some (.int (nI 0)))) h_52)) ∧ (¬ (nI 1) = nI 0 → (Post (.inl (some (.int (nI 1)))) h_52)))))))))))) ∧ (¬ (nI 1) = nI 0 → ((∃ fs, h_1 a0 = some (xO 4 fs)) ∧ mX4_newEntry l K [.ref a0, .int x1] h_1 (kI (fun v_54 h_53 => ((∃ fs, h_53 a0 = some (xO 4 fs)) ∧ mX4_touchOf l K [.ref a0, .int v_54] h_53 (kV (fun h_55 => (∃ p_56, gf h_55 a0 4 11 = some (.ref p_56) ∧ (∃ h_57, wJ K h_55 p_56 ((nI 10) * v_54) x2 = some h_57 ∧ (∃ p_58, gf h_57 a0 4 10 = some (.ref p_58) ∧ (∃ h_59, wI K h_57 p_58 v_54 (nI 1) = some h_59 ∧ (((nI 1) = nI 0 → (Post (.inl (some (.int (nI 0)))) h_59)) ∧ (¬ (nI 1) = nI 0 → (Post (.inl (some (.int (nI 1)))) h_59))))))))))))))))))) ∧ (v_32 = (nI 150) → (Post (.inl (some (.int (-nI 4)))) h_1))))))))) ∧ (¬ v_2 = nI 0 → (Post (.inl (some (.int (nI 0)))) h_1))))))) :
    mX4_put l K [.ref a0, .int x1, .long x2] h Post := by
  refine MX.enter htr (by decide) rfl (Nat.le_of_ble_eq_true rfl) ?_
  refine J_lveq (lv' := [(0, .ref a0), (1, .int x1), (2, .long x2)]) rfl ?_
  refine J_aload_n dX4_put_0 0 rfl ?_
  refine J_iload_n dX4_put_1 1 rfl ?_
  refine J_iconst (v := nI 0) dX4_put_2 (by decide) ?_
  refine J_iconst (v := nI 0) dX4_put_3 (by decide) ?_
  refine J_lload_n dX4_put_4 2 rfl ?_
  obtain ⟨b9, F⟩ := F
  refine J_callV0 (ci := 4) (n := 4) (As := [.int x1, .int (nI 0), .int (nI 0), .long x2]) (rest := []) dX4_put_5 rfl gX4_put_X4_isRefused rfl (by decide +kernel) rfl (by decide) b9 (Nat.le_of_ble_eq_true rfl) (Nat.le_refl _) (Nat.le_refl _) F kI_no (kI_kk (fun v_2 h_1 F => ?_))
  refine J_if_eq (tgt := 13) dX4_put_8 (by decide) (fun c => ?_) (fun c => ?_)
  · replace F := F.1 c
    refine J_aload_n dX4_put_13 0 rfl ?_
    obtain ⟨v_3, g9, F⟩ := F
    refine J_get (ci := 4) (k := 22) dX4_put_14 rfl in_X4_put_4 (by decide) lk_X4_put_120 g9 ?_
    refine J_if_ge (tgt := 35) dX4_put_17 (by decide) (fun c => ?_) (fun c => ?_)
    · replace F := F.1 c
      refine J_aload_n dX4_put_35 0 rfl ?_
      obtain ⟨v_4, g9, F⟩ := F
      refine J_get (ci := 4) (k := 22) dX4_put_36 rfl in_X4_put_4 (by decide) lk_X4_put_120 g9 ?_
      refine J_if_ge (tgt := 46) dX4_put_39 (by decide) (fun c => ?_) (fun c => ?_)
      · replace F := F.1 c
        refine J_iconst (v := nI 0) dX4_put_46 (by decide) ?_
        refine J_istore (lv' := [(4, .int (nI 0)), (0, .ref a0), (1, .int x1), (2, .long x2)]) dX4_put_47 (by decide) rfl ?_
        refine J_iload dX4_put_49 0 rfl ?_
        refine J_if_eq (tgt := 62) dX4_put_51 (by decide) (fun c => ?_) (fun c => ?_)
        · replace F := F.1 c
          refine J_aload_n dX4_put_62 1 rfl ?_
          obtain ⟨v_5, g9, F⟩ := F
          refine J_get (ci := 4) (k := 22) dX4_put_63 rfl in_X4_put_4 (by decide) lk_X4_put_120 g9 ?_
          refine J_istore (lv' := [(5, .int v_5), (4, .int (nI 0)), (0, .ref a0), (1, .int x1), (2, .long x2)]) dX4_put_66 (by decide) rfl ?_
          refine J_aload_n dX4_put_68 2 rfl ?_
          refine J_iload dX4_put_69 0 rfl ?_
          obtain ⟨b9, F⟩ := F
          refine J_callV0 (ci := 4) (n := 1) (As := [.int v_5]) (rest := []) dX4_put_71 rfl gX4_put_X4_touchOf rfl (by decide +kernel) rfl (by decide) b9 (Nat.le_of_ble_eq_true rfl) (Nat.le_refl _) (Nat.le_refl _) F kV_no (kV_kk (fun h_6 F => ?_))
          refine J_aload_n dX4_put_74 2 rfl ?_
          obtain ⟨p_7, g9, F⟩ := F
          refine J_get (ci := 4) (k := 11) dX4_put_75 rfl in_X4_put_4 (by decide) lk_X4_put_38 g9 ?_
          refine J_bipush (v := nI 10) dX4_put_78 (by decide) ?_
          refine J_iload dX4_put_80 0 rfl ?_
          refine J_imul dX4_put_82 ?_
          refine J_lload_n dX4_put_83 4 rfl ?_
          obtain ⟨h_8, g9, F⟩ := F
          refine J_last dX4_put_84 g9 ?_
          refine J_aload_n dX4_put_85 2 rfl ?_
          obtain ⟨p_9, g9, F⟩ := F
          refine J_get (ci := 4) (k := 10) dX4_put_86 rfl in_X4_put_4 (by decide) lk_X4_put_35 g9 ?_
          refine J_iload dX4_put_89 0 rfl ?_
          refine J_iconst (v := nI 1) dX4_put_91 (by decide) ?_
          obtain ⟨h_10, g9, F⟩ := F
          refine J_iast dX4_put_92 g9 ?_
          refine J_iload dX4_put_93 1 rfl ?_
          refine J_if_eq (tgt := 102) dX4_put_95 (by decide) (fun c => ?_) (fun c => ?_)
          · replace F := F.1 c
            refine J_iconst (v := nI 0) dX4_put_102 (by decide) ?_
            exact J_iret dX4_put_103 rfl (Nat.le_refl _) (Nat.le_refl _) F
          · replace F := F.2 c
            refine J_iconst (v := nI 1) dX4_put_98 (by decide) ?_
            refine J_goto (tgt := 103) dX4_put_99 (by decide) ?_
            exact J_iret dX4_put_103 rfl (Nat.le_refl _) (Nat.le_refl _) F
        · replace F := F.2 c
          refine J_aload_n dX4_put_54 1 rfl ?_
          refine J_iload_n dX4_put_55 2 rfl ?_
          obtain ⟨b9, F⟩ := F
          refine J_callV0 (ci := 4) (n := 1) (As := [.int x1]) (rest := []) dX4_put_56 rfl gX4_put_X4_newEntry rfl (by decide +kernel) rfl (by decide) b9 (Nat.le_of_ble_eq_true rfl) (Nat.le_refl _) (Nat.le_refl _) F kI_no (kI_kk (fun v_12 h_11 F => ?_))
          refine J_goto (tgt := 66) dX4_put_59 (by decide) ?_
          refine J_istore (lv' := [(5, .int v_12), (4, .int (nI 0)), (0, .ref a0), (1, .int x1), (2, .long x2)]) dX4_put_66 (by decide) rfl ?_
          refine J_aload_n dX4_put_68 2 rfl ?_
          refine J_iload dX4_put_69 0 rfl ?_
          obtain ⟨b9, F⟩ := F
          refine J_callV0 (ci := 4) (n := 1) (As := [.int v_12]) (rest := []) dX4_put_71 rfl gX4_put_X4_touchOf rfl (by decide +kernel) rfl (by decide) b9 (Nat.le_of_ble_eq_true rfl) (Nat.le_refl _) (Nat.le_refl _) F kV_no (kV_kk (fun h_13 F => ?_))
          refine J_aload_n dX4_put_74 2 rfl ?_
          obtain ⟨p_14, g9, F⟩ := F
          refine J_get (ci := 4) (k := 11) dX4_put_75 rfl in_X4_put_4 (by decide) lk_X4_put_38 g9 ?_
          refine J_bipush (v := nI 10) dX4_put_78 (by decide) ?_
          refine J_iload dX4_put_80 0 rfl ?_
          refine J_imul dX4_put_82 ?_
          refine J_lload_n dX4_put_83 4 rfl ?_
          obtain ⟨h_15, g9, F⟩ := F
          refine J_last dX4_put_84 g9 ?_
          refine J_aload_n dX4_put_85 2 rfl ?_
          obtain ⟨p_16, g9, F⟩ := F
          refine J_get (ci := 4) (k := 10) dX4_put_86 rfl in_X4_put_4 (by decide) lk_X4_put_35 g9 ?_
          refine J_iload dX4_put_89 0 rfl ?_
          refine J_iconst (v := nI 1) dX4_put_91 (by decide) ?_
          obtain ⟨h_17, g9, F⟩ := F
          refine J_iast dX4_put_92 g9 ?_
          refine J_iload dX4_put_93 1 rfl ?_
          refine J_if_eq (tgt := 102) dX4_put_95 (by decide) (fun c => ?_) (fun c => ?_)
          · replace F := F.1 c
            refine J_iconst (v := nI 0) dX4_put_102 (by decide) ?_
            exact J_iret dX4_put_103 rfl (Nat.le_refl _) (Nat.le_refl _) F
          · replace F := F.2 c
            refine J_iconst (v := nI 1) dX4_put_98 (by decide) ?_
            refine J_goto (tgt := 103) dX4_put_99 (by decide) ?_
            exact J_iret dX4_put_103 rfl (Nat.le_refl _) (Nat.le_refl _) F
      · replace F := F.2 c
        refine J_iconst (v := nI 1) dX4_put_42 (by decide) ?_
        refine J_goto (tgt := 47) dX4_put_43 (by decide) ?_
        refine J_istore (lv' := [(4, .int (nI 1)), (0, .ref a0), (1, .int x1), (2, .long x2)]) dX4_put_47 (by decide) rfl ?_
        refine J_iload dX4_put_49 0 rfl ?_
        refine J_if_eq (tgt := 62) dX4_put_51 (by decide) (fun c => ?_) (fun c => ?_)
        · replace F := F.1 c
          refine J_aload_n dX4_put_62 1 rfl ?_
          obtain ⟨v_18, g9, F⟩ := F
          refine J_get (ci := 4) (k := 22) dX4_put_63 rfl in_X4_put_4 (by decide) lk_X4_put_120 g9 ?_
          refine J_istore (lv' := [(5, .int v_18), (4, .int (nI 1)), (0, .ref a0), (1, .int x1), (2, .long x2)]) dX4_put_66 (by decide) rfl ?_
          refine J_aload_n dX4_put_68 2 rfl ?_
          refine J_iload dX4_put_69 0 rfl ?_
          obtain ⟨b9, F⟩ := F
          refine J_callV0 (ci := 4) (n := 1) (As := [.int v_18]) (rest := []) dX4_put_71 rfl gX4_put_X4_touchOf rfl (by decide +kernel) rfl (by decide) b9 (Nat.le_of_ble_eq_true rfl) (Nat.le_refl _) (Nat.le_refl _) F kV_no (kV_kk (fun h_19 F => ?_))
          refine J_aload_n dX4_put_74 2 rfl ?_
          obtain ⟨p_20, g9, F⟩ := F
          refine J_get (ci := 4) (k := 11) dX4_put_75 rfl in_X4_put_4 (by decide) lk_X4_put_38 g9 ?_
          refine J_bipush (v := nI 10) dX4_put_78 (by decide) ?_
          refine J_iload dX4_put_80 0 rfl ?_
          refine J_imul dX4_put_82 ?_
          refine J_lload_n dX4_put_83 4 rfl ?_
          obtain ⟨h_21, g9, F⟩ := F
          refine J_last dX4_put_84 g9 ?_
          refine J_aload_n dX4_put_85 2 rfl ?_
          obtain ⟨p_22, g9, F⟩ := F
          refine J_get (ci := 4) (k := 10) dX4_put_86 rfl in_X4_put_4 (by decide) lk_X4_put_35 g9 ?_
          refine J_iload dX4_put_89 0 rfl ?_
          refine J_iconst (v := nI 1) dX4_put_91 (by decide) ?_
          obtain ⟨h_23, g9, F⟩ := F
          refine J_iast dX4_put_92 g9 ?_
          refine J_iload dX4_put_93 1 rfl ?_
          refine J_if_eq (tgt := 102) dX4_put_95 (by decide) (fun c => ?_) (fun c => ?_)
          · replace F := F.1 c
            refine J_iconst (v := nI 0) dX4_put_102 (by decide) ?_
            exact J_iret dX4_put_103 rfl (Nat.le_refl _) (Nat.le_refl _) F
          · replace F := F.2 c
            refine J_iconst (v := nI 1) dX4_put_98 (by decide) ?_
            refine J_goto (tgt := 103) dX4_put_99 (by decide) ?_
            exact J_iret dX4_put_103 rfl (Nat.le_refl _) (Nat.le_refl _) F
        · replace F := F.2 c
          refine J_aload_n dX4_put_54 1 rfl ?_
          refine J_iload_n dX4_put_55 2 rfl ?_
          obtain ⟨b9, F⟩ := F
          refine J_callV0 (ci := 4) (n := 1) (As := [.int x1]) (rest := []) dX4_put_56 rfl gX4_put_X4_newEntry rfl (by decide +kernel) rfl (by decide) b9 (Nat.le_of_ble_eq_true rfl) (Nat.le_refl _) (Nat.le_refl _) F kI_no (kI_kk (fun v_25 h_24 F => ?_))
          refine J_goto (tgt := 66) dX4_put_59 (by decide) ?_
          refine J_istore (lv' := [(5, .int v_25), (4, .int (nI 1)), (0, .ref a0), (1, .int x1), (2, .long x2)]) dX4_put_66 (by decide) rfl ?_
          refine J_aload_n dX4_put_68 2 rfl ?_
          refine J_iload dX4_put_69 0 rfl ?_
          obtain ⟨b9, F⟩ := F
          refine J_callV0 (ci := 4) (n := 1) (As := [.int v_25]) (rest := []) dX4_put_71 rfl gX4_put_X4_touchOf rfl (by decide +kernel) rfl (by decide) b9 (Nat.le_of_ble_eq_true rfl) (Nat.le_refl _) (Nat.le_refl _) F kV_no (kV_kk (fun h_26 F => ?_))
          refine J_aload_n dX4_put_74 2 rfl ?_
          obtain ⟨p_27, g9, F⟩ := F
          refine J_get (ci := 4) (k := 11) dX4_put_75 rfl in_X4_put_4 (by decide) lk_X4_put_38 g9 ?_
          refine J_bipush (v := nI 10) dX4_put_78 (by decide) ?_
          refine J_iload dX4_put_80 0 rfl ?_
          refine J_imul dX4_put_82 ?_
          refine J_lload_n dX4_put_83 4 rfl ?_
          obtain ⟨h_28, g9, F⟩ := F
          refine J_last dX4_put_84 g9 ?_
          refine J_aload_n dX4_put_85 2 rfl ?_
          obtain ⟨p_29, g9, F⟩ := F
          refine J_get (ci := 4) (k := 10) dX4_put_86 rfl in_X4_put_4 (by decide) lk_X4_put_35 g9 ?_
          refine J_iload dX4_put_89 0 rfl ?_
          refine J_iconst (v := nI 1) dX4_put_91 (by decide) ?_
          obtain ⟨h_30, g9, F⟩ := F
          refine J_iast dX4_put_92 g9 ?_
          refine J_iload dX4_put_93 1 rfl ?_
          refine J_if_eq (tgt := 102) dX4_put_95 (by decide) (fun c => ?_) (fun c => ?_)
          · replace F := F.1 c
            refine J_iconst (v := nI 0) dX4_put_102 (by decide) ?_
            exact J_iret dX4_put_103 rfl (Nat.le_refl _) (Nat.le_refl _) F
          · replace F := F.2 c
            refine J_iconst (v := nI 1) dX4_put_98 (by decide) ?_
            refine J_goto (tgt := 103) dX4_put_99 (by decide) ?_
            exact J_iret dX4_put_103 rfl (Nat.le_refl _) (Nat.le_refl _) F
    · replace F := F.2 c
      refine J_aload_n dX4_put_20 0 rfl ?_
      obtain ⟨p_31, g9, F⟩ := F
      refine J_get (ci := 4) (k := 6) dX4_put_21 rfl in_X4_put_4 (by decide) lk_X4_put_22 g9 ?_
      refine J_iconst (v := nI 0) dX4_put_24 (by decide) ?_
      obtain ⟨v_32, g9, F⟩ := F
      refine J_iald dX4_put_25 g9 ?_
      refine J_sipush (v := nI 150) dX4_put_26 (by decide) ?_
      refine J_icmp_ne (tgt := 35) dX4_put_29 (by decide) (fun c => ?_) (fun c => ?_)
      · replace F := F.1 c
        refine J_aload_n dX4_put_35 0 rfl ?_
        obtain ⟨v_33, g9, F⟩ := F
        refine J_get (ci := 4) (k := 22) dX4_put_36 rfl in_X4_put_4 (by decide) lk_X4_put_120 g9 ?_
        refine J_if_ge (tgt := 46) dX4_put_39 (by decide) (fun c => ?_) (fun c => ?_)
        · replace F := F.1 c
          refine J_iconst (v := nI 0) dX4_put_46 (by decide) ?_
          refine J_istore (lv' := [(4, .int (nI 0)), (0, .ref a0), (1, .int x1), (2, .long x2)]) dX4_put_47 (by decide) rfl ?_
          refine J_iload dX4_put_49 0 rfl ?_
          refine J_if_eq (tgt := 62) dX4_put_51 (by decide) (fun c => ?_) (fun c => ?_)
          · replace F := F.1 c
            refine J_aload_n dX4_put_62 1 rfl ?_
            obtain ⟨v_34, g9, F⟩ := F
            refine J_get (ci := 4) (k := 22) dX4_put_63 rfl in_X4_put_4 (by decide) lk_X4_put_120 g9 ?_
            refine J_istore (lv' := [(5, .int v_34), (4, .int (nI 0)), (0, .ref a0), (1, .int x1), (2, .long x2)]) dX4_put_66 (by decide) rfl ?_
            refine J_aload_n dX4_put_68 2 rfl ?_
            refine J_iload dX4_put_69 0 rfl ?_
            obtain ⟨b9, F⟩ := F
            refine J_callV0 (ci := 4) (n := 1) (As := [.int v_34]) (rest := []) dX4_put_71 rfl gX4_put_X4_touchOf rfl (by decide +kernel) rfl (by decide) b9 (Nat.le_of_ble_eq_true rfl) (Nat.le_refl _) (Nat.le_refl _) F kV_no (kV_kk (fun h_35 F => ?_))
            refine J_aload_n dX4_put_74 2 rfl ?_
            obtain ⟨p_36, g9, F⟩ := F
            refine J_get (ci := 4) (k := 11) dX4_put_75 rfl in_X4_put_4 (by decide) lk_X4_put_38 g9 ?_
            refine J_bipush (v := nI 10) dX4_put_78 (by decide) ?_
            refine J_iload dX4_put_80 0 rfl ?_
            refine J_imul dX4_put_82 ?_
            refine J_lload_n dX4_put_83 4 rfl ?_
            obtain ⟨h_37, g9, F⟩ := F
            refine J_last dX4_put_84 g9 ?_
            refine J_aload_n dX4_put_85 2 rfl ?_
            obtain ⟨p_38, g9, F⟩ := F
            refine J_get (ci := 4) (k := 10) dX4_put_86 rfl in_X4_put_4 (by decide) lk_X4_put_35 g9 ?_
            refine J_iload dX4_put_89 0 rfl ?_
            refine J_iconst (v := nI 1) dX4_put_91 (by decide) ?_
            obtain ⟨h_39, g9, F⟩ := F
            refine J_iast dX4_put_92 g9 ?_
            refine J_iload dX4_put_93 1 rfl ?_
            refine J_if_eq (tgt := 102) dX4_put_95 (by decide) (fun c => ?_) (fun c => ?_)
            · replace F := F.1 c
              refine J_iconst (v := nI 0) dX4_put_102 (by decide) ?_
              exact J_iret dX4_put_103 rfl (Nat.le_refl _) (Nat.le_refl _) F
            · replace F := F.2 c
              refine J_iconst (v := nI 1) dX4_put_98 (by decide) ?_
              refine J_goto (tgt := 103) dX4_put_99 (by decide) ?_
              exact J_iret dX4_put_103 rfl (Nat.le_refl _) (Nat.le_refl _) F
          · replace F := F.2 c
            refine J_aload_n dX4_put_54 1 rfl ?_
            refine J_iload_n dX4_put_55 2 rfl ?_
            obtain ⟨b9, F⟩ := F
            refine J_callV0 (ci := 4) (n := 1) (As := [.int x1]) (rest := []) dX4_put_56 rfl gX4_put_X4_newEntry rfl (by decide +kernel) rfl (by decide) b9 (Nat.le_of_ble_eq_true rfl) (Nat.le_refl _) (Nat.le_refl _) F kI_no (kI_kk (fun v_41 h_40 F => ?_))
            refine J_goto (tgt := 66) dX4_put_59 (by decide) ?_
            refine J_istore (lv' := [(5, .int v_41), (4, .int (nI 0)), (0, .ref a0), (1, .int x1), (2, .long x2)]) dX4_put_66 (by decide) rfl ?_
            refine J_aload_n dX4_put_68 2 rfl ?_
            refine J_iload dX4_put_69 0 rfl ?_
            obtain ⟨b9, F⟩ := F
            refine J_callV0 (ci := 4) (n := 1) (As := [.int v_41]) (rest := []) dX4_put_71 rfl gX4_put_X4_touchOf rfl (by decide +kernel) rfl (by decide) b9 (Nat.le_of_ble_eq_true rfl) (Nat.le_refl _) (Nat.le_refl _) F kV_no (kV_kk (fun h_42 F => ?_))
            refine J_aload_n dX4_put_74 2 rfl ?_
            obtain ⟨p_43, g9, F⟩ := F
            refine J_get (ci := 4) (k := 11) dX4_put_75 rfl in_X4_put_4 (by decide) lk_X4_put_38 g9 ?_
            refine J_bipush (v := nI 10) dX4_put_78 (by decide) ?_
            refine J_iload dX4_put_80 0 rfl ?_
            refine J_imul dX4_put_82 ?_
            refine J_lload_n dX4_put_83 4 rfl ?_
            obtain ⟨h_44, g9, F⟩ := F
            refine J_last dX4_put_84 g9 ?_
            refine J_aload_n dX4_put_85 2 rfl ?_
            obtain ⟨p_45, g9, F⟩ := F
            refine J_get (ci := 4) (k := 10) dX4_put_86 rfl in_X4_put_4 (by decide) lk_X4_put_35 g9 ?_
            refine J_iload dX4_put_89 0 rfl ?_
            refine J_iconst (v := nI 1) dX4_put_91 (by decide) ?_
            obtain ⟨h_46, g9, F⟩ := F
            refine J_iast dX4_put_92 g9 ?_
            refine J_iload dX4_put_93 1 rfl ?_
            refine J_if_eq (tgt := 102) dX4_put_95 (by decide) (fun c => ?_) (fun c => ?_)
            · replace F := F.1 c
              refine J_iconst (v := nI 0) dX4_put_102 (by decide) ?_
              exact J_iret dX4_put_103 rfl (Nat.le_refl _) (Nat.le_refl _) F
            · replace F := F.2 c
              refine J_iconst (v := nI 1) dX4_put_98 (by decide) ?_
              refine J_goto (tgt := 103) dX4_put_99 (by decide) ?_
              exact J_iret dX4_put_103 rfl (Nat.le_refl _) (Nat.le_refl _) F
        · replace F := F.2 c
          refine J_iconst (v := nI 1) dX4_put_42 (by decide) ?_
          refine J_goto (tgt := 47) dX4_put_43 (by decide) ?_
          refine J_istore (lv' := [(4, .int (nI 1)), (0, .ref a0), (1, .int x1), (2, .long x2)]) dX4_put_47 (by decide) rfl ?_
          refine J_iload dX4_put_49 0 rfl ?_
          refine J_if_eq (tgt := 62) dX4_put_51 (by decide) (fun c => ?_) (fun c => ?_)
          · replace F := F.1 c
            refine J_aload_n dX4_put_62 1 rfl ?_
            obtain ⟨v_47, g9, F⟩ := F
            refine J_get (ci := 4) (k := 22) dX4_put_63 rfl in_X4_put_4 (by decide) lk_X4_put_120 g9 ?_
            refine J_istore (lv' := [(5, .int v_47), (4, .int (nI 1)), (0, .ref a0), (1, .int x1), (2, .long x2)]) dX4_put_66 (by decide) rfl ?_
            refine J_aload_n dX4_put_68 2 rfl ?_
            refine J_iload dX4_put_69 0 rfl ?_
            obtain ⟨b9, F⟩ := F
            refine J_callV0 (ci := 4) (n := 1) (As := [.int v_47]) (rest := []) dX4_put_71 rfl gX4_put_X4_touchOf rfl (by decide +kernel) rfl (by decide) b9 (Nat.le_of_ble_eq_true rfl) (Nat.le_refl _) (Nat.le_refl _) F kV_no (kV_kk (fun h_48 F => ?_))
            refine J_aload_n dX4_put_74 2 rfl ?_
            obtain ⟨p_49, g9, F⟩ := F
            refine J_get (ci := 4) (k := 11) dX4_put_75 rfl in_X4_put_4 (by decide) lk_X4_put_38 g9 ?_
            refine J_bipush (v := nI 10) dX4_put_78 (by decide) ?_
            refine J_iload dX4_put_80 0 rfl ?_
            refine J_imul dX4_put_82 ?_
            refine J_lload_n dX4_put_83 4 rfl ?_
            obtain ⟨h_50, g9, F⟩ := F
            refine J_last dX4_put_84 g9 ?_
            refine J_aload_n dX4_put_85 2 rfl ?_
            obtain ⟨p_51, g9, F⟩ := F
            refine J_get (ci := 4) (k := 10) dX4_put_86 rfl in_X4_put_4 (by decide) lk_X4_put_35 g9 ?_
            refine J_iload dX4_put_89 0 rfl ?_
            refine J_iconst (v := nI 1) dX4_put_91 (by decide) ?_
            obtain ⟨h_52, g9, F⟩ := F
            refine J_iast dX4_put_92 g9 ?_
            refine J_iload dX4_put_93 1 rfl ?_
            refine J_if_eq (tgt := 102) dX4_put_95 (by decide) (fun c => ?_) (fun c => ?_)
            · replace F := F.1 c
              refine J_iconst (v := nI 0) dX4_put_102 (by decide) ?_
              exact J_iret dX4_put_103 rfl (Nat.le_refl _) (Nat.le_refl _) F
            · replace F := F.2 c
              refine J_iconst (v := nI 1) dX4_put_98 (by decide) ?_
              refine J_goto (tgt := 103) dX4_put_99 (by decide) ?_
              exact J_iret dX4_put_103 rfl (Nat.le_refl _) (Nat.le_refl _) F
          · replace F := F.2 c
            refine J_aload_n dX4_put_54 1 rfl ?_
            refine J_iload_n dX4_put_55 2 rfl ?_
            obtain ⟨b9, F⟩ := F
            refine J_callV0 (ci := 4) (n := 1) (As := [.int x1]) (rest := []) dX4_put_56 rfl gX4_put_X4_newEntry rfl (by decide +kernel) rfl (by decide) b9 (Nat.le_of_ble_eq_true rfl) (Nat.le_refl _) (Nat.le_refl _) F kI_no (kI_kk (fun v_54 h_53 F => ?_))
            refine J_goto (tgt := 66) dX4_put_59 (by decide) ?_
            refine J_istore (lv' := [(5, .int v_54), (4, .int (nI 1)), (0, .ref a0), (1, .int x1), (2, .long x2)]) dX4_put_66 (by decide) rfl ?_
            refine J_aload_n dX4_put_68 2 rfl ?_
            refine J_iload dX4_put_69 0 rfl ?_
            obtain ⟨b9, F⟩ := F
            refine J_callV0 (ci := 4) (n := 1) (As := [.int v_54]) (rest := []) dX4_put_71 rfl gX4_put_X4_touchOf rfl (by decide +kernel) rfl (by decide) b9 (Nat.le_of_ble_eq_true rfl) (Nat.le_refl _) (Nat.le_refl _) F kV_no (kV_kk (fun h_55 F => ?_))
            refine J_aload_n dX4_put_74 2 rfl ?_
            obtain ⟨p_56, g9, F⟩ := F
            refine J_get (ci := 4) (k := 11) dX4_put_75 rfl in_X4_put_4 (by decide) lk_X4_put_38 g9 ?_
            refine J_bipush (v := nI 10) dX4_put_78 (by decide) ?_
            refine J_iload dX4_put_80 0 rfl ?_
            refine J_imul dX4_put_82 ?_
            refine J_lload_n dX4_put_83 4 rfl ?_
            obtain ⟨h_57, g9, F⟩ := F
            refine J_last dX4_put_84 g9 ?_
            refine J_aload_n dX4_put_85 2 rfl ?_
            obtain ⟨p_58, g9, F⟩ := F
            refine J_get (ci := 4) (k := 10) dX4_put_86 rfl in_X4_put_4 (by decide) lk_X4_put_35 g9 ?_
            refine J_iload dX4_put_89 0 rfl ?_
            refine J_iconst (v := nI 1) dX4_put_91 (by decide) ?_
            obtain ⟨h_59, g9, F⟩ := F
            refine J_iast dX4_put_92 g9 ?_
            refine J_iload dX4_put_93 1 rfl ?_
            refine J_if_eq (tgt := 102) dX4_put_95 (by decide) (fun c => ?_) (fun c => ?_)
            · replace F := F.1 c
              refine J_iconst (v := nI 0) dX4_put_102 (by decide) ?_
              exact J_iret dX4_put_103 rfl (Nat.le_refl _) (Nat.le_refl _) F
            · replace F := F.2 c
              refine J_iconst (v := nI 1) dX4_put_98 (by decide) ?_
              refine J_goto (tgt := 103) dX4_put_99 (by decide) ?_
              exact J_iret dX4_put_103 rfl (Nat.le_refl _) (Nat.le_refl _) F
      · replace F := F.2 c
        refine J_bipush (v := -nI 4) dX4_put_32 (by decide) ?_
        exact J_iret dX4_put_34 rfl (Nat.le_refl _) (Nat.le_refl _) F
  · replace F := F.2 c
    refine J_iconst (v := nI 0) dX4_put_11 (by decide) ?_
    exact J_iret dX4_put_12 rfl (Nat.le_refl _) (Nat.le_refl _) F

abbrev mX4_remove (l : Launch) (K : Kx) (As : List Value) (h : Hp) (Post : Rs → Hp → Prop) : Prop := MX l K yX4_remove wsX4_remove 4 86 0 0 As h Post
set_option maxRecDepth 100000 in
set_option maxHeartbeats 4000000 in
theorem fX4_remove {l : Launch} {K : Kx} {a0 : Nat} {x1 : Int32} {x2 : Int64} {h : Hp} {Post : Rs → Hp → Prop} (htr : l.stackTraces = false)
    (F : ((∃ fs, h a0 = some (xO 4 fs)) ∧ mX4_isRefused l K [.ref a0, .int x1, .int (nI 2), .int (nI 2), .long (lN 0)] h (kI (fun v_2 h_1 => ((¬ v_2 = nI 0 → (Post (.inl (some (.int (nI 0)))) h_1)) ∧ (v_2 = nI 0 → (∃ v_3, gf h_1 a0 4 22 = some (.int v_3) ∧ ((∃ fs, h_1 a0 = some (xO 4 fs)) ∧ mX4_has l K [.ref a0, .int v_3, .long x2] h_1 (kI (fun v_5 h_4 => ((¬ v_5 = nI 0 → (∃ p_6, gf h_4 a0 4 10 = some (.ref p_6) ∧ (∃ v_7, gf h_4 a0 4 22 = some (.int v_7) ∧ (∃ v_8, aI K h_4 p_6 v_7 = some v_8 ∧ ((¬ v_8 = (nI 1) → (∃ v_9, gf h_4 a0 4 22 = some (.int v_9) ∧ ((∃ fs, h_4 a0 = some (xO 4 fs)) ∧ mX4_touchOf l K [.ref a0, .int v_9] h_4 (kV (fun h_10 => (∃ v_11, gf h_10 a0 4 22 = some (.int v_11) ∧ ((∃ fs, h_10 a0 = some (xO 4 fs)) ∧ mX4_placeOf l K [.ref a0, .int v_11, .long x2] h_10 (kI (fun v_13 h_12 => (∀ X_16 : Int32 → Hp → Prop, (∀ (i_14 : Int32) (h_15 : Hp), ((∃ p_17, gf h_15 a0 4 10 = some (.ref p_17) ∧ (∃ v_18, gf h_15 a0 4 22 = some (.int v_18) ∧ (∃ v_19, aI K h_15 p_17 v_18 = some v_19 ∧ ((v_19 ≤ (i_14 + (nI 1)) → (∃ p_20, gf h_15 a0 4 10 = some (.ref p_20) ∧ (∃ v_21, gf h_15 a0 4 22 = some (.int v_21) ∧ (∃ v_22, aI K h_15 p_20 v_21 = some v_22 ∧ (∃ h_23, wI K h_15 p_20 v_21 (v_22 - (nI 1)) = some h_23 ∧ (Post (.inl (some (.int (nI 1)))) h_23)))))) ∧ (¬ v_19 ≤ (i_14 + (nI 1)) → (∃ p_24, gf h_15 a0 4 11 = some (.ref p_24) ∧ (∃ v_25, gf h_15 a0 4 22 = some (.int v_25) ∧ (∃ p_26, gf h_15 a0 4 11 = some (.ref p_26) ∧ (∃ v_27, gf h_15 a0 4 22 = some (.int v_27) ∧ (∃ u_28, aJ K h_15 p_26 ((((nI 10) * v_27) + i_14) + (nI 1)) = some u_28 ∧ (∃ h_29, wJ K h_15 p_24 (((nI 10) * v_25) + i_14) u_28 = some h_29 ∧ (∃ p_30, gf h_29 a0 4 12 = some (.ref p_30) ∧ (∃ v_31, gf h_29 a0 4 22 = some (.int v_31) ∧ (∃ p_32, gf h_29 a0 4 12 = some (.ref p_32) ∧ (∃ v_33, gf h_29 a0 4 22 = some (.int v_33) ∧ (∃ u_34, aJ K h_29 p_32 ((((nI 10) * v_33) + i_14) + (nI 1)) = some u_34 ∧ (∃ h_35, wJ K h_29 p_30 (((nI 10) * v_31) + i_14) u_34 = some h_35 ∧ X_16 (i_14 + nI 1) h_35)))))))))))))))))) → X_16 i_14 h_15) → X_16 v_13 h_12)))))))))) ∧ (v_8 = (nI 1) → (∃ v_36, gf h_4 a0 4 22 = some (.int v_36) ∧ ((∃ fs, h_4 a0 = some (xO 4 fs)) ∧ mX4_dropEntry l K [.ref a0, .int v_36] h_4 (kV (fun h_37 => (Post (.inl (some (.int (nI 1)))) h_37))))))))))) ∧ (v_5 = nI 0 → (Post (.inl (some (.int (nI 0)))) h_4))))))))))))) :
    mX4_remove l K [.ref a0, .int x1, .long x2] h Post := by
  refine MX.enter htr (by decide) rfl (Nat.le_of_ble_eq_true rfl) ?_
  refine J_lveq (lv' := [(0, .ref a0), (1, .int x1), (2, .long x2)]) rfl ?_
  refine J_aload_n dX4_remove_0 0 rfl ?_
  refine J_iload_n dX4_remove_1 1 rfl ?_
  refine J_iconst (v := nI 2) dX4_remove_2 (by decide) ?_
  refine J_iconst (v := nI 2) dX4_remove_3 (by decide) ?_
  refine J_lconst (v := lN 0) dX4_remove_4 rfl ?_
  obtain ⟨b9, F⟩ := F
  refine J_callV0 (ci := 4) (n := 4) (As := [.int x1, .int (nI 2), .int (nI 2), .long (lN 0)]) (rest := []) dX4_remove_5 rfl gX4_remove_X4_isRefused rfl (by decide +kernel) rfl (by decide) b9 (Nat.le_of_ble_eq_true rfl) (Nat.le_refl _) (Nat.le_refl _) F kI_no (kI_kk (fun v_2 h_1 F => ?_))
  refine J_if_ne (tgt := 23) dX4_remove_8 (by decide) (fun c => ?_) (fun c => ?_)
  · replace F := F.1 c
    refine J_iconst (v := nI 0) dX4_remove_23 (by decide) ?_
    exact J_zret dX4_remove_24 rfl (by decide) (Nat.le_refl _) (Nat.le_refl _) F
  · replace F := F.2 c
    refine J_aload_n dX4_remove_11 0 rfl ?_
    refine J_aload_n dX4_remove_12 0 rfl ?_
    obtain ⟨v_3, g9, F⟩ := F
    refine J_get (ci := 4) (k := 22) dX4_remove_13 rfl in_X4_remove_4 (by decide) lk_X4_remove_120 g9 ?_
    refine J_lload_n dX4_remove_16 2 rfl ?_
    obtain ⟨b9, F⟩ := F
    refine J_callV0 (ci := 4) (n := 2) (As := [.int v_3, .long x2]) (rest := []) dX4_remove_17 rfl gX4_remove_X4_has rfl (by decide +kernel) rfl (by decide) b9 (Nat.le_of_ble_eq_true rfl) (Nat.le_refl _) (Nat.le_refl _) F kI_no (kI_kk (fun v_5 h_4 F => ?_))
    refine J_if_ne (tgt := 25) dX4_remove_20 (by decide) (fun c => ?_) (fun c => ?_)
    · replace F := F.1 c
      refine J_aload_n dX4_remove_25 0 rfl ?_
      obtain ⟨p_6, g9, F⟩ := F
      refine J_get (ci := 4) (k := 10) dX4_remove_26 rfl in_X4_remove_4 (by decide) lk_X4_remove_35 g9 ?_
      refine J_aload_n dX4_remove_29 0 rfl ?_
      obtain ⟨v_7, g9, F⟩ := F
      refine J_get (ci := 4) (k := 22) dX4_remove_30 rfl in_X4_remove_4 (by decide) lk_X4_remove_120 g9 ?_
      obtain ⟨v_8, g9, F⟩ := F
      refine J_iald dX4_remove_33 g9 ?_
      refine J_iconst (v := nI 1) dX4_remove_34 (by decide) ?_
      refine J_icmp_ne (tgt := 48) dX4_remove_35 (by decide) (fun c => ?_) (fun c => ?_)
      · replace F := F.1 c
        refine J_aload_n dX4_remove_48 0 rfl ?_
        refine J_aload_n dX4_remove_49 0 rfl ?_
        obtain ⟨v_9, g9, F⟩ := F
        refine J_get (ci := 4) (k := 22) dX4_remove_50 rfl in_X4_remove_4 (by decide) lk_X4_remove_120 g9 ?_
        obtain ⟨b9, F⟩ := F
        refine J_callV0 (ci := 4) (n := 1) (As := [.int v_9]) (rest := []) dX4_remove_53 rfl gX4_remove_X4_touchOf rfl (by decide +kernel) rfl (by decide) b9 (Nat.le_of_ble_eq_true rfl) (Nat.le_refl _) (Nat.le_refl _) F kV_no (kV_kk (fun h_10 F => ?_))
        refine J_aload_n dX4_remove_56 0 rfl ?_
        refine J_aload_n dX4_remove_57 0 rfl ?_
        obtain ⟨v_11, g9, F⟩ := F
        refine J_get (ci := 4) (k := 22) dX4_remove_58 rfl in_X4_remove_4 (by decide) lk_X4_remove_120 g9 ?_
        refine J_lload_n dX4_remove_61 2 rfl ?_
        obtain ⟨b9, F⟩ := F
        refine J_callV0 (ci := 4) (n := 2) (As := [.int v_11, .long x2]) (rest := []) dX4_remove_62 rfl gX4_remove_X4_placeOf rfl (by decide +kernel) rfl (by decide) b9 (Nat.le_of_ble_eq_true rfl) (Nat.le_refl _) (Nat.le_refl _) F kI_no (kI_kk (fun v_13 h_12 F => ?_))
        refine J_istore (lv' := [(4, .int v_13), (0, .ref a0), (1, .int x1), (2, .long x2)]) dX4_remove_65 (by decide) rfl ?_
        refine J_sub [1, 0] rfl ?_
        refine F (fun (i_14 : Int32) (h_15 : Hp) => J l K yX4_remove.cls cX4_remove 5 (some .boolean) wsX4_remove [] yX4_remove.name 4 86 0 0 (QM K 0 0 Post) 67 [] [(0, .ref a0), (4, .int i_14)] h_15 ((((0 + 0) + 0) + 0) + 0) ((((0 + 0) + 0) + 0) + 0)) ?_
        intro i_14 h_15 F
        refine J_iload dX4_remove_67 1 rfl ?_
        refine J_iconst (v := nI 1) dX4_remove_69 (by decide) ?_
        refine J_iadd dX4_remove_70 ?_
        refine J_aload_n dX4_remove_71 0 rfl ?_
        obtain ⟨p_17, g9, F⟩ := F
        refine J_get (ci := 4) (k := 10) dX4_remove_72 rfl in_X4_remove_4 (by decide) lk_X4_remove_35 g9 ?_
        refine J_aload_n dX4_remove_75 0 rfl ?_
        obtain ⟨v_18, g9, F⟩ := F
        refine J_get (ci := 4) (k := 22) dX4_remove_76 rfl in_X4_remove_4 (by decide) lk_X4_remove_120 g9 ?_
        obtain ⟨v_19, g9, F⟩ := F
        refine J_iald dX4_remove_79 g9 ?_
        refine J_icmp_ge (tgt := 153) dX4_remove_80 (by decide) (fun c => ?_) (fun c => ?_)
        · replace F := F.1 c
          refine J_aload_n dX4_remove_153 0 rfl ?_
          obtain ⟨p_20, g9, F⟩ := F
          refine J_get (ci := 4) (k := 10) dX4_remove_154 rfl in_X4_remove_4 (by decide) lk_X4_remove_35 g9 ?_
          refine J_aload_n dX4_remove_157 0 rfl ?_
          obtain ⟨v_21, g9, F⟩ := F
          refine J_get (ci := 4) (k := 22) dX4_remove_158 rfl in_X4_remove_4 (by decide) lk_X4_remove_120 g9 ?_
          refine J_dup2 dX4_remove_161 rfl rfl ?_
          obtain ⟨v_22, g9, F⟩ := F
          refine J_iald dX4_remove_162 g9 ?_
          refine J_iconst (v := nI 1) dX4_remove_163 (by decide) ?_
          refine J_isub dX4_remove_164 ?_
          obtain ⟨h_23, g9, F⟩ := F
          refine J_iast dX4_remove_165 g9 ?_
          refine J_iconst (v := nI 1) dX4_remove_166 (by decide) ?_
          exact J_zret dX4_remove_167 rfl (by decide) (Nat.le_refl _) (Nat.le_refl _) F
        · replace F := F.2 c
          refine J_aload_n dX4_remove_83 0 rfl ?_
          obtain ⟨p_24, g9, F⟩ := F
          refine J_get (ci := 4) (k := 11) dX4_remove_84 rfl in_X4_remove_4 (by decide) lk_X4_remove_38 g9 ?_
          refine J_bipush (v := nI 10) dX4_remove_87 (by decide) ?_
          refine J_aload_n dX4_remove_89 0 rfl ?_
          obtain ⟨v_25, g9, F⟩ := F
          refine J_get (ci := 4) (k := 22) dX4_remove_90 rfl in_X4_remove_4 (by decide) lk_X4_remove_120 g9 ?_
          refine J_imul dX4_remove_93 ?_
          refine J_iload dX4_remove_94 1 rfl ?_
          refine J_iadd dX4_remove_96 ?_
          refine J_aload_n dX4_remove_97 0 rfl ?_
          obtain ⟨p_26, g9, F⟩ := F
          refine J_get (ci := 4) (k := 11) dX4_remove_98 rfl in_X4_remove_4 (by decide) lk_X4_remove_38 g9 ?_
          refine J_bipush (v := nI 10) dX4_remove_101 (by decide) ?_
          refine J_aload_n dX4_remove_103 0 rfl ?_
          obtain ⟨v_27, g9, F⟩ := F
          refine J_get (ci := 4) (k := 22) dX4_remove_104 rfl in_X4_remove_4 (by decide) lk_X4_remove_120 g9 ?_
          refine J_imul dX4_remove_107 ?_
          refine J_iload dX4_remove_108 1 rfl ?_
          refine J_iadd dX4_remove_110 ?_
          refine J_iconst (v := nI 1) dX4_remove_111 (by decide) ?_
          refine J_iadd dX4_remove_112 ?_
          obtain ⟨u_28, g9, F⟩ := F
          refine J_lald dX4_remove_113 g9 ?_
          obtain ⟨h_29, g9, F⟩ := F
          refine J_last dX4_remove_114 g9 ?_
          refine J_aload_n dX4_remove_115 0 rfl ?_
          obtain ⟨p_30, g9, F⟩ := F
          refine J_get (ci := 4) (k := 12) dX4_remove_116 rfl in_X4_remove_4 (by decide) lk_X4_remove_41 g9 ?_
          refine J_bipush (v := nI 10) dX4_remove_119 (by decide) ?_
          refine J_aload_n dX4_remove_121 0 rfl ?_
          obtain ⟨v_31, g9, F⟩ := F
          refine J_get (ci := 4) (k := 22) dX4_remove_122 rfl in_X4_remove_4 (by decide) lk_X4_remove_120 g9 ?_
          refine J_imul dX4_remove_125 ?_
          refine J_iload dX4_remove_126 1 rfl ?_
          refine J_iadd dX4_remove_128 ?_
          refine J_aload_n dX4_remove_129 0 rfl ?_
          obtain ⟨p_32, g9, F⟩ := F
          refine J_get (ci := 4) (k := 12) dX4_remove_130 rfl in_X4_remove_4 (by decide) lk_X4_remove_41 g9 ?_
          refine J_bipush (v := nI 10) dX4_remove_133 (by decide) ?_
          refine J_aload_n dX4_remove_135 0 rfl ?_
          obtain ⟨v_33, g9, F⟩ := F
          refine J_get (ci := 4) (k := 22) dX4_remove_136 rfl in_X4_remove_4 (by decide) lk_X4_remove_120 g9 ?_
          refine J_imul dX4_remove_139 ?_
          refine J_iload dX4_remove_140 1 rfl ?_
          refine J_iadd dX4_remove_142 ?_
          refine J_iconst (v := nI 1) dX4_remove_143 (by decide) ?_
          refine J_iadd dX4_remove_144 ?_
          obtain ⟨u_34, g9, F⟩ := F
          refine J_lald dX4_remove_145 g9 ?_
          obtain ⟨h_35, g9, F⟩ := F
          refine J_last dX4_remove_146 g9 ?_
          refine J_iinc (v := i_14 + nI 1) (lv' := [(4, .int (i_14 + nI 1)), (0, .ref a0)]) dX4_remove_147 1 rfl rfl (by decide) rfl ?_
          refine J_goto (tgt := 67) dX4_remove_150 (by decide) ?_
          exact J_sub [1, 0] rfl F
      · replace F := F.2 c
        refine J_aload_n dX4_remove_38 0 rfl ?_
        refine J_aload_n dX4_remove_39 0 rfl ?_
        obtain ⟨v_36, g9, F⟩ := F
        refine J_get (ci := 4) (k := 22) dX4_remove_40 rfl in_X4_remove_4 (by decide) lk_X4_remove_120 g9 ?_
        obtain ⟨b9, F⟩ := F
        refine J_callV0 (ci := 4) (n := 1) (As := [.int v_36]) (rest := []) dX4_remove_43 rfl gX4_remove_X4_dropEntry rfl (by decide +kernel) rfl (by decide) b9 (Nat.le_of_ble_eq_true rfl) (Nat.le_refl _) (Nat.le_refl _) F kV_no (kV_kk (fun h_37 F => ?_))
        refine J_iconst (v := nI 1) dX4_remove_46 (by decide) ?_
        exact J_zret dX4_remove_47 rfl (by decide) (Nat.le_refl _) (Nat.le_refl _) F
    · replace F := F.2 c
      refine J_iconst (v := nI 0) dX4_remove_23 (by decide) ?_
      exact J_zret dX4_remove_24 rfl (by decide) (Nat.le_refl _) (Nat.le_refl _) F

abbrev mX4_restore (l : Launch) (K : Kx) (As : List Value) (h : Hp) (Post : Rs → Hp → Prop) : Prop := MX l K yX4_restore wsX4_restore 2 46 0 0 As h Post
set_option maxRecDepth 100000 in
set_option maxHeartbeats 4000000 in
theorem fX4_restore {l : Launch} {K : Kx} {a0 : Nat} {x1 : Int32} {h : Hp} {Post : Rs → Hp → Prop} (htr : l.stackTraces = false)
    (F : (∃ h_1, pf h a0 4 0 (.int (nI 0)) = some h_1 ∧ ((∃ fs, h_1 a0 = some (xO 4 fs)) ∧ mX4_copyOf l K [.ref a0, .int x1] h_1 (kI (fun v_3 h_2 => ((¬ v_3 = nI 0 → ((∃ fs, h_2 a0 = some (xO 4 fs)) ∧ mX4_copyAll l K [.ref a0, .int v_3, .int (nI 0)] h_2 (kV (fun h_4 => (∀ X_7 : Int32 → Hp → Prop, (∀ (i_5 : Int32) (h_6 : Hp), ((∃ p_8, gf h_6 a0 4 5 = some (.ref p_8) ∧ (∃ v_9, aI K h_6 p_8 v_3 = some v_9 ∧ ((v_9 ≤ i_5 → (∃ p_10, gf h_6 a0 4 6 = some (.ref p_10) ∧ (∃ v_11, aI K h_6 p_10 (nI 0) = some v_11 ∧ (Post (.inl (some (.int v_11))) h_6)))) ∧ (¬ v_9 ≤ i_5 → (∃ p_12, gf h_6 a0 4 3 = some (.ref p_12) ∧ (∃ p_13, gf h_6 a0 4 3 = some (.ref p_13) ∧ (∃ v_14, aI K h_6 p_13 (((nI 8) * v_3) + i_5) = some v_14 ∧ (∃ h_15, wI K h_6 p_12 i_5 v_14 = some h_15 ∧ (∃ p_16, gf h_15 a0 4 4 = some (.ref p_16) ∧ (∃ p_17, gf h_15 a0 4 4 = some (.ref p_17) ∧ (∃ v_18, aI K h_15 p_17 (((nI 8) * v_3) + i_5) = some v_18 ∧ (∃ h_19, wI K h_15 p_16 i_5 v_18 = some h_19 ∧ X_7 (i_5 + nI 1) h_19))))))))))))) → X_7 i_5 h_6) → X_7 (nI 0) h_4))))) ∧ (v_3 = nI 0 → ((∃ fs, h_2 a0 = some (xO 4 fs)) ∧ mX4_fails l K [.ref a0, .int (nI 1)] h_2 (kI (fun v_21 h_20 => (Post (.inl (some (.int v_21))) h_20))))))))))) :
    mX4_restore l K [.ref a0, .int x1] h Post := by
  refine MX.enter htr (by decide) rfl (Nat.le_of_ble_eq_true rfl) ?_
  refine J_lveq (lv' := [(0, .ref a0), (1, .int x1)]) rfl ?_
  refine J_aload_n dX4_restore_0 0 rfl ?_
  refine J_iconst (v := nI 0) dX4_restore_1 (by decide) ?_
  obtain ⟨h_1, g9, F⟩ := F
  refine J_put (ci := 4) (k := 0) dX4_restore_2 rfl in_X4_restore_4 tyX4 tyX4_ok nmX4 (by decide) lk_X4_restore_58 rfl rfl rfl rfl g9 ?_
  refine J_aload_n dX4_restore_5 0 rfl ?_
  refine J_iload_n dX4_restore_6 1 rfl ?_
  obtain ⟨b9, F⟩ := F
  refine J_callV0 (ci := 4) (n := 1) (As := [.int x1]) (rest := []) dX4_restore_7 rfl gX4_restore_X4_copyOf rfl (by decide +kernel) rfl (by decide) b9 (Nat.le_of_ble_eq_true rfl) (Nat.le_refl _) (Nat.le_refl _) F kI_no (kI_kk (fun v_3 h_2 F => ?_))
  refine J_istore_n (lv' := [(2, .int v_3), (0, .ref a0), (1, .int x1)]) dX4_restore_10 rfl (by decide) rfl ?_
  refine J_iload_n dX4_restore_11 0 rfl ?_
  refine J_if_ne (tgt := 21) dX4_restore_12 (by decide) (fun c => ?_) (fun c => ?_)
  · replace F := F.1 c
    refine J_aload_n dX4_restore_21 1 rfl ?_
    refine J_iload_n dX4_restore_22 0 rfl ?_
    refine J_iconst (v := nI 0) dX4_restore_23 (by decide) ?_
    obtain ⟨b9, F⟩ := F
    refine J_callV0 (ci := 4) (n := 2) (As := [.int v_3, .int (nI 0)]) (rest := []) dX4_restore_24 rfl gX4_restore_X4_copyAll rfl (by decide +kernel) rfl (by decide) b9 (Nat.le_of_ble_eq_true rfl) (Nat.le_refl _) (Nat.le_refl _) F kV_no (kV_kk (fun h_4 F => ?_))
    refine J_iconst (v := nI 0) dX4_restore_27 (by decide) ?_
    refine J_istore_n (lv' := [(3, .int (nI 0)), (2, .int v_3), (0, .ref a0), (1, .int x1)]) dX4_restore_28 rfl (by decide) rfl ?_
    refine J_sub [2, 1, 0] rfl ?_
    refine F (fun (i_5 : Int32) (h_6 : Hp) => J l K yX4_restore.cls cX4_restore 4 (some .int) wsX4_restore [] yX4_restore.name 2 46 0 0 (QM K 0 0 Post) 29 [] [(0, .ref a0), (2, .int v_3), (3, .int i_5)] h_6 ((0 + 0) + 0) ((0 + 0) + 0)) ?_
    intro i_5 h_6 F
    refine J_iload_n dX4_restore_29 2 rfl ?_
    refine J_aload_n dX4_restore_30 0 rfl ?_
    obtain ⟨p_8, g9, F⟩ := F
    refine J_get (ci := 4) (k := 5) dX4_restore_31 rfl in_X4_restore_4 (by decide) lk_X4_restore_19 g9 ?_
    refine J_iload_n dX4_restore_34 1 rfl ?_
    obtain ⟨v_9, g9, F⟩ := F
    refine J_iald dX4_restore_35 g9 ?_
    refine J_icmp_ge (tgt := 79) dX4_restore_36 (by decide) (fun c => ?_) (fun c => ?_)
    · replace F := F.1 c
      refine J_aload_n dX4_restore_79 0 rfl ?_
      obtain ⟨p_10, g9, F⟩ := F
      refine J_get (ci := 4) (k := 6) dX4_restore_80 rfl in_X4_restore_4 (by decide) lk_X4_restore_22 g9 ?_
      refine J_iconst (v := nI 0) dX4_restore_83 (by decide) ?_
      obtain ⟨v_11, g9, F⟩ := F
      refine J_iald dX4_restore_84 g9 ?_
      exact J_iret dX4_restore_85 rfl (Nat.le_refl _) (Nat.le_refl _) F
    · replace F := F.2 c
      refine J_aload_n dX4_restore_39 0 rfl ?_
      obtain ⟨p_12, g9, F⟩ := F
      refine J_get (ci := 4) (k := 3) dX4_restore_40 rfl in_X4_restore_4 (by decide) lk_X4_restore_13 g9 ?_
      refine J_iload_n dX4_restore_43 2 rfl ?_
      refine J_aload_n dX4_restore_44 0 rfl ?_
      obtain ⟨p_13, g9, F⟩ := F
      refine J_get (ci := 4) (k := 3) dX4_restore_45 rfl in_X4_restore_4 (by decide) lk_X4_restore_13 g9 ?_
      refine J_bipush (v := nI 8) dX4_restore_48 (by decide) ?_
      refine J_iload_n dX4_restore_50 1 rfl ?_
      refine J_imul dX4_restore_51 ?_
      refine J_iload_n dX4_restore_52 2 rfl ?_
      refine J_iadd dX4_restore_53 ?_
      obtain ⟨v_14, g9, F⟩ := F
      refine J_iald dX4_restore_54 g9 ?_
      obtain ⟨h_15, g9, F⟩ := F
      refine J_iast dX4_restore_55 g9 ?_
      refine J_aload_n dX4_restore_56 0 rfl ?_
      obtain ⟨p_16, g9, F⟩ := F
      refine J_get (ci := 4) (k := 4) dX4_restore_57 rfl in_X4_restore_4 (by decide) lk_X4_restore_16 g9 ?_
      refine J_iload_n dX4_restore_60 2 rfl ?_
      refine J_aload_n dX4_restore_61 0 rfl ?_
      obtain ⟨p_17, g9, F⟩ := F
      refine J_get (ci := 4) (k := 4) dX4_restore_62 rfl in_X4_restore_4 (by decide) lk_X4_restore_16 g9 ?_
      refine J_bipush (v := nI 8) dX4_restore_65 (by decide) ?_
      refine J_iload_n dX4_restore_67 1 rfl ?_
      refine J_imul dX4_restore_68 ?_
      refine J_iload_n dX4_restore_69 2 rfl ?_
      refine J_iadd dX4_restore_70 ?_
      obtain ⟨v_18, g9, F⟩ := F
      refine J_iald dX4_restore_71 g9 ?_
      obtain ⟨h_19, g9, F⟩ := F
      refine J_iast dX4_restore_72 g9 ?_
      refine J_iinc (v := i_5 + nI 1) (lv' := [(3, .int (i_5 + nI 1)), (0, .ref a0), (2, .int v_3)]) dX4_restore_73 2 rfl rfl (by decide) rfl ?_
      refine J_goto (tgt := 29) dX4_restore_76 (by decide) ?_
      exact J_sub [1, 2, 0] rfl F
  · replace F := F.2 c
    refine J_aload_n dX4_restore_15 1 rfl ?_
    refine J_iconst (v := nI 1) dX4_restore_16 (by decide) ?_
    obtain ⟨b9, F⟩ := F
    refine J_callV0 (ci := 4) (n := 1) (As := [.int (nI 1)]) (rest := []) dX4_restore_17 rfl gX4_restore_X4_fails rfl (by decide +kernel) rfl (by decide) b9 (Nat.le_of_ble_eq_true rfl) (Nat.le_refl _) (Nat.le_refl _) F kI_no (kI_kk (fun v_21 h_20 F => ?_))
    exact J_iret dX4_restore_20 rfl (Nat.le_refl _) (Nat.le_refl _) F

abbrev mX4_set (l : Launch) (K : Kx) (As : List Value) (h : Hp) (Post : Rs → Hp → Prop) : Prop := MX l K yX4_set wsX4_set 3 72 0 0 As h Post
set_option maxRecDepth 100000 in
set_option maxHeartbeats 4000000 in
theorem fX4_set {l : Launch} {K : Kx} {a0 : Nat} {x1 : Int32} {x2 : Int64} {x3 : Int64} {h : Hp} {Post : Rs → Hp → Prop} (htr : l.stackTraces = false)
    (F : ((∃ fs, h a0 = some (xO 4 fs)) ∧ mX4_isRefused l K [.ref a0, .int x1, .int (nI 2), .int (nI 2), .long x3] h (kI (fun v_2 h_1 => ((v_2 = nI 0 → (∃ v_3, gf h_1 a0 4 22 = some (.int v_3) ∧ ((∃ fs, h_1 a0 = some (xO 4 fs)) ∧ mX4_has l K [.ref a0, .int v_3, .long x2] h_1 (kI (fun v_5 h_4 => ((¬ v_5 = nI 0 → (∃ v_6, gf h_4 a0 4 22 = some (.int v_6) ∧ ((nI 0 ≤ v_6 → (∃ v_7, gf h_4 a0 4 22 = some (.int v_7) ∧ ((∃ fs, h_4 a0 = some (xO 4 fs)) ∧ mX4_touchOf l K [.ref a0, .int v_7] h_4 (kV (fun h_8 => ((∃ fs, h_8 a0 = some (xO 4 fs)) ∧ mX4_placeOf l K [.ref a0, .int v_7, .long x2] h_8 (kI (fun v_10 h_9 => ((¬ v_5 = nI 0 → (∃ p_11, gf h_9 a0 4 11 = some (.ref p_11) ∧ (∃ h_12, wJ K h_9 p_11 (((nI 10) * v_7) + v_10) x3 = some h_12 ∧ ((v_5 = nI 0 → (Post (.inl (some (.int (nI 1)))) h_12)) ∧ (¬ v_5 = nI 0 → (Post (.inl (some (.int (nI 0)))) h_12)))))) ∧ (v_5 = nI 0 → (∃ p_13, gf h_9 a0 4 10 = some (.ref p_13) ∧ (∃ v_14, aI K h_9 p_13 v_7 = some v_14 ∧ (∀ X_17 : Int32 → Hp → Prop, (∀ (i_15 : Int32) (h_16 : Hp), (((i_15 ≤ v_10 → (∃ p_18, gf h_16 a0 4 10 = some (.ref p_18) ∧ (∃ v_19, aI K h_16 p_18 v_7 = some v_19 ∧ (∃ h_20, wI K h_16 p_18 v_7 (v_19 + (nI 1)) = some h_20 ∧ (∃ p_21, gf h_20 a0 4 12 = some (.ref p_21) ∧ (∃ h_22, wJ K h_20 p_21 (((nI 10) * v_7) + v_10) x2 = some h_22 ∧ (∃ p_23, gf h_22 a0 4 11 = some (.ref p_23) ∧ (∃ h_24, wJ K h_22 p_23 (((nI 10) * v_7) + v_10) x3 = some h_24 ∧ ((v_5 = nI 0 → (Post (.inl (some (.int (nI 1)))) h_24)) ∧ (¬ v_5 = nI 0 → (Post (.inl (some (.int (nI 0)))) h_24))))))))))) ∧ (¬ i_15 ≤ v_10 → (∃ p_25, gf h_16 a0 4 11 = some (.ref p_25) ∧ (∃ p_26, gf h_16 a0 4 11 = some (.ref p_26) ∧ (∃ u_27, aJ K h_16 p_26 ((((nI 10) * v_7) + i_15) - (nI 1)) = some u_27 ∧ (∃ h_28, wJ K h_16 p_25 (((nI 10) * v_7) + i_15) u_27 = some h_28 ∧ (∃ p_29, gf h_28 a0 4 12 = some (.ref p_29) ∧ (∃ p_30, gf h_28 a0 4 12 = some (.ref p_30) ∧ (∃ u_31, aJ K h_28 p_30 ((((nI 10) * v_7) + i_15) - (nI 1)) = some u_31 ∧ (∃ h_32, wJ K h_28 p_29 (((nI 10) * v_7) + i_15) u_31 = some h_32 ∧ X_17 (i_15 + (-nI 1)) h_32))))))))))) → X_17 i_15 h_16) → X_17 v_14 h_9))))))))))))) ∧ (¬ nI 0 ≤ v_6 → ((∃ fs, h_4 a0 = some (xO 4 fs)) ∧ mX4_newEntry l K [.ref a0, .int x1] h_4 (kI (fun v_34 h_33 => ((∃ fs, h_33 a0 = some (xO 4 fs)) ∧ mX4_touchOf l K [.ref a0, .int v_34] h_33 (kV (fun h_35 => ((∃ fs, h_35 a0 = some (xO 4 fs)) ∧ mX4_placeOf l K [.ref a0, .int v_34, .long x2] h_35 (kI (fun v_37 h_36 => ((¬ v_5 = nI 0 → (∃ p_38, gf h_36 a0 4 11 = some (.ref p_38) ∧ (∃ h_39, wJ K h_36 p_38 (((nI 10) * v_34) + v_37) x3 = some h_39 ∧ ((v_5 = nI 0 → (Post (.inl (some (.int (nI 1)))) h_39)) ∧ (¬ v_5 = nI 0 → (Post (.inl (some (.int (nI 0)))) h_39)))))) ∧ (v_5 = nI 0 → (∃ p_40, gf h_36 a0 4 10 = some (.ref p_40) ∧ (∃ v_41, aI K h_36 p_40 v_34 = some v_41 ∧ (∀ X_44 : Int32 → Hp → Prop, (∀ (i_42 : Int32) (h_43 : Hp), (((i_42 ≤ v_37 → (∃ p_45, gf h_43 a0 4 10 = some (.ref p_45) ∧ (∃ v_46, aI K h_43 p_45 v_34 = some v_46 ∧ (∃ h_47, wI K h_43 p_45 v_34 (v_46 + (nI 1)) = some h_47 ∧ (∃ p_48, gf h_47 a0 4 12 = some (.ref p_48) ∧ (∃ h_49, wJ K h_47 p_48 (((nI 10) * v_34) + v_37) x2 = some h_49 ∧ (∃ p_50, gf h_49 a0 4 11 = some (.ref p_50) ∧ (∃ h_51, wJ K h_49 p_50 (((nI 10) * v_34) + v_37) x3 = some h_51 ∧ ((v_5 = nI 0 → (Post (.inl (some (.int (nI 1)))) h_51)) ∧ (¬ v_5 = nI 0 → (Post (.inl (some (.int (nI 0)))) h_51))))))))))) ∧ (¬ i_42 ≤ v_37 → (∃ p_52, gf h_43 a0 4 11 = some (.ref p_52) ∧ (∃ p_53, gf h_43 a0 4 11 = some (.ref p_53) ∧ (∃ u_54, aJ K h_43 p_53 ((((nI 10) * v_34) + i_42) - (nI 1)) = some u_54 ∧ (∃ h_55, wJ K h_43 p_52 (((nI 10) * v_34) + i_42) u_54 = some h_55 ∧ (∃ p_56, gf h_55 a0 4 12 = some (.ref p_56) ∧ (∃ p_57, gf h_55 a0 4 12 = some (.ref p_57) ∧ (∃ u_58, aJ K h_55 p_57 ((((nI 10) * v_34) + i_42) - (nI 1)) = some u_58 ∧ (∃ h_59, wJ K h_55 p_56 (((nI 10) * v_34) + i_42) u_58 = some h_59 ∧ X_44 (i_42 + (-nI 1)) h_59))))))))))) → X_44 i_42 h_43) → X_44 v_41 h_36)))))))))))))))))) ∧ (v_5 = nI 0 → (∃ v_60, gf h_4 a0 4 22 = some (.int v_60) ∧ ((nI 0 ≤ v_60 → (∃ p_61, gf h_4 a0 4 10 = some (.ref p_61) ∧ (∃ v_62, gf h_4 a0 4 22 = some (.int v_62) ∧ (∃ v_63, aI K h_4 p_61 v_62 = some v_63 ∧ ((¬ v_63 = (nI 10) → (∃ v_64, gf h_4 a0 4 22 = some (.int v_64) ∧ ((nI 0 ≤ v_64 → (∃ v_65, gf h_4 a0 4 22 = some (.int v_65) ∧ ((∃ fs, h_4 a0 = some (xO 4 fs)) ∧ mX4_touchOf l K [.ref a0, .int v_65] h_4 (kV (fun h_66 => ((∃ fs, h_66 a0 = some (xO 4 fs)) ∧ mX4_placeOf l K [.ref a0, .int v_65, .long x2] h_66 (kI (fun v_68 h_67 => ((¬ v_5 = nI 0 → (∃ p_69, gf h_67 a0 4 11 = some (.ref p_69) ∧ (∃ h_70, wJ K h_67 p_69 (((nI 10) * v_65) + v_68) x3 = some h_70 ∧ ((v_5 = nI 0 → (Post (.inl (some (.int (nI 1)))) h_70)) ∧ (¬ v_5 = nI 0 → (Post (.inl (some (.int (nI 0)))) h_70)))))) ∧ (v_5 = nI 0 → (∃ p_71, gf h_67 a0 4 10 = some (.ref p_71) ∧ (∃ v_72, aI K h_67 p_71 v_65 = some v_72 ∧ (∀ X_75 : Int32 → Hp → Prop, (∀ (i_73 : Int32) (h_74 : Hp), (((i_73 ≤ v_68 → (∃ p_76, gf h_74 a0 4 10 = some (.ref p_76) ∧ (∃ v_77, aI K h_74 p_76 v_65 = some v_77 ∧ (∃ h_78, wI K h_74 p_76 v_65 (v_77 + (nI 1)) = some h_78 ∧ (∃ p_79, gf h_78 a0 4 12 = some (.ref p_79) ∧ (∃ h_80, wJ K h_78 p_79 (((nI 10) * v_65) + v_68) x2 = some h_80 ∧ (∃ p_81, gf h_80 a0 4 11 = some (.ref p_81) ∧ (∃ h_82, wJ K h_80 p_81 (((nI 10) * v_65) + v_68) x3 = some h_82 ∧ ((v_5 = nI 0 → (Post (.inl (some (.int (nI 1)))) h_82)) ∧ (¬ v_5 = nI 0 → (Post (.inl (some (.int (nI 0)))) h_82))))))))))) ∧ (¬ i_73 ≤ v_68 → (∃ p_83, gf h_74 a0 4 11 = some (.ref p_83) ∧ (∃ p_84, gf h_74 a0 4 11 = some (.ref p_84) ∧ (∃ u_85, aJ K h_74 p_84 ((((nI 10) * v_65) + i_73) - (nI 1)) = some u_85 ∧ (∃ h_86, wJ K h_74 p_83 (((nI 10) * v_65) + i_73) u_85 = some h_86 ∧ (∃ p_87, gf h_86 a0 4 12 = some (.ref p_87) ∧ (∃ p_88, gf h_86 a0 4 12 = some (.ref p_88) ∧ (∃ u_89, aJ K h_86 p_88 ((((nI 10) * v_65) + i_73) - (nI 1)) = some u_89 ∧ (∃ h_90, wJ K h_86 p_87 (((nI 10) * v_65) + i_73) u_89 = some h_90 ∧ X_75 (i_73 + (-nI 1)) h_90))))))))))) → X_75 i_73 h_74) → X_75 v_72 h_67))))))))))))) ∧ (¬ nI 0 ≤ v_64 → ((∃ fs, h_4 a0 = some (xO 4 fs)) ∧ mX4_newEntry l K [.ref a0, .int x1] h_4 (kI (fun v_92 h_91 => ((∃ fs, h_91 a0 = some (xO 4 fs)) ∧ mX4_touchOf l K [.ref a0, .int v_92] h_91 (kV (fun h_93 => ((∃ fs, h_93 a0 = some (xO 4 fs)) ∧ mX4_placeOf l K [.ref a0, .int v_92, .long x2] h_93 (kI (fun v_95 h_94 => ((¬ v_5 = nI 0 → (∃ p_96, gf h_94 a0 4 11 = some (.ref p_96) ∧ (∃ h_97, wJ K h_94 p_96 (((nI 10) * v_92) + v_95) x3 = some h_97 ∧ ((v_5 = nI 0 → (Post (.inl (some (.int (nI 1)))) h_97)) ∧ (¬ v_5 = nI 0 → (Post (.inl (some (.int (nI 0)))) h_97)))))) ∧ (v_5 = nI 0 → (∃ p_98, gf h_94 a0 4 10 = some (.ref p_98) ∧ (∃ v_99, aI K h_94 p_98 v_92 = some v_99 ∧ (∀ X_102 : Int32 → Hp → Prop, (∀ (i_100 : Int32) (h_101 : Hp), (((i_100 ≤ v_95 → (∃ p_103, gf h_101 a0 4 10 = some (.ref p_103) ∧ (∃ v_104, aI K h_101 p_103 v_92 = some v_104 ∧ (∃ h_105, wI K h_101 p_103 v_92 (v_104 + (nI 1)) = some h_105 ∧ (∃ p_106, gf h_105 a0 4 12 = some (.ref p_106) ∧ (∃ h_107, wJ K h_105 p_106 (((nI 10) * v_92) + v_95) x2 = some h_107 ∧ (∃ p_108, gf h_107 a0 4 11 = some (.ref p_108) ∧ (∃ h_109, wJ K h_107 p_108 (((nI 10) * v_92) + v_95) x3 = some h_109 ∧ ((v_5 = nI 0 → (Post (.inl (some (.int (nI 1)))) h_109)) ∧ (¬ v_5 = nI 0 → (Post (.inl (some (.int (nI 0)))) h_109))))))))))) ∧ (¬ i_100 ≤ v_95 → (∃ p_110, gf h_101 a0 4 11 = some (.ref p_110) ∧ (∃ p_111, gf h_101 a0 4 11 = some (.ref p_111) ∧ (∃ u_112, aJ K h_101 p_111 ((((nI 10) * v_92) + i_100) - (nI 1)) = some u_112 ∧ (∃ h_113, wJ K h_101 p_110 (((nI 10) * v_92) + i_100) u_112 = some h_113 ∧ (∃ p_114, gf h_113 a0 4 12 = some (.ref p_114) ∧ (∃ p_115, gf h_113 a0 4 12 = some (.ref p_115) ∧ (∃ u_116, aJ K h_113 p_115 ((((nI 10) * v_92) + i_100) - (nI 1)) = some u_116 ∧ (∃ h_117, wJ K h_113 p_114 (((nI 10) * v_92) + i_100) u_116 = some h_117 ∧ X_102 (i_100 + (-nI 1)) h_117))))))))))) → X_102 i_100 h_101) → X_102 v_99 h_94)))))))))))))))))) ∧ (v_63 = (nI 10) → (Post (.inl (some (.int (-nI 4)))) h_4))))))) ∧ (¬ nI 0 ≤ v_60 → (∃ p_118, gf h_4 a0 4 6 = some (.ref p_118) ∧ (∃ v_119, aI K h_4 p_118 (nI 0) = some v_119 ∧ ((¬ v_119 = (nI 150) → (∃ v_120, gf h_4 a0 4 22 = some (.int v_120) ∧ ((nI 0 ≤ v_120 → (∃ v_121, gf h_4 a0 4 22 = some (.int v_121) ∧ ((∃ fs, h_4 a0 = some (xO 4 fs)) ∧ mX4_touchOf l K [.ref a0, .int v_121] h_4 (kV (fun h_122 => ((∃ fs, h_122 a0 = some (xO 4 fs)) ∧ mX4_placeOf l K [.ref a0, .int v_121, .long x2] h_122 (kI (fun v_124 h_123 => ((¬ v_5 = nI 0 → (∃ p_125, gf h_123 a0 4 11 = some (.ref p_125) ∧ (∃ h_126, wJ K h_123 p_125 (((nI 10) * v_121) + v_124) x3 = some h_126 ∧ ((v_5 = nI 0 → (Post (.inl (some (.int (nI 1)))) h_126)) ∧ (¬ v_5 = nI 0 → (Post (.inl (some (.int (nI 0)))) h_126)))))) ∧ (v_5 = nI 0 → (∃ p_127, gf h_123 a0 4 10 = some (.ref p_127) ∧ (∃ v_128, aI K h_123 p_127 v_121 = some v_128 ∧ (∀ X_131 : Int32 → Hp → Prop, (∀ (i_129 : Int32) (h_130 : Hp), (((i_129 ≤ v_124 → (∃ p_132, gf h_130 a0 4 10 = some (.ref p_132) ∧ (∃ v_133, aI K h_130 p_132 v_121 = some v_133 ∧ (∃ h_134, wI K h_130 p_132 v_121 (v_133 + (nI 1)) = some h_134 ∧ (∃ p_135, gf h_134 a0 4 12 = some (.ref p_135) ∧ (∃ h_136, wJ K h_134 p_135 (((nI 10) * v_121) + v_124) x2 = some h_136 ∧ (∃ p_137, gf h_136 a0 4 11 = some (.ref p_137) ∧ (∃ h_138, wJ K h_136 p_137 (((nI 10) * v_121) + v_124) x3 = some h_138 ∧ ((v_5 = nI 0 → (Post (.inl (some (.int (nI 1)))) h_138)) ∧ (¬ v_5 = nI 0 → (Post (.inl (some (.int (nI 0)))) h_138))))))))))) ∧ (¬ i_129 ≤ v_124 → (∃ p_139, gf h_130 a0 4 11 = some (.ref p_139) ∧ (∃ p_140, gf h_130 a0 4 11 = some (.ref p_140) ∧ (∃ u_141, aJ K h_130 p_140 ((((nI 10) * v_121) + i_129) - (nI 1)) = some u_141 ∧ (∃ h_142, wJ K h_130 p_139 (((nI 10) * v_121) + i_129) u_141 = some h_142 ∧ (∃ p_143, gf h_142 a0 4 12 = some (.ref p_143) ∧ (∃ p_144, gf h_142 a0 4 12 = some (.ref p_144) ∧ (∃ u_145, aJ K h_142 p_144 ((((nI 10) * v_121) + i_129) - (nI 1)) = some u_145 ∧ (∃ h_146, wJ K h_142 p_143 (((nI 10) * v_121) + i_129) u_145 = some h_146 ∧ X_131 (i_129 + (-nI 1)) h_146))))))))))) → X_131 i_129 h_130) → X_131 v_128 h_123))))))))))))) ∧ (¬ nI 0 ≤ v_120 → ((∃ fs, h_4 a0 = some (xO 4 fs)) ∧ mX4_newEntry l K [.ref a0, .int x1] h_4 (kI (fun v_148 h_147 => ((∃ fs, h_147 a0 = some (xO 4 fs)) ∧ mX4_touchOf l K [.ref a0, .int v_148] h_147 (kV (fun h_149 => ((∃ fs, h_149 a0 = some (xO 4 fs)) ∧ mX4_placeOf l K [.ref a0, .int v_148, .long x2] h_149 (kI (fun v_151 h_150 => ((¬ v_5 = nI 0 → (∃ p_152, gf h_150 a0 4 11 = some (.ref p_152) ∧ (∃ h_153, wJ K h_150 p_152 (((nI 10) * v_148) + v_151) x3 = some h_153 ∧ ((v_5 = nI 0 → (Post (.inl (some (.int (nI 1)))) h_153)) ∧ (¬ v_5 = nI 0 → (Post (.inl (some (.int (nI 0)))) h_153)))))) ∧ (v_5 = nI 0 → (∃ p_154, gf h_150 a0 4 10 = some (.ref p_154) ∧ (∃ v_155, aI K h_150 p_154 v_148 = some v_155 ∧ (∀ X_158 : Int32 → Hp → Prop, (∀ (i_156 : Int32) (h_157 : Hp), (((i_156 ≤ v_151 → (∃ p_159, gf h_157 a0 4 10 = some (.ref p_159) ∧ (∃ v_160, aI K h_157 p_159 v_148 = some v_160 ∧ (∃ h_161, wI K h_157 p_159 v_148 (v_160 + (nI 1)) = some h_161 ∧ (∃ p_162, gf h_161 a0 4 12 = some (.ref p_162) ∧ (∃ h_163, wJ K h_161 p_162 (((nI 10) * v_148) + v_151) x2 = some h_163 ∧ (∃ p_164, gf h_163 a0 4 11 = some (.ref p_164) ∧ (∃ h_165, wJ K h_163 p_164 (((nI 10) * v_148) + v_151) x3 = some h_165 ∧ ((v_5 = nI 0 → (Post (.inl (some (.int (nI 1)))) h_165)) ∧ (¬ v_5 = nI 0 → (Post (.inl (some (.int (nI 0)))) h_165))))))))))) ∧ (¬ i_156 ≤ v_151 → (∃ p_166, gf h_157 a0 4 11 = some (.ref p_166) ∧ (∃ p_167, gf h_157 a0 4 11 = some (.ref p_167) ∧ (∃ u_168, aJ K h_157 p_167 ((((nI 10) * v_148) + i_156) - (nI 1)) = some u_168 ∧ (∃ h_169, wJ K h_157 p_166 (((nI 10) * v_148) + i_156) u_168 = some h_169 ∧ (∃ p_170, gf h_169 a0 4 12 = some (.ref p_170) ∧ (∃ p_171, gf h_169 a0 4 12 = some (.ref p_171) ∧ (∃ u_172, aJ K h_169 p_171 ((((nI 10) * v_148) + i_156) - (nI 1)) = some u_172 ∧ (∃ h_173, wJ K h_169 p_170 (((nI 10) * v_148) + i_156) u_172 = some h_173 ∧ X_158 (i_156 + (-nI 1)) h_173))))))))))) → X_158 i_156 h_157) → X_158 v_155 h_150)))))))))))))))))) ∧ (v_119 = (nI 150) → (Post (.inl (some (.int (-nI 4)))) h_4))))))))))))))) ∧ (¬ v_2 = nI 0 → (Post (.inl (some (.int (nI 0)))) h_1))))))) :
    mX4_set l K [.ref a0, .int x1, .long x2, .long x3] h Post := by
  refine MX.enter htr (by decide) rfl (Nat.le_of_ble_eq_true rfl) ?_
  refine J_lveq (lv' := [(0, .ref a0), (1, .int x1), (2, .long x2), (4, .long x3)]) rfl ?_
  refine J_aload_n dX4_set_0 0 rfl ?_
  refine J_iload_n dX4_set_1 1 rfl ?_
  refine J_iconst (v := nI 2) dX4_set_2 (by decide) ?_
  refine J_iconst (v := nI 2) dX4_set_3 (by decide) ?_
  refine J_lload dX4_set_4 3 rfl ?_
  obtain ⟨b9, F⟩ := F
  refine J_callV0 (ci := 4) (n := 4) (As := [.int x1, .int (nI 2), .int (nI 2), .long x3]) (rest := []) dX4_set_6 rfl gX4_set_X4_isRefused rfl (by decide +kernel) rfl (by decide) b9 (Nat.le_of_ble_eq_true rfl) (Nat.le_refl _) (Nat.le_refl _) F kI_no (kI_kk (fun v_2 h_1 F => ?_))
  refine J_if_eq (tgt := 14) dX4_set_9 (by decide) (fun c => ?_) (fun c => ?_)
  · replace F := F.1 c
    refine J_aload_n dX4_set_14 0 rfl ?_
    refine J_aload_n dX4_set_15 0 rfl ?_
    obtain ⟨v_3, g9, F⟩ := F
    refine J_get (ci := 4) (k := 22) dX4_set_16 rfl in_X4_set_4 (by decide) lk_X4_set_120 g9 ?_
    refine J_lload_n dX4_set_19 2 rfl ?_
    obtain ⟨b9, F⟩ := F
    refine J_callV0 (ci := 4) (n := 2) (As := [.int v_3, .long x2]) (rest := []) dX4_set_20 rfl gX4_set_X4_has rfl (by decide +kernel) rfl (by decide) b9 (Nat.le_of_ble_eq_true rfl) (Nat.le_refl _) (Nat.le_refl _) F kI_no (kI_kk (fun v_5 h_4 F => ?_))
    refine J_istore (lv' := [(6, .int v_5), (0, .ref a0), (1, .int x1), (2, .long x2), (4, .long x3)]) dX4_set_23 (by decide) rfl ?_
    refine J_iload dX4_set_25 0 rfl ?_
    refine J_if_ne (tgt := 69) dX4_set_27 (by decide) (fun c => ?_) (fun c => ?_)
    · replace F := F.1 c
      refine J_aload_n dX4_set_69 1 rfl ?_
      obtain ⟨v_6, g9, F⟩ := F
      refine J_get (ci := 4) (k := 22) dX4_set_70 rfl in_X4_set_4 (by decide) lk_X4_set_120 g9 ?_
      refine J_if_ge (tgt := 84) dX4_set_73 (by decide) (fun c => ?_) (fun c => ?_)
      · replace F := F.1 c
        refine J_aload_n dX4_set_84 1 rfl ?_
        obtain ⟨v_7, g9, F⟩ := F
        refine J_get (ci := 4) (k := 22) dX4_set_85 rfl in_X4_set_4 (by decide) lk_X4_set_120 g9 ?_
        refine J_istore (lv' := [(7, .int v_7), (6, .int v_5), (0, .ref a0), (1, .int x1), (2, .long x2), (4, .long x3)]) dX4_set_88 (by decide) rfl ?_
        refine J_aload_n dX4_set_90 2 rfl ?_
        refine J_iload dX4_set_91 0 rfl ?_
        obtain ⟨b9, F⟩ := F
        refine J_callV0 (ci := 4) (n := 1) (As := [.int v_7]) (rest := []) dX4_set_93 rfl gX4_set_X4_touchOf rfl (by decide +kernel) rfl (by decide) b9 (Nat.le_of_ble_eq_true rfl) (Nat.le_refl _) (Nat.le_refl _) F kV_no (kV_kk (fun h_8 F => ?_))
        refine J_aload_n dX4_set_96 2 rfl ?_
        refine J_iload dX4_set_97 0 rfl ?_
        refine J_lload_n dX4_set_99 4 rfl ?_
        obtain ⟨b9, F⟩ := F
        refine J_callV0 (ci := 4) (n := 2) (As := [.int v_7, .long x2]) (rest := []) dX4_set_100 rfl gX4_set_X4_placeOf rfl (by decide +kernel) rfl (by decide) b9 (Nat.le_of_ble_eq_true rfl) (Nat.le_refl _) (Nat.le_refl _) F kI_no (kI_kk (fun v_10 h_9 F => ?_))
        refine J_istore (lv' := [(8, .int v_10), (7, .int v_7), (6, .int v_5), (0, .ref a0), (1, .int x1), (2, .long x2), (4, .long x3)]) dX4_set_103 (by decide) rfl ?_
        refine J_iload dX4_set_105 2 rfl ?_
        refine J_if_ne (tgt := 213) dX4_set_107 (by decide) (fun c => ?_) (fun c => ?_)
        · replace F := F.1 c
          refine J_aload_n dX4_set_213 3 rfl ?_
          obtain ⟨p_11, g9, F⟩ := F
          refine J_get (ci := 4) (k := 11) dX4_set_214 rfl in_X4_set_4 (by decide) lk_X4_set_38 g9 ?_
          refine J_bipush (v := nI 10) dX4_set_217 (by decide) ?_
          refine J_iload dX4_set_219 1 rfl ?_
          refine J_imul dX4_set_221 ?_
          refine J_iload dX4_set_222 0 rfl ?_
          refine J_iadd dX4_set_224 ?_
          refine J_lload dX4_set_225 6 rfl ?_
          obtain ⟨h_12, g9, F⟩ := F
          refine J_last dX4_set_227 g9 ?_
          refine J_iload dX4_set_228 2 rfl ?_
          refine J_if_eq (tgt := 237) dX4_set_230 (by decide) (fun c => ?_) (fun c => ?_)
          · replace F := F.1 c
            refine J_iconst (v := nI 1) dX4_set_237 (by decide) ?_
            exact J_iret dX4_set_238 rfl (Nat.le_refl _) (Nat.le_refl _) F
          · replace F := F.2 c
            refine J_iconst (v := nI 0) dX4_set_233 (by decide) ?_
            refine J_goto (tgt := 238) dX4_set_234 (by decide) ?_
            exact J_iret dX4_set_238 rfl (Nat.le_refl _) (Nat.le_refl _) F
        · replace F := F.2 c
          refine J_aload_n dX4_set_110 3 rfl ?_
          obtain ⟨p_13, g9, F⟩ := F
          refine J_get (ci := 4) (k := 10) dX4_set_111 rfl in_X4_set_4 (by decide) lk_X4_set_35 g9 ?_
          refine J_iload dX4_set_114 1 rfl ?_
          obtain ⟨v_14, g9, F⟩ := F
          refine J_iald dX4_set_116 g9 ?_
          refine J_istore (lv' := [(9, .int v_14), (8, .int v_10), (7, .int v_7), (6, .int v_5), (0, .ref a0), (1, .int x1), (2, .long x2), (4, .long x3)]) dX4_set_117 (by decide) rfl ?_
          refine J_sub [4, 6, 7, 3, 2, 1, 0] rfl ?_
          refine F (fun (i_15 : Int32) (h_16 : Hp) => J l K yX4_set.cls cX4_set 10 (some .int) wsX4_set [] yX4_set.name 3 72 0 0 (QM K 0 0 Post) 119 [] [(0, .ref a0), (2, .long x2), (4, .long x3), (6, .int v_5), (7, .int v_7), (8, .int v_10), (9, .int i_15)] h_16 ((((0 + 0) + 0) + 0) + 0) ((((0 + 0) + 0) + 0) + 0)) ?_
          intro i_15 h_16 F
          refine J_iload dX4_set_119 6 rfl ?_
          refine J_iload dX4_set_121 5 rfl ?_
          refine J_icmp_le (tgt := 188) dX4_set_123 (by decide) (fun c => ?_) (fun c => ?_)
          · replace F := F.1 c
            refine J_aload_n dX4_set_188 0 rfl ?_
            obtain ⟨p_18, g9, F⟩ := F
            refine J_get (ci := 4) (k := 10) dX4_set_189 rfl in_X4_set_4 (by decide) lk_X4_set_35 g9 ?_
            refine J_iload dX4_set_192 4 rfl ?_
            refine J_dup2 dX4_set_194 rfl rfl ?_
            obtain ⟨v_19, g9, F⟩ := F
            refine J_iald dX4_set_195 g9 ?_
            refine J_iconst (v := nI 1) dX4_set_196 (by decide) ?_
            refine J_iadd dX4_set_197 ?_
            obtain ⟨h_20, g9, F⟩ := F
            refine J_iast dX4_set_198 g9 ?_
            refine J_aload_n dX4_set_199 0 rfl ?_
            obtain ⟨p_21, g9, F⟩ := F
            refine J_get (ci := 4) (k := 12) dX4_set_200 rfl in_X4_set_4 (by decide) lk_X4_set_41 g9 ?_
            refine J_bipush (v := nI 10) dX4_set_203 (by decide) ?_
            refine J_iload dX4_set_205 4 rfl ?_
            refine J_imul dX4_set_207 ?_
            refine J_iload dX4_set_208 5 rfl ?_
            refine J_iadd dX4_set_210 ?_
            refine J_lload_n dX4_set_211 1 rfl ?_
            obtain ⟨h_22, g9, F⟩ := F
            refine J_last dX4_set_212 g9 ?_
            refine J_aload_n dX4_set_213 0 rfl ?_
            obtain ⟨p_23, g9, F⟩ := F
            refine J_get (ci := 4) (k := 11) dX4_set_214 rfl in_X4_set_4 (by decide) lk_X4_set_38 g9 ?_
            refine J_bipush (v := nI 10) dX4_set_217 (by decide) ?_
            refine J_iload dX4_set_219 4 rfl ?_
            refine J_imul dX4_set_221 ?_
            refine J_iload dX4_set_222 5 rfl ?_
            refine J_iadd dX4_set_224 ?_
            refine J_lload dX4_set_225 2 rfl ?_
            obtain ⟨h_24, g9, F⟩ := F
            refine J_last dX4_set_227 g9 ?_
            refine J_iload dX4_set_228 3 rfl ?_
            refine J_if_eq (tgt := 237) dX4_set_230 (by decide) (fun c => ?_) (fun c => ?_)
            · replace F := F.1 c
              refine J_iconst (v := nI 1) dX4_set_237 (by decide) ?_
              exact J_iret dX4_set_238 rfl (Nat.le_refl _) (Nat.le_refl _) F
            · replace F := F.2 c
              refine J_iconst (v := nI 0) dX4_set_233 (by decide) ?_
              refine J_goto (tgt := 238) dX4_set_234 (by decide) ?_
              exact J_iret dX4_set_238 rfl (Nat.le_refl _) (Nat.le_refl _) F
          · replace F := F.2 c
            refine J_aload_n dX4_set_126 0 rfl ?_
            obtain ⟨p_25, g9, F⟩ := F
            refine J_get (ci := 4) (k := 11) dX4_set_127 rfl in_X4_set_4 (by decide) lk_X4_set_38 g9 ?_
            refine J_bipush (v := nI 10) dX4_set_130 (by decide) ?_
            refine J_iload dX4_set_132 4 rfl ?_
            refine J_imul dX4_set_134 ?_
            refine J_iload dX4_set_135 6 rfl ?_
            refine J_iadd dX4_set_137 ?_
            refine J_aload_n dX4_set_138 0 rfl ?_
            obtain ⟨p_26, g9, F⟩ := F
            refine J_get (ci := 4) (k := 11) dX4_set_139 rfl in_X4_set_4 (by decide) lk_X4_set_38 g9 ?_
            refine J_bipush (v := nI 10) dX4_set_142 (by decide) ?_
            refine J_iload dX4_set_144 4 rfl ?_
            refine J_imul dX4_set_146 ?_
            refine J_iload dX4_set_147 6 rfl ?_
            refine J_iadd dX4_set_149 ?_
            refine J_iconst (v := nI 1) dX4_set_150 (by decide) ?_
            refine J_isub dX4_set_151 ?_
            obtain ⟨u_27, g9, F⟩ := F
            refine J_lald dX4_set_152 g9 ?_
            obtain ⟨h_28, g9, F⟩ := F
            refine J_last dX4_set_153 g9 ?_
            refine J_aload_n dX4_set_154 0 rfl ?_
            obtain ⟨p_29, g9, F⟩ := F
            refine J_get (ci := 4) (k := 12) dX4_set_155 rfl in_X4_set_4 (by decide) lk_X4_set_41 g9 ?_
            refine J_bipush (v := nI 10) dX4_set_158 (by decide) ?_
            refine J_iload dX4_set_160 4 rfl ?_
            refine J_imul dX4_set_162 ?_
            refine J_iload dX4_set_163 6 rfl ?_
            refine J_iadd dX4_set_165 ?_
            refine J_aload_n dX4_set_166 0 rfl ?_
            obtain ⟨p_30, g9, F⟩ := F
            refine J_get (ci := 4) (k := 12) dX4_set_167 rfl in_X4_set_4 (by decide) lk_X4_set_41 g9 ?_
            refine J_bipush (v := nI 10) dX4_set_170 (by decide) ?_
            refine J_iload dX4_set_172 4 rfl ?_
            refine J_imul dX4_set_174 ?_
            refine J_iload dX4_set_175 6 rfl ?_
            refine J_iadd dX4_set_177 ?_
            refine J_iconst (v := nI 1) dX4_set_178 (by decide) ?_
            refine J_isub dX4_set_179 ?_
            obtain ⟨u_31, g9, F⟩ := F
            refine J_lald dX4_set_180 g9 ?_
            obtain ⟨h_32, g9, F⟩ := F
            refine J_last dX4_set_181 g9 ?_
            refine J_iinc (v := i_15 + (-nI 1)) (lv' := [(9, .int (i_15 + (-nI 1))), (0, .ref a0), (2, .long x2), (4, .long x3), (6, .int v_5), (7, .int v_7), (8, .int v_10)]) dX4_set_182 6 rfl rfl (by decide) rfl ?_
            refine J_goto (tgt := 119) dX4_set_185 (by decide) ?_
            exact J_sub [1, 2, 3, 4, 5, 6, 0] rfl F
      · replace F := F.2 c
        refine J_aload_n dX4_set_76 1 rfl ?_
        refine J_iload_n dX4_set_77 2 rfl ?_
        obtain ⟨b9, F⟩ := F
        refine J_callV0 (ci := 4) (n := 1) (As := [.int x1]) (rest := []) dX4_set_78 rfl gX4_set_X4_newEntry rfl (by decide +kernel) rfl (by decide) b9 (Nat.le_of_ble_eq_true rfl) (Nat.le_refl _) (Nat.le_refl _) F kI_no (kI_kk (fun v_34 h_33 F => ?_))
        refine J_goto (tgt := 88) dX4_set_81 (by decide) ?_
        refine J_istore (lv' := [(7, .int v_34), (6, .int v_5), (0, .ref a0), (1, .int x1), (2, .long x2), (4, .long x3)]) dX4_set_88 (by decide) rfl ?_
        refine J_aload_n dX4_set_90 2 rfl ?_
        refine J_iload dX4_set_91 0 rfl ?_
        obtain ⟨b9, F⟩ := F
        refine J_callV0 (ci := 4) (n := 1) (As := [.int v_34]) (rest := []) dX4_set_93 rfl gX4_set_X4_touchOf rfl (by decide +kernel) rfl (by decide) b9 (Nat.le_of_ble_eq_true rfl) (Nat.le_refl _) (Nat.le_refl _) F kV_no (kV_kk (fun h_35 F => ?_))
        refine J_aload_n dX4_set_96 2 rfl ?_
        refine J_iload dX4_set_97 0 rfl ?_
        refine J_lload_n dX4_set_99 4 rfl ?_
        obtain ⟨b9, F⟩ := F
        refine J_callV0 (ci := 4) (n := 2) (As := [.int v_34, .long x2]) (rest := []) dX4_set_100 rfl gX4_set_X4_placeOf rfl (by decide +kernel) rfl (by decide) b9 (Nat.le_of_ble_eq_true rfl) (Nat.le_refl _) (Nat.le_refl _) F kI_no (kI_kk (fun v_37 h_36 F => ?_))
        refine J_istore (lv' := [(8, .int v_37), (7, .int v_34), (6, .int v_5), (0, .ref a0), (1, .int x1), (2, .long x2), (4, .long x3)]) dX4_set_103 (by decide) rfl ?_
        refine J_iload dX4_set_105 2 rfl ?_
        refine J_if_ne (tgt := 213) dX4_set_107 (by decide) (fun c => ?_) (fun c => ?_)
        · replace F := F.1 c
          refine J_aload_n dX4_set_213 3 rfl ?_
          obtain ⟨p_38, g9, F⟩ := F
          refine J_get (ci := 4) (k := 11) dX4_set_214 rfl in_X4_set_4 (by decide) lk_X4_set_38 g9 ?_
          refine J_bipush (v := nI 10) dX4_set_217 (by decide) ?_
          refine J_iload dX4_set_219 1 rfl ?_
          refine J_imul dX4_set_221 ?_
          refine J_iload dX4_set_222 0 rfl ?_
          refine J_iadd dX4_set_224 ?_
          refine J_lload dX4_set_225 6 rfl ?_
          obtain ⟨h_39, g9, F⟩ := F
          refine J_last dX4_set_227 g9 ?_
          refine J_iload dX4_set_228 2 rfl ?_
          refine J_if_eq (tgt := 237) dX4_set_230 (by decide) (fun c => ?_) (fun c => ?_)
          · replace F := F.1 c
            refine J_iconst (v := nI 1) dX4_set_237 (by decide) ?_
            exact J_iret dX4_set_238 rfl (Nat.le_refl _) (Nat.le_refl _) F
          · replace F := F.2 c
            refine J_iconst (v := nI 0) dX4_set_233 (by decide) ?_
            refine J_goto (tgt := 238) dX4_set_234 (by decide) ?_
            exact J_iret dX4_set_238 rfl (Nat.le_refl _) (Nat.le_refl _) F
        · replace F := F.2 c
          refine J_aload_n dX4_set_110 3 rfl ?_
          obtain ⟨p_40, g9, F⟩ := F
          refine J_get (ci := 4) (k := 10) dX4_set_111 rfl in_X4_set_4 (by decide) lk_X4_set_35 g9 ?_
          refine J_iload dX4_set_114 1 rfl ?_
          obtain ⟨v_41, g9, F⟩ := F
          refine J_iald dX4_set_116 g9 ?_
          refine J_istore (lv' := [(9, .int v_41), (8, .int v_37), (7, .int v_34), (6, .int v_5), (0, .ref a0), (1, .int x1), (2, .long x2), (4, .long x3)]) dX4_set_117 (by decide) rfl ?_
          refine J_sub [4, 6, 7, 3, 2, 1, 0] rfl ?_
          refine F (fun (i_42 : Int32) (h_43 : Hp) => J l K yX4_set.cls cX4_set 10 (some .int) wsX4_set [] yX4_set.name 3 72 0 0 (QM K 0 0 Post) 119 [] [(0, .ref a0), (2, .long x2), (4, .long x3), (6, .int v_5), (7, .int v_34), (8, .int v_37), (9, .int i_42)] h_43 (((((0 + 0) + 0) + 0) + 0) + 0) (((((0 + 0) + 0) + 0) + 0) + 0)) ?_
          intro i_42 h_43 F
          refine J_iload dX4_set_119 6 rfl ?_
          refine J_iload dX4_set_121 5 rfl ?_
          refine J_icmp_le (tgt := 188) dX4_set_123 (by decide) (fun c => ?_) (fun c => ?_)
          · replace F := F.1 c
            refine J_aload_n dX4_set_188 0 rfl ?_
            obtain ⟨p_45, g9, F⟩ := F
            refine J_get (ci := 4) (k := 10) dX4_set_189 rfl in_X4_set_4 (by decide) lk_X4_set_35 g9 ?_
            refine J_iload dX4_set_192 4 rfl ?_
            refine J_dup2 dX4_set_194 rfl rfl ?_
            obtain ⟨v_46, g9, F⟩ := F
            refine J_iald dX4_set_195 g9 ?_
            refine J_iconst (v := nI 1) dX4_set_196 (by decide) ?_
            refine J_iadd dX4_set_197 ?_
            obtain ⟨h_47, g9, F⟩ := F
            refine J_iast dX4_set_198 g9 ?_
            refine J_aload_n dX4_set_199 0 rfl ?_
            obtain ⟨p_48, g9, F⟩ := F
            refine J_get (ci := 4) (k := 12) dX4_set_200 rfl in_X4_set_4 (by decide) lk_X4_set_41 g9 ?_
            refine J_bipush (v := nI 10) dX4_set_203 (by decide) ?_
            refine J_iload dX4_set_205 4 rfl ?_
            refine J_imul dX4_set_207 ?_
            refine J_iload dX4_set_208 5 rfl ?_
            refine J_iadd dX4_set_210 ?_
            refine J_lload_n dX4_set_211 1 rfl ?_
            obtain ⟨h_49, g9, F⟩ := F
            refine J_last dX4_set_212 g9 ?_
            refine J_aload_n dX4_set_213 0 rfl ?_
            obtain ⟨p_50, g9, F⟩ := F
            refine J_get (ci := 4) (k := 11) dX4_set_214 rfl in_X4_set_4 (by decide) lk_X4_set_38 g9 ?_
            refine J_bipush (v := nI 10) dX4_set_217 (by decide) ?_
            refine J_iload dX4_set_219 4 rfl ?_
            refine J_imul dX4_set_221 ?_
            refine J_iload dX4_set_222 5 rfl ?_
            refine J_iadd dX4_set_224 ?_
            refine J_lload dX4_set_225 2 rfl ?_
            obtain ⟨h_51, g9, F⟩ := F
            refine J_last dX4_set_227 g9 ?_
            refine J_iload dX4_set_228 3 rfl ?_
            refine J_if_eq (tgt := 237) dX4_set_230 (by decide) (fun c => ?_) (fun c => ?_)
            · replace F := F.1 c
              refine J_iconst (v := nI 1) dX4_set_237 (by decide) ?_
              exact J_iret dX4_set_238 rfl (Nat.le_refl _) (Nat.le_refl _) F
            · replace F := F.2 c
              refine J_iconst (v := nI 0) dX4_set_233 (by decide) ?_
              refine J_goto (tgt := 238) dX4_set_234 (by decide) ?_
              exact J_iret dX4_set_238 rfl (Nat.le_refl _) (Nat.le_refl _) F
          · replace F := F.2 c
            refine J_aload_n dX4_set_126 0 rfl ?_
            obtain ⟨p_52, g9, F⟩ := F
            refine J_get (ci := 4) (k := 11) dX4_set_127 rfl in_X4_set_4 (by decide) lk_X4_set_38 g9 ?_
            refine J_bipush (v := nI 10) dX4_set_130 (by decide) ?_
            refine J_iload dX4_set_132 4 rfl ?_
            refine J_imul dX4_set_134 ?_
            refine J_iload dX4_set_135 6 rfl ?_
            refine J_iadd dX4_set_137 ?_
            refine J_aload_n dX4_set_138 0 rfl ?_
            obtain ⟨p_53, g9, F⟩ := F
            refine J_get (ci := 4) (k := 11) dX4_set_139 rfl in_X4_set_4 (by decide) lk_X4_set_38 g9 ?_
            refine J_bipush (v := nI 10) dX4_set_142 (by decide) ?_
            refine J_iload dX4_set_144 4 rfl ?_
            refine J_imul dX4_set_146 ?_
            refine J_iload dX4_set_147 6 rfl ?_
            refine J_iadd dX4_set_149 ?_
            refine J_iconst (v := nI 1) dX4_set_150 (by decide) ?_
            refine J_isub dX4_set_151 ?_
            obtain ⟨u_54, g9, F⟩ := F
            refine J_lald dX4_set_152 g9 ?_
            obtain ⟨h_55, g9, F⟩ := F
            refine J_last dX4_set_153 g9 ?_
            refine J_aload_n dX4_set_154 0 rfl ?_
            obtain ⟨p_56, g9, F⟩ := F
            refine J_get (ci := 4) (k := 12) dX4_set_155 rfl in_X4_set_4 (by decide) lk_X4_set_41 g9 ?_
            refine J_bipush (v := nI 10) dX4_set_158 (by decide) ?_
            refine J_iload dX4_set_160 4 rfl ?_
            refine J_imul dX4_set_162 ?_
            refine J_iload dX4_set_163 6 rfl ?_
            refine J_iadd dX4_set_165 ?_
            refine J_aload_n dX4_set_166 0 rfl ?_
            obtain ⟨p_57, g9, F⟩ := F
            refine J_get (ci := 4) (k := 12) dX4_set_167 rfl in_X4_set_4 (by decide) lk_X4_set_41 g9 ?_
            refine J_bipush (v := nI 10) dX4_set_170 (by decide) ?_
            refine J_iload dX4_set_172 4 rfl ?_
            refine J_imul dX4_set_174 ?_
            refine J_iload dX4_set_175 6 rfl ?_
            refine J_iadd dX4_set_177 ?_
            refine J_iconst (v := nI 1) dX4_set_178 (by decide) ?_
            refine J_isub dX4_set_179 ?_
            obtain ⟨u_58, g9, F⟩ := F
            refine J_lald dX4_set_180 g9 ?_
            obtain ⟨h_59, g9, F⟩ := F
            refine J_last dX4_set_181 g9 ?_
            refine J_iinc (v := i_42 + (-nI 1)) (lv' := [(9, .int (i_42 + (-nI 1))), (0, .ref a0), (2, .long x2), (4, .long x3), (6, .int v_5), (7, .int v_34), (8, .int v_37)]) dX4_set_182 6 rfl rfl (by decide) rfl ?_
            refine J_goto (tgt := 119) dX4_set_185 (by decide) ?_
            exact J_sub [1, 2, 3, 4, 5, 6, 0] rfl F
    · replace F := F.2 c
      refine J_aload_n dX4_set_30 1 rfl ?_
      obtain ⟨v_60, g9, F⟩ := F
      refine J_get (ci := 4) (k := 22) dX4_set_31 rfl in_X4_set_4 (by decide) lk_X4_set_120 g9 ?_
      refine J_if_ge (tgt := 52) dX4_set_34 (by decide) (fun c => ?_) (fun c => ?_)
      · replace F := F.1 c
        refine J_aload_n dX4_set_52 1 rfl ?_
        obtain ⟨p_61, g9, F⟩ := F
        refine J_get (ci := 4) (k := 10) dX4_set_53 rfl in_X4_set_4 (by decide) lk_X4_set_35 g9 ?_
        refine J_aload_n dX4_set_56 1 rfl ?_
        obtain ⟨v_62, g9, F⟩ := F
        refine J_get (ci := 4) (k := 22) dX4_set_57 rfl in_X4_set_4 (by decide) lk_X4_set_120 g9 ?_
        obtain ⟨v_63, g9, F⟩ := F
        refine J_iald dX4_set_60 g9 ?_
        refine J_bipush (v := nI 10) dX4_set_61 (by decide) ?_
        refine J_icmp_ne (tgt := 69) dX4_set_63 (by decide) (fun c => ?_) (fun c => ?_)
        · replace F := F.1 c
          refine J_aload_n dX4_set_69 1 rfl ?_
          obtain ⟨v_64, g9, F⟩ := F
          refine J_get (ci := 4) (k := 22) dX4_set_70 rfl in_X4_set_4 (by decide) lk_X4_set_120 g9 ?_
          refine J_if_ge (tgt := 84) dX4_set_73 (by decide) (fun c => ?_) (fun c => ?_)
          · replace F := F.1 c
            refine J_aload_n dX4_set_84 1 rfl ?_
            obtain ⟨v_65, g9, F⟩ := F
            refine J_get (ci := 4) (k := 22) dX4_set_85 rfl in_X4_set_4 (by decide) lk_X4_set_120 g9 ?_
            refine J_istore (lv' := [(7, .int v_65), (6, .int v_5), (0, .ref a0), (1, .int x1), (2, .long x2), (4, .long x3)]) dX4_set_88 (by decide) rfl ?_
            refine J_aload_n dX4_set_90 2 rfl ?_
            refine J_iload dX4_set_91 0 rfl ?_
            obtain ⟨b9, F⟩ := F
            refine J_callV0 (ci := 4) (n := 1) (As := [.int v_65]) (rest := []) dX4_set_93 rfl gX4_set_X4_touchOf rfl (by decide +kernel) rfl (by decide) b9 (Nat.le_of_ble_eq_true rfl) (Nat.le_refl _) (Nat.le_refl _) F kV_no (kV_kk (fun h_66 F => ?_))
            refine J_aload_n dX4_set_96 2 rfl ?_
            refine J_iload dX4_set_97 0 rfl ?_
            refine J_lload_n dX4_set_99 4 rfl ?_
            obtain ⟨b9, F⟩ := F
            refine J_callV0 (ci := 4) (n := 2) (As := [.int v_65, .long x2]) (rest := []) dX4_set_100 rfl gX4_set_X4_placeOf rfl (by decide +kernel) rfl (by decide) b9 (Nat.le_of_ble_eq_true rfl) (Nat.le_refl _) (Nat.le_refl _) F kI_no (kI_kk (fun v_68 h_67 F => ?_))
            refine J_istore (lv' := [(8, .int v_68), (7, .int v_65), (6, .int v_5), (0, .ref a0), (1, .int x1), (2, .long x2), (4, .long x3)]) dX4_set_103 (by decide) rfl ?_
            refine J_iload dX4_set_105 2 rfl ?_
            refine J_if_ne (tgt := 213) dX4_set_107 (by decide) (fun c => ?_) (fun c => ?_)
            · replace F := F.1 c
              refine J_aload_n dX4_set_213 3 rfl ?_
              obtain ⟨p_69, g9, F⟩ := F
              refine J_get (ci := 4) (k := 11) dX4_set_214 rfl in_X4_set_4 (by decide) lk_X4_set_38 g9 ?_
              refine J_bipush (v := nI 10) dX4_set_217 (by decide) ?_
              refine J_iload dX4_set_219 1 rfl ?_
              refine J_imul dX4_set_221 ?_
              refine J_iload dX4_set_222 0 rfl ?_
              refine J_iadd dX4_set_224 ?_
              refine J_lload dX4_set_225 6 rfl ?_
              obtain ⟨h_70, g9, F⟩ := F
              refine J_last dX4_set_227 g9 ?_
              refine J_iload dX4_set_228 2 rfl ?_
              refine J_if_eq (tgt := 237) dX4_set_230 (by decide) (fun c => ?_) (fun c => ?_)
              · replace F := F.1 c
                refine J_iconst (v := nI 1) dX4_set_237 (by decide) ?_
                exact J_iret dX4_set_238 rfl (Nat.le_refl _) (Nat.le_refl _) F
              · replace F := F.2 c
                refine J_iconst (v := nI 0) dX4_set_233 (by decide) ?_
                refine J_goto (tgt := 238) dX4_set_234 (by decide) ?_
                exact J_iret dX4_set_238 rfl (Nat.le_refl _) (Nat.le_refl _) F
            · replace F := F.2 c
              refine J_aload_n dX4_set_110 3 rfl ?_
              obtain ⟨p_71, g9, F⟩ := F
              refine J_get (ci := 4) (k := 10) dX4_set_111 rfl in_X4_set_4 (by decide) lk_X4_set_35 g9 ?_
              refine J_iload dX4_set_114 1 rfl ?_
              obtain ⟨v_72, g9, F⟩ := F
              refine J_iald dX4_set_116 g9 ?_
              refine J_istore (lv' := [(9, .int v_72), (8, .int v_68), (7, .int v_65), (6, .int v_5), (0, .ref a0), (1, .int x1), (2, .long x2), (4, .long x3)]) dX4_set_117 (by decide) rfl ?_
              refine J_sub [4, 6, 7, 3, 2, 1, 0] rfl ?_
              refine F (fun (i_73 : Int32) (h_74 : Hp) => J l K yX4_set.cls cX4_set 10 (some .int) wsX4_set [] yX4_set.name 3 72 0 0 (QM K 0 0 Post) 119 [] [(0, .ref a0), (2, .long x2), (4, .long x3), (6, .int v_5), (7, .int v_65), (8, .int v_68), (9, .int i_73)] h_74 ((((0 + 0) + 0) + 0) + 0) ((((0 + 0) + 0) + 0) + 0)) ?_
              intro i_73 h_74 F
              refine J_iload dX4_set_119 6 rfl ?_
              refine J_iload dX4_set_121 5 rfl ?_
              refine J_icmp_le (tgt := 188) dX4_set_123 (by decide) (fun c => ?_) (fun c => ?_)
              · replace F := F.1 c
                refine J_aload_n dX4_set_188 0 rfl ?_
                obtain ⟨p_76, g9, F⟩ := F
                refine J_get (ci := 4) (k := 10) dX4_set_189 rfl in_X4_set_4 (by decide) lk_X4_set_35 g9 ?_
                refine J_iload dX4_set_192 4 rfl ?_
                refine J_dup2 dX4_set_194 rfl rfl ?_
                obtain ⟨v_77, g9, F⟩ := F
                refine J_iald dX4_set_195 g9 ?_
                refine J_iconst (v := nI 1) dX4_set_196 (by decide) ?_
                refine J_iadd dX4_set_197 ?_
                obtain ⟨h_78, g9, F⟩ := F
                refine J_iast dX4_set_198 g9 ?_
                refine J_aload_n dX4_set_199 0 rfl ?_
                obtain ⟨p_79, g9, F⟩ := F
                refine J_get (ci := 4) (k := 12) dX4_set_200 rfl in_X4_set_4 (by decide) lk_X4_set_41 g9 ?_
                refine J_bipush (v := nI 10) dX4_set_203 (by decide) ?_
                refine J_iload dX4_set_205 4 rfl ?_
                refine J_imul dX4_set_207 ?_
                refine J_iload dX4_set_208 5 rfl ?_
                refine J_iadd dX4_set_210 ?_
                refine J_lload_n dX4_set_211 1 rfl ?_
                obtain ⟨h_80, g9, F⟩ := F
                refine J_last dX4_set_212 g9 ?_
                refine J_aload_n dX4_set_213 0 rfl ?_
                obtain ⟨p_81, g9, F⟩ := F
                refine J_get (ci := 4) (k := 11) dX4_set_214 rfl in_X4_set_4 (by decide) lk_X4_set_38 g9 ?_
                refine J_bipush (v := nI 10) dX4_set_217 (by decide) ?_
                refine J_iload dX4_set_219 4 rfl ?_
                refine J_imul dX4_set_221 ?_
                refine J_iload dX4_set_222 5 rfl ?_
                refine J_iadd dX4_set_224 ?_
                refine J_lload dX4_set_225 2 rfl ?_
                obtain ⟨h_82, g9, F⟩ := F
                refine J_last dX4_set_227 g9 ?_
                refine J_iload dX4_set_228 3 rfl ?_
                refine J_if_eq (tgt := 237) dX4_set_230 (by decide) (fun c => ?_) (fun c => ?_)
                · replace F := F.1 c
                  refine J_iconst (v := nI 1) dX4_set_237 (by decide) ?_
                  exact J_iret dX4_set_238 rfl (Nat.le_refl _) (Nat.le_refl _) F
                · replace F := F.2 c
                  refine J_iconst (v := nI 0) dX4_set_233 (by decide) ?_
                  refine J_goto (tgt := 238) dX4_set_234 (by decide) ?_
                  exact J_iret dX4_set_238 rfl (Nat.le_refl _) (Nat.le_refl _) F
              · replace F := F.2 c
                refine J_aload_n dX4_set_126 0 rfl ?_
                obtain ⟨p_83, g9, F⟩ := F
                refine J_get (ci := 4) (k := 11) dX4_set_127 rfl in_X4_set_4 (by decide) lk_X4_set_38 g9 ?_
                refine J_bipush (v := nI 10) dX4_set_130 (by decide) ?_
                refine J_iload dX4_set_132 4 rfl ?_
                refine J_imul dX4_set_134 ?_
                refine J_iload dX4_set_135 6 rfl ?_
                refine J_iadd dX4_set_137 ?_
                refine J_aload_n dX4_set_138 0 rfl ?_
                obtain ⟨p_84, g9, F⟩ := F
                refine J_get (ci := 4) (k := 11) dX4_set_139 rfl in_X4_set_4 (by decide) lk_X4_set_38 g9 ?_
                refine J_bipush (v := nI 10) dX4_set_142 (by decide) ?_
                refine J_iload dX4_set_144 4 rfl ?_
                refine J_imul dX4_set_146 ?_
                refine J_iload dX4_set_147 6 rfl ?_
                refine J_iadd dX4_set_149 ?_
                refine J_iconst (v := nI 1) dX4_set_150 (by decide) ?_
                refine J_isub dX4_set_151 ?_
                obtain ⟨u_85, g9, F⟩ := F
                refine J_lald dX4_set_152 g9 ?_
                obtain ⟨h_86, g9, F⟩ := F
                refine J_last dX4_set_153 g9 ?_
                refine J_aload_n dX4_set_154 0 rfl ?_
                obtain ⟨p_87, g9, F⟩ := F
                refine J_get (ci := 4) (k := 12) dX4_set_155 rfl in_X4_set_4 (by decide) lk_X4_set_41 g9 ?_
                refine J_bipush (v := nI 10) dX4_set_158 (by decide) ?_
                refine J_iload dX4_set_160 4 rfl ?_
                refine J_imul dX4_set_162 ?_
                refine J_iload dX4_set_163 6 rfl ?_
                refine J_iadd dX4_set_165 ?_
                refine J_aload_n dX4_set_166 0 rfl ?_
                obtain ⟨p_88, g9, F⟩ := F
                refine J_get (ci := 4) (k := 12) dX4_set_167 rfl in_X4_set_4 (by decide) lk_X4_set_41 g9 ?_
                refine J_bipush (v := nI 10) dX4_set_170 (by decide) ?_
                refine J_iload dX4_set_172 4 rfl ?_
                refine J_imul dX4_set_174 ?_
                refine J_iload dX4_set_175 6 rfl ?_
                refine J_iadd dX4_set_177 ?_
                refine J_iconst (v := nI 1) dX4_set_178 (by decide) ?_
                refine J_isub dX4_set_179 ?_
                obtain ⟨u_89, g9, F⟩ := F
                refine J_lald dX4_set_180 g9 ?_
                obtain ⟨h_90, g9, F⟩ := F
                refine J_last dX4_set_181 g9 ?_
                refine J_iinc (v := i_73 + (-nI 1)) (lv' := [(9, .int (i_73 + (-nI 1))), (0, .ref a0), (2, .long x2), (4, .long x3), (6, .int v_5), (7, .int v_65), (8, .int v_68)]) dX4_set_182 6 rfl rfl (by decide) rfl ?_
                refine J_goto (tgt := 119) dX4_set_185 (by decide) ?_
                exact J_sub [1, 2, 3, 4, 5, 6, 0] rfl F
          · replace F := F.2 c
            refine J_aload_n dX4_set_76 1 rfl ?_
            refine J_iload_n dX4_set_77 2 rfl ?_
            obtain ⟨b9, F⟩ := F
            refine J_callV0 (ci := 4) (n := 1) (As := [.int x1]) (rest := []) dX4_set_78 rfl gX4_set_X4_newEntry rfl (by decide +kernel) rfl (by decide) b9 (Nat.le_of_ble_eq_true rfl) (Nat.le_refl _) (Nat.le_refl _) F kI_no (kI_kk (fun v_92 h_91 F => ?_))
            refine J_goto (tgt := 88) dX4_set_81 (by decide) ?_
            refine J_istore (lv' := [(7, .int v_92), (6, .int v_5), (0, .ref a0), (1, .int x1), (2, .long x2), (4, .long x3)]) dX4_set_88 (by decide) rfl ?_
            refine J_aload_n dX4_set_90 2 rfl ?_
            refine J_iload dX4_set_91 0 rfl ?_
            obtain ⟨b9, F⟩ := F
            refine J_callV0 (ci := 4) (n := 1) (As := [.int v_92]) (rest := []) dX4_set_93 rfl gX4_set_X4_touchOf rfl (by decide +kernel) rfl (by decide) b9 (Nat.le_of_ble_eq_true rfl) (Nat.le_refl _) (Nat.le_refl _) F kV_no (kV_kk (fun h_93 F => ?_))
            refine J_aload_n dX4_set_96 2 rfl ?_
            refine J_iload dX4_set_97 0 rfl ?_
            refine J_lload_n dX4_set_99 4 rfl ?_
            obtain ⟨b9, F⟩ := F
            refine J_callV0 (ci := 4) (n := 2) (As := [.int v_92, .long x2]) (rest := []) dX4_set_100 rfl gX4_set_X4_placeOf rfl (by decide +kernel) rfl (by decide) b9 (Nat.le_of_ble_eq_true rfl) (Nat.le_refl _) (Nat.le_refl _) F kI_no (kI_kk (fun v_95 h_94 F => ?_))
            refine J_istore (lv' := [(8, .int v_95), (7, .int v_92), (6, .int v_5), (0, .ref a0), (1, .int x1), (2, .long x2), (4, .long x3)]) dX4_set_103 (by decide) rfl ?_
            refine J_iload dX4_set_105 2 rfl ?_
            refine J_if_ne (tgt := 213) dX4_set_107 (by decide) (fun c => ?_) (fun c => ?_)
            · replace F := F.1 c
              refine J_aload_n dX4_set_213 3 rfl ?_
              obtain ⟨p_96, g9, F⟩ := F
              refine J_get (ci := 4) (k := 11) dX4_set_214 rfl in_X4_set_4 (by decide) lk_X4_set_38 g9 ?_
              refine J_bipush (v := nI 10) dX4_set_217 (by decide) ?_
              refine J_iload dX4_set_219 1 rfl ?_
              refine J_imul dX4_set_221 ?_
              refine J_iload dX4_set_222 0 rfl ?_
              refine J_iadd dX4_set_224 ?_
              refine J_lload dX4_set_225 6 rfl ?_
              obtain ⟨h_97, g9, F⟩ := F
              refine J_last dX4_set_227 g9 ?_
              refine J_iload dX4_set_228 2 rfl ?_
              refine J_if_eq (tgt := 237) dX4_set_230 (by decide) (fun c => ?_) (fun c => ?_)
              · replace F := F.1 c
                refine J_iconst (v := nI 1) dX4_set_237 (by decide) ?_
                exact J_iret dX4_set_238 rfl (Nat.le_refl _) (Nat.le_refl _) F
              · replace F := F.2 c
                refine J_iconst (v := nI 0) dX4_set_233 (by decide) ?_
                refine J_goto (tgt := 238) dX4_set_234 (by decide) ?_
                exact J_iret dX4_set_238 rfl (Nat.le_refl _) (Nat.le_refl _) F
            · replace F := F.2 c
              refine J_aload_n dX4_set_110 3 rfl ?_
              obtain ⟨p_98, g9, F⟩ := F
              refine J_get (ci := 4) (k := 10) dX4_set_111 rfl in_X4_set_4 (by decide) lk_X4_set_35 g9 ?_
              refine J_iload dX4_set_114 1 rfl ?_
              obtain ⟨v_99, g9, F⟩ := F
              refine J_iald dX4_set_116 g9 ?_
              refine J_istore (lv' := [(9, .int v_99), (8, .int v_95), (7, .int v_92), (6, .int v_5), (0, .ref a0), (1, .int x1), (2, .long x2), (4, .long x3)]) dX4_set_117 (by decide) rfl ?_
              refine J_sub [4, 6, 7, 3, 2, 1, 0] rfl ?_
              refine F (fun (i_100 : Int32) (h_101 : Hp) => J l K yX4_set.cls cX4_set 10 (some .int) wsX4_set [] yX4_set.name 3 72 0 0 (QM K 0 0 Post) 119 [] [(0, .ref a0), (2, .long x2), (4, .long x3), (6, .int v_5), (7, .int v_92), (8, .int v_95), (9, .int i_100)] h_101 (((((0 + 0) + 0) + 0) + 0) + 0) (((((0 + 0) + 0) + 0) + 0) + 0)) ?_
              intro i_100 h_101 F
              refine J_iload dX4_set_119 6 rfl ?_
              refine J_iload dX4_set_121 5 rfl ?_
              refine J_icmp_le (tgt := 188) dX4_set_123 (by decide) (fun c => ?_) (fun c => ?_)
              · replace F := F.1 c
                refine J_aload_n dX4_set_188 0 rfl ?_
                obtain ⟨p_103, g9, F⟩ := F
                refine J_get (ci := 4) (k := 10) dX4_set_189 rfl in_X4_set_4 (by decide) lk_X4_set_35 g9 ?_
                refine J_iload dX4_set_192 4 rfl ?_
                refine J_dup2 dX4_set_194 rfl rfl ?_
                obtain ⟨v_104, g9, F⟩ := F
                refine J_iald dX4_set_195 g9 ?_
                refine J_iconst (v := nI 1) dX4_set_196 (by decide) ?_
                refine J_iadd dX4_set_197 ?_
                obtain ⟨h_105, g9, F⟩ := F
                refine J_iast dX4_set_198 g9 ?_
                refine J_aload_n dX4_set_199 0 rfl ?_
                obtain ⟨p_106, g9, F⟩ := F
                refine J_get (ci := 4) (k := 12) dX4_set_200 rfl in_X4_set_4 (by decide) lk_X4_set_41 g9 ?_
                refine J_bipush (v := nI 10) dX4_set_203 (by decide) ?_
                refine J_iload dX4_set_205 4 rfl ?_
                refine J_imul dX4_set_207 ?_
                refine J_iload dX4_set_208 5 rfl ?_
                refine J_iadd dX4_set_210 ?_
                refine J_lload_n dX4_set_211 1 rfl ?_
                obtain ⟨h_107, g9, F⟩ := F
                refine J_last dX4_set_212 g9 ?_
                refine J_aload_n dX4_set_213 0 rfl ?_
                obtain ⟨p_108, g9, F⟩ := F
                refine J_get (ci := 4) (k := 11) dX4_set_214 rfl in_X4_set_4 (by decide) lk_X4_set_38 g9 ?_
                refine J_bipush (v := nI 10) dX4_set_217 (by decide) ?_
                refine J_iload dX4_set_219 4 rfl ?_
                refine J_imul dX4_set_221 ?_
                refine J_iload dX4_set_222 5 rfl ?_
                refine J_iadd dX4_set_224 ?_
                refine J_lload dX4_set_225 2 rfl ?_
                obtain ⟨h_109, g9, F⟩ := F
                refine J_last dX4_set_227 g9 ?_
                refine J_iload dX4_set_228 3 rfl ?_
                refine J_if_eq (tgt := 237) dX4_set_230 (by decide) (fun c => ?_) (fun c => ?_)
                · replace F := F.1 c
                  refine J_iconst (v := nI 1) dX4_set_237 (by decide) ?_
                  exact J_iret dX4_set_238 rfl (Nat.le_refl _) (Nat.le_refl _) F
                · replace F := F.2 c
                  refine J_iconst (v := nI 0) dX4_set_233 (by decide) ?_
                  refine J_goto (tgt := 238) dX4_set_234 (by decide) ?_
                  exact J_iret dX4_set_238 rfl (Nat.le_refl _) (Nat.le_refl _) F
              · replace F := F.2 c
                refine J_aload_n dX4_set_126 0 rfl ?_
                obtain ⟨p_110, g9, F⟩ := F
                refine J_get (ci := 4) (k := 11) dX4_set_127 rfl in_X4_set_4 (by decide) lk_X4_set_38 g9 ?_
                refine J_bipush (v := nI 10) dX4_set_130 (by decide) ?_
                refine J_iload dX4_set_132 4 rfl ?_
                refine J_imul dX4_set_134 ?_
                refine J_iload dX4_set_135 6 rfl ?_
                refine J_iadd dX4_set_137 ?_
                refine J_aload_n dX4_set_138 0 rfl ?_
                obtain ⟨p_111, g9, F⟩ := F
                refine J_get (ci := 4) (k := 11) dX4_set_139 rfl in_X4_set_4 (by decide) lk_X4_set_38 g9 ?_
                refine J_bipush (v := nI 10) dX4_set_142 (by decide) ?_
                refine J_iload dX4_set_144 4 rfl ?_
                refine J_imul dX4_set_146 ?_
                refine J_iload dX4_set_147 6 rfl ?_
                refine J_iadd dX4_set_149 ?_
                refine J_iconst (v := nI 1) dX4_set_150 (by decide) ?_
                refine J_isub dX4_set_151 ?_
                obtain ⟨u_112, g9, F⟩ := F
                refine J_lald dX4_set_152 g9 ?_
                obtain ⟨h_113, g9, F⟩ := F
                refine J_last dX4_set_153 g9 ?_
                refine J_aload_n dX4_set_154 0 rfl ?_
                obtain ⟨p_114, g9, F⟩ := F
                refine J_get (ci := 4) (k := 12) dX4_set_155 rfl in_X4_set_4 (by decide) lk_X4_set_41 g9 ?_
                refine J_bipush (v := nI 10) dX4_set_158 (by decide) ?_
                refine J_iload dX4_set_160 4 rfl ?_
                refine J_imul dX4_set_162 ?_
                refine J_iload dX4_set_163 6 rfl ?_
                refine J_iadd dX4_set_165 ?_
                refine J_aload_n dX4_set_166 0 rfl ?_
                obtain ⟨p_115, g9, F⟩ := F
                refine J_get (ci := 4) (k := 12) dX4_set_167 rfl in_X4_set_4 (by decide) lk_X4_set_41 g9 ?_
                refine J_bipush (v := nI 10) dX4_set_170 (by decide) ?_
                refine J_iload dX4_set_172 4 rfl ?_
                refine J_imul dX4_set_174 ?_
                refine J_iload dX4_set_175 6 rfl ?_
                refine J_iadd dX4_set_177 ?_
                refine J_iconst (v := nI 1) dX4_set_178 (by decide) ?_
                refine J_isub dX4_set_179 ?_
                obtain ⟨u_116, g9, F⟩ := F
                refine J_lald dX4_set_180 g9 ?_
                obtain ⟨h_117, g9, F⟩ := F
                refine J_last dX4_set_181 g9 ?_
                refine J_iinc (v := i_100 + (-nI 1)) (lv' := [(9, .int (i_100 + (-nI 1))), (0, .ref a0), (2, .long x2), (4, .long x3), (6, .int v_5), (7, .int v_92), (8, .int v_95)]) dX4_set_182 6 rfl rfl (by decide) rfl ?_
                refine J_goto (tgt := 119) dX4_set_185 (by decide) ?_
                exact J_sub [1, 2, 3, 4, 5, 6, 0] rfl F
        · replace F := F.2 c
          refine J_bipush (v := -nI 4) dX4_set_66 (by decide) ?_
          exact J_iret dX4_set_68 rfl (Nat.le_refl _) (Nat.le_refl _) F
      · replace F := F.2 c
        refine J_aload_n dX4_set_37 1 rfl ?_
        obtain ⟨p_118, g9, F⟩ := F
        refine J_get (ci := 4) (k := 6) dX4_set_38 rfl in_X4_set_4 (by decide) lk_X4_set_22 g9 ?_
        refine J_iconst (v := nI 0) dX4_set_41 (by decide) ?_
        obtain ⟨v_119, g9, F⟩ := F
        refine J_iald dX4_set_42 g9 ?_
        refine J_sipush (v := nI 150) dX4_set_43 (by decide) ?_
        refine J_icmp_ne (tgt := 69) dX4_set_46 (by decide) (fun c => ?_) (fun c => ?_)
        · replace F := F.1 c
          refine J_aload_n dX4_set_69 1 rfl ?_
          obtain ⟨v_120, g9, F⟩ := F
          refine J_get (ci := 4) (k := 22) dX4_set_70 rfl in_X4_set_4 (by decide) lk_X4_set_120 g9 ?_
          refine J_if_ge (tgt := 84) dX4_set_73 (by decide) (fun c => ?_) (fun c => ?_)
          · replace F := F.1 c
            refine J_aload_n dX4_set_84 1 rfl ?_
            obtain ⟨v_121, g9, F⟩ := F
            refine J_get (ci := 4) (k := 22) dX4_set_85 rfl in_X4_set_4 (by decide) lk_X4_set_120 g9 ?_
            refine J_istore (lv' := [(7, .int v_121), (6, .int v_5), (0, .ref a0), (1, .int x1), (2, .long x2), (4, .long x3)]) dX4_set_88 (by decide) rfl ?_
            refine J_aload_n dX4_set_90 2 rfl ?_
            refine J_iload dX4_set_91 0 rfl ?_
            obtain ⟨b9, F⟩ := F
            refine J_callV0 (ci := 4) (n := 1) (As := [.int v_121]) (rest := []) dX4_set_93 rfl gX4_set_X4_touchOf rfl (by decide +kernel) rfl (by decide) b9 (Nat.le_of_ble_eq_true rfl) (Nat.le_refl _) (Nat.le_refl _) F kV_no (kV_kk (fun h_122 F => ?_))
            refine J_aload_n dX4_set_96 2 rfl ?_
            refine J_iload dX4_set_97 0 rfl ?_
            refine J_lload_n dX4_set_99 4 rfl ?_
            obtain ⟨b9, F⟩ := F
            refine J_callV0 (ci := 4) (n := 2) (As := [.int v_121, .long x2]) (rest := []) dX4_set_100 rfl gX4_set_X4_placeOf rfl (by decide +kernel) rfl (by decide) b9 (Nat.le_of_ble_eq_true rfl) (Nat.le_refl _) (Nat.le_refl _) F kI_no (kI_kk (fun v_124 h_123 F => ?_))
            refine J_istore (lv' := [(8, .int v_124), (7, .int v_121), (6, .int v_5), (0, .ref a0), (1, .int x1), (2, .long x2), (4, .long x3)]) dX4_set_103 (by decide) rfl ?_
            refine J_iload dX4_set_105 2 rfl ?_
            refine J_if_ne (tgt := 213) dX4_set_107 (by decide) (fun c => ?_) (fun c => ?_)
            · replace F := F.1 c
              refine J_aload_n dX4_set_213 3 rfl ?_
              obtain ⟨p_125, g9, F⟩ := F
              refine J_get (ci := 4) (k := 11) dX4_set_214 rfl in_X4_set_4 (by decide) lk_X4_set_38 g9 ?_
              refine J_bipush (v := nI 10) dX4_set_217 (by decide) ?_
              refine J_iload dX4_set_219 1 rfl ?_
              refine J_imul dX4_set_221 ?_
              refine J_iload dX4_set_222 0 rfl ?_
              refine J_iadd dX4_set_224 ?_
              refine J_lload dX4_set_225 6 rfl ?_
              obtain ⟨h_126, g9, F⟩ := F
              refine J_last dX4_set_227 g9 ?_
              refine J_iload dX4_set_228 2 rfl ?_
              refine J_if_eq (tgt := 237) dX4_set_230 (by decide) (fun c => ?_) (fun c => ?_)
              · replace F := F.1 c
                refine J_iconst (v := nI 1) dX4_set_237 (by decide) ?_
                exact J_iret dX4_set_238 rfl (Nat.le_refl _) (Nat.le_refl _) F
              · replace F := F.2 c
                refine J_iconst (v := nI 0) dX4_set_233 (by decide) ?_
                refine J_goto (tgt := 238) dX4_set_234 (by decide) ?_
                exact J_iret dX4_set_238 rfl (Nat.le_refl _) (Nat.le_refl _) F
            · replace F := F.2 c
              refine J_aload_n dX4_set_110 3 rfl ?_
              obtain ⟨p_127, g9, F⟩ := F
              refine J_get (ci := 4) (k := 10) dX4_set_111 rfl in_X4_set_4 (by decide) lk_X4_set_35 g9 ?_
              refine J_iload dX4_set_114 1 rfl ?_
              obtain ⟨v_128, g9, F⟩ := F
              refine J_iald dX4_set_116 g9 ?_
              refine J_istore (lv' := [(9, .int v_128), (8, .int v_124), (7, .int v_121), (6, .int v_5), (0, .ref a0), (1, .int x1), (2, .long x2), (4, .long x3)]) dX4_set_117 (by decide) rfl ?_
              refine J_sub [4, 6, 7, 3, 2, 1, 0] rfl ?_
              refine F (fun (i_129 : Int32) (h_130 : Hp) => J l K yX4_set.cls cX4_set 10 (some .int) wsX4_set [] yX4_set.name 3 72 0 0 (QM K 0 0 Post) 119 [] [(0, .ref a0), (2, .long x2), (4, .long x3), (6, .int v_5), (7, .int v_121), (8, .int v_124), (9, .int i_129)] h_130 ((((0 + 0) + 0) + 0) + 0) ((((0 + 0) + 0) + 0) + 0)) ?_
              intro i_129 h_130 F
              refine J_iload dX4_set_119 6 rfl ?_
              refine J_iload dX4_set_121 5 rfl ?_
              refine J_icmp_le (tgt := 188) dX4_set_123 (by decide) (fun c => ?_) (fun c => ?_)
              · replace F := F.1 c
                refine J_aload_n dX4_set_188 0 rfl ?_
                obtain ⟨p_132, g9, F⟩ := F
                refine J_get (ci := 4) (k := 10) dX4_set_189 rfl in_X4_set_4 (by decide) lk_X4_set_35 g9 ?_
                refine J_iload dX4_set_192 4 rfl ?_
                refine J_dup2 dX4_set_194 rfl rfl ?_
                obtain ⟨v_133, g9, F⟩ := F
                refine J_iald dX4_set_195 g9 ?_
                refine J_iconst (v := nI 1) dX4_set_196 (by decide) ?_
                refine J_iadd dX4_set_197 ?_
                obtain ⟨h_134, g9, F⟩ := F
                refine J_iast dX4_set_198 g9 ?_
                refine J_aload_n dX4_set_199 0 rfl ?_
                obtain ⟨p_135, g9, F⟩ := F
                refine J_get (ci := 4) (k := 12) dX4_set_200 rfl in_X4_set_4 (by decide) lk_X4_set_41 g9 ?_
                refine J_bipush (v := nI 10) dX4_set_203 (by decide) ?_
                refine J_iload dX4_set_205 4 rfl ?_
                refine J_imul dX4_set_207 ?_
                refine J_iload dX4_set_208 5 rfl ?_
                refine J_iadd dX4_set_210 ?_
                refine J_lload_n dX4_set_211 1 rfl ?_
                obtain ⟨h_136, g9, F⟩ := F
                refine J_last dX4_set_212 g9 ?_
                refine J_aload_n dX4_set_213 0 rfl ?_
                obtain ⟨p_137, g9, F⟩ := F
                refine J_get (ci := 4) (k := 11) dX4_set_214 rfl in_X4_set_4 (by decide) lk_X4_set_38 g9 ?_
                refine J_bipush (v := nI 10) dX4_set_217 (by decide) ?_
                refine J_iload dX4_set_219 4 rfl ?_
                refine J_imul dX4_set_221 ?_
                refine J_iload dX4_set_222 5 rfl ?_
                refine J_iadd dX4_set_224 ?_
                refine J_lload dX4_set_225 2 rfl ?_
                obtain ⟨h_138, g9, F⟩ := F
                refine J_last dX4_set_227 g9 ?_
                refine J_iload dX4_set_228 3 rfl ?_
                refine J_if_eq (tgt := 237) dX4_set_230 (by decide) (fun c => ?_) (fun c => ?_)
                · replace F := F.1 c
                  refine J_iconst (v := nI 1) dX4_set_237 (by decide) ?_
                  exact J_iret dX4_set_238 rfl (Nat.le_refl _) (Nat.le_refl _) F
                · replace F := F.2 c
                  refine J_iconst (v := nI 0) dX4_set_233 (by decide) ?_
                  refine J_goto (tgt := 238) dX4_set_234 (by decide) ?_
                  exact J_iret dX4_set_238 rfl (Nat.le_refl _) (Nat.le_refl _) F
              · replace F := F.2 c
                refine J_aload_n dX4_set_126 0 rfl ?_
                obtain ⟨p_139, g9, F⟩ := F
                refine J_get (ci := 4) (k := 11) dX4_set_127 rfl in_X4_set_4 (by decide) lk_X4_set_38 g9 ?_
                refine J_bipush (v := nI 10) dX4_set_130 (by decide) ?_
                refine J_iload dX4_set_132 4 rfl ?_
                refine J_imul dX4_set_134 ?_
                refine J_iload dX4_set_135 6 rfl ?_
                refine J_iadd dX4_set_137 ?_
                refine J_aload_n dX4_set_138 0 rfl ?_
                obtain ⟨p_140, g9, F⟩ := F
                refine J_get (ci := 4) (k := 11) dX4_set_139 rfl in_X4_set_4 (by decide) lk_X4_set_38 g9 ?_
                refine J_bipush (v := nI 10) dX4_set_142 (by decide) ?_
                refine J_iload dX4_set_144 4 rfl ?_
                refine J_imul dX4_set_146 ?_
                refine J_iload dX4_set_147 6 rfl ?_
                refine J_iadd dX4_set_149 ?_
                refine J_iconst (v := nI 1) dX4_set_150 (by decide) ?_
                refine J_isub dX4_set_151 ?_
                obtain ⟨u_141, g9, F⟩ := F
                refine J_lald dX4_set_152 g9 ?_
                obtain ⟨h_142, g9, F⟩ := F
                refine J_last dX4_set_153 g9 ?_
                refine J_aload_n dX4_set_154 0 rfl ?_
                obtain ⟨p_143, g9, F⟩ := F
                refine J_get (ci := 4) (k := 12) dX4_set_155 rfl in_X4_set_4 (by decide) lk_X4_set_41 g9 ?_
                refine J_bipush (v := nI 10) dX4_set_158 (by decide) ?_
                refine J_iload dX4_set_160 4 rfl ?_
                refine J_imul dX4_set_162 ?_
                refine J_iload dX4_set_163 6 rfl ?_
                refine J_iadd dX4_set_165 ?_
                refine J_aload_n dX4_set_166 0 rfl ?_
                obtain ⟨p_144, g9, F⟩ := F
                refine J_get (ci := 4) (k := 12) dX4_set_167 rfl in_X4_set_4 (by decide) lk_X4_set_41 g9 ?_
                refine J_bipush (v := nI 10) dX4_set_170 (by decide) ?_
                refine J_iload dX4_set_172 4 rfl ?_
                refine J_imul dX4_set_174 ?_
                refine J_iload dX4_set_175 6 rfl ?_
                refine J_iadd dX4_set_177 ?_
                refine J_iconst (v := nI 1) dX4_set_178 (by decide) ?_
                refine J_isub dX4_set_179 ?_
                obtain ⟨u_145, g9, F⟩ := F
                refine J_lald dX4_set_180 g9 ?_
                obtain ⟨h_146, g9, F⟩ := F
                refine J_last dX4_set_181 g9 ?_
                refine J_iinc (v := i_129 + (-nI 1)) (lv' := [(9, .int (i_129 + (-nI 1))), (0, .ref a0), (2, .long x2), (4, .long x3), (6, .int v_5), (7, .int v_121), (8, .int v_124)]) dX4_set_182 6 rfl rfl (by decide) rfl ?_
                refine J_goto (tgt := 119) dX4_set_185 (by decide) ?_
                exact J_sub [1, 2, 3, 4, 5, 6, 0] rfl F
          · replace F := F.2 c
            refine J_aload_n dX4_set_76 1 rfl ?_
            refine J_iload_n dX4_set_77 2 rfl ?_
            obtain ⟨b9, F⟩ := F
            refine J_callV0 (ci := 4) (n := 1) (As := [.int x1]) (rest := []) dX4_set_78 rfl gX4_set_X4_newEntry rfl (by decide +kernel) rfl (by decide) b9 (Nat.le_of_ble_eq_true rfl) (Nat.le_refl _) (Nat.le_refl _) F kI_no (kI_kk (fun v_148 h_147 F => ?_))
            refine J_goto (tgt := 88) dX4_set_81 (by decide) ?_
            refine J_istore (lv' := [(7, .int v_148), (6, .int v_5), (0, .ref a0), (1, .int x1), (2, .long x2), (4, .long x3)]) dX4_set_88 (by decide) rfl ?_
            refine J_aload_n dX4_set_90 2 rfl ?_
            refine J_iload dX4_set_91 0 rfl ?_
            obtain ⟨b9, F⟩ := F
            refine J_callV0 (ci := 4) (n := 1) (As := [.int v_148]) (rest := []) dX4_set_93 rfl gX4_set_X4_touchOf rfl (by decide +kernel) rfl (by decide) b9 (Nat.le_of_ble_eq_true rfl) (Nat.le_refl _) (Nat.le_refl _) F kV_no (kV_kk (fun h_149 F => ?_))
            refine J_aload_n dX4_set_96 2 rfl ?_
            refine J_iload dX4_set_97 0 rfl ?_
            refine J_lload_n dX4_set_99 4 rfl ?_
            obtain ⟨b9, F⟩ := F
            refine J_callV0 (ci := 4) (n := 2) (As := [.int v_148, .long x2]) (rest := []) dX4_set_100 rfl gX4_set_X4_placeOf rfl (by decide +kernel) rfl (by decide) b9 (Nat.le_of_ble_eq_true rfl) (Nat.le_refl _) (Nat.le_refl _) F kI_no (kI_kk (fun v_151 h_150 F => ?_))
            refine J_istore (lv' := [(8, .int v_151), (7, .int v_148), (6, .int v_5), (0, .ref a0), (1, .int x1), (2, .long x2), (4, .long x3)]) dX4_set_103 (by decide) rfl ?_
            refine J_iload dX4_set_105 2 rfl ?_
            refine J_if_ne (tgt := 213) dX4_set_107 (by decide) (fun c => ?_) (fun c => ?_)
            · replace F := F.1 c
              refine J_aload_n dX4_set_213 3 rfl ?_
              obtain ⟨p_152, g9, F⟩ := F
              refine J_get (ci := 4) (k := 11) dX4_set_214 rfl in_X4_set_4 (by decide) lk_X4_set_38 g9 ?_
              refine J_bipush (v := nI 10) dX4_set_217 (by decide) ?_
              refine J_iload dX4_set_219 1 rfl ?_
              refine J_imul dX4_set_221 ?_
              refine J_iload dX4_set_222 0 rfl ?_
              refine J_iadd dX4_set_224 ?_
              refine J_lload dX4_set_225 6 rfl ?_
              obtain ⟨h_153, g9, F⟩ := F
              refine J_last dX4_set_227 g9 ?_
              refine J_iload dX4_set_228 2 rfl ?_
              refine J_if_eq (tgt := 237) dX4_set_230 (by decide) (fun c => ?_) (fun c => ?_)
              · replace F := F.1 c
                refine J_iconst (v := nI 1) dX4_set_237 (by decide) ?_
                exact J_iret dX4_set_238 rfl (Nat.le_refl _) (Nat.le_refl _) F
              · replace F := F.2 c
                refine J_iconst (v := nI 0) dX4_set_233 (by decide) ?_
                refine J_goto (tgt := 238) dX4_set_234 (by decide) ?_
                exact J_iret dX4_set_238 rfl (Nat.le_refl _) (Nat.le_refl _) F
            · replace F := F.2 c
              refine J_aload_n dX4_set_110 3 rfl ?_
              obtain ⟨p_154, g9, F⟩ := F
              refine J_get (ci := 4) (k := 10) dX4_set_111 rfl in_X4_set_4 (by decide) lk_X4_set_35 g9 ?_
              refine J_iload dX4_set_114 1 rfl ?_
              obtain ⟨v_155, g9, F⟩ := F
              refine J_iald dX4_set_116 g9 ?_
              refine J_istore (lv' := [(9, .int v_155), (8, .int v_151), (7, .int v_148), (6, .int v_5), (0, .ref a0), (1, .int x1), (2, .long x2), (4, .long x3)]) dX4_set_117 (by decide) rfl ?_
              refine J_sub [4, 6, 7, 3, 2, 1, 0] rfl ?_
              refine F (fun (i_156 : Int32) (h_157 : Hp) => J l K yX4_set.cls cX4_set 10 (some .int) wsX4_set [] yX4_set.name 3 72 0 0 (QM K 0 0 Post) 119 [] [(0, .ref a0), (2, .long x2), (4, .long x3), (6, .int v_5), (7, .int v_148), (8, .int v_151), (9, .int i_156)] h_157 (((((0 + 0) + 0) + 0) + 0) + 0) (((((0 + 0) + 0) + 0) + 0) + 0)) ?_
              intro i_156 h_157 F
              refine J_iload dX4_set_119 6 rfl ?_
              refine J_iload dX4_set_121 5 rfl ?_
              refine J_icmp_le (tgt := 188) dX4_set_123 (by decide) (fun c => ?_) (fun c => ?_)
              · replace F := F.1 c
                refine J_aload_n dX4_set_188 0 rfl ?_
                obtain ⟨p_159, g9, F⟩ := F
                refine J_get (ci := 4) (k := 10) dX4_set_189 rfl in_X4_set_4 (by decide) lk_X4_set_35 g9 ?_
                refine J_iload dX4_set_192 4 rfl ?_
                refine J_dup2 dX4_set_194 rfl rfl ?_
                obtain ⟨v_160, g9, F⟩ := F
                refine J_iald dX4_set_195 g9 ?_
                refine J_iconst (v := nI 1) dX4_set_196 (by decide) ?_
                refine J_iadd dX4_set_197 ?_
                obtain ⟨h_161, g9, F⟩ := F
                refine J_iast dX4_set_198 g9 ?_
                refine J_aload_n dX4_set_199 0 rfl ?_
                obtain ⟨p_162, g9, F⟩ := F
                refine J_get (ci := 4) (k := 12) dX4_set_200 rfl in_X4_set_4 (by decide) lk_X4_set_41 g9 ?_
                refine J_bipush (v := nI 10) dX4_set_203 (by decide) ?_
                refine J_iload dX4_set_205 4 rfl ?_
                refine J_imul dX4_set_207 ?_
                refine J_iload dX4_set_208 5 rfl ?_
                refine J_iadd dX4_set_210 ?_
                refine J_lload_n dX4_set_211 1 rfl ?_
                obtain ⟨h_163, g9, F⟩ := F
                refine J_last dX4_set_212 g9 ?_
                refine J_aload_n dX4_set_213 0 rfl ?_
                obtain ⟨p_164, g9, F⟩ := F
                refine J_get (ci := 4) (k := 11) dX4_set_214 rfl in_X4_set_4 (by decide) lk_X4_set_38 g9 ?_
                refine J_bipush (v := nI 10) dX4_set_217 (by decide) ?_
                refine J_iload dX4_set_219 4 rfl ?_
                refine J_imul dX4_set_221 ?_
                refine J_iload dX4_set_222 5 rfl ?_
                refine J_iadd dX4_set_224 ?_
                refine J_lload dX4_set_225 2 rfl ?_
                obtain ⟨h_165, g9, F⟩ := F
                refine J_last dX4_set_227 g9 ?_
                refine J_iload dX4_set_228 3 rfl ?_
                refine J_if_eq (tgt := 237) dX4_set_230 (by decide) (fun c => ?_) (fun c => ?_)
                · replace F := F.1 c
                  refine J_iconst (v := nI 1) dX4_set_237 (by decide) ?_
                  exact J_iret dX4_set_238 rfl (Nat.le_refl _) (Nat.le_refl _) F
                · replace F := F.2 c
                  refine J_iconst (v := nI 0) dX4_set_233 (by decide) ?_
                  refine J_goto (tgt := 238) dX4_set_234 (by decide) ?_
                  exact J_iret dX4_set_238 rfl (Nat.le_refl _) (Nat.le_refl _) F
              · replace F := F.2 c
                refine J_aload_n dX4_set_126 0 rfl ?_
                obtain ⟨p_166, g9, F⟩ := F
                refine J_get (ci := 4) (k := 11) dX4_set_127 rfl in_X4_set_4 (by decide) lk_X4_set_38 g9 ?_
                refine J_bipush (v := nI 10) dX4_set_130 (by decide) ?_
                refine J_iload dX4_set_132 4 rfl ?_
                refine J_imul dX4_set_134 ?_
                refine J_iload dX4_set_135 6 rfl ?_
                refine J_iadd dX4_set_137 ?_
                refine J_aload_n dX4_set_138 0 rfl ?_
                obtain ⟨p_167, g9, F⟩ := F
                refine J_get (ci := 4) (k := 11) dX4_set_139 rfl in_X4_set_4 (by decide) lk_X4_set_38 g9 ?_
                refine J_bipush (v := nI 10) dX4_set_142 (by decide) ?_
                refine J_iload dX4_set_144 4 rfl ?_
                refine J_imul dX4_set_146 ?_
                refine J_iload dX4_set_147 6 rfl ?_
                refine J_iadd dX4_set_149 ?_
                refine J_iconst (v := nI 1) dX4_set_150 (by decide) ?_
                refine J_isub dX4_set_151 ?_
                obtain ⟨u_168, g9, F⟩ := F
                refine J_lald dX4_set_152 g9 ?_
                obtain ⟨h_169, g9, F⟩ := F
                refine J_last dX4_set_153 g9 ?_
                refine J_aload_n dX4_set_154 0 rfl ?_
                obtain ⟨p_170, g9, F⟩ := F
                refine J_get (ci := 4) (k := 12) dX4_set_155 rfl in_X4_set_4 (by decide) lk_X4_set_41 g9 ?_
                refine J_bipush (v := nI 10) dX4_set_158 (by decide) ?_
                refine J_iload dX4_set_160 4 rfl ?_
                refine J_imul dX4_set_162 ?_
                refine J_iload dX4_set_163 6 rfl ?_
                refine J_iadd dX4_set_165 ?_
                refine J_aload_n dX4_set_166 0 rfl ?_
                obtain ⟨p_171, g9, F⟩ := F
                refine J_get (ci := 4) (k := 12) dX4_set_167 rfl in_X4_set_4 (by decide) lk_X4_set_41 g9 ?_
                refine J_bipush (v := nI 10) dX4_set_170 (by decide) ?_
                refine J_iload dX4_set_172 4 rfl ?_
                refine J_imul dX4_set_174 ?_
                refine J_iload dX4_set_175 6 rfl ?_
                refine J_iadd dX4_set_177 ?_
                refine J_iconst (v := nI 1) dX4_set_178 (by decide) ?_
                refine J_isub dX4_set_179 ?_
                obtain ⟨u_172, g9, F⟩ := F
                refine J_lald dX4_set_180 g9 ?_
                obtain ⟨h_173, g9, F⟩ := F
                refine J_last dX4_set_181 g9 ?_
                refine J_iinc (v := i_156 + (-nI 1)) (lv' := [(9, .int (i_156 + (-nI 1))), (0, .ref a0), (2, .long x2), (4, .long x3), (6, .int v_5), (7, .int v_148), (8, .int v_151)]) dX4_set_182 6 rfl rfl (by decide) rfl ?_
                refine J_goto (tgt := 119) dX4_set_185 (by decide) ?_
                exact J_sub [1, 2, 3, 4, 5, 6, 0] rfl F
        · replace F := F.2 c
          refine J_goto (tgt := 66) dX4_set_49 (by decide) ?_
          refine J_bipush (v := -nI 4) dX4_set_66 (by decide) ?_
          exact J_iret dX4_set_68 rfl (Nat.le_refl _) (Nat.le_refl _) F
  · replace F := F.2 c
    refine J_iconst (v := nI 0) dX4_set_12 (by decide) ?_
    exact J_iret dX4_set_13 rfl (Nat.le_refl _) (Nat.le_refl _) F

abbrev mX4_size (l : Launch) (K : Kx) (As : List Value) (h : Hp) (Post : Rs → Hp → Prop) : Prop := MX l K yX4_size wsX4_size 3 68 0 0 As h Post
set_option maxRecDepth 100000 in
set_option maxHeartbeats 4000000 in
theorem fX4_size {l : Launch} {K : Kx} {a0 : Nat} {x1 : Int32} {h : Hp} {Post : Rs → Hp → Prop} (htr : l.stackTraces = false)
    (F : ((∃ fs, h a0 = some (xO 4 fs)) ∧ mX4_lacks l K [.ref a0, .int x1] h (kI (fun v_2 h_1 => ((¬ v_2 = nI 0 → (Post (.inl (some (.int (nI 0)))) h_1)) ∧ (v_2 = nI 0 → (∃ v_3, gf h_1 a0 4 22 = some (.int v_3) ∧ ((nI 0 ≤ v_3 → (∃ p_4, gf h_1 a0 4 10 = some (.ref p_4) ∧ (∃ v_5, gf h_1 a0 4 22 = some (.int v_5) ∧ (∃ v_6, aI K h_1 p_4 v_5 = some v_6 ∧ (Post (.inl (some (.int v_6))) h_1))))) ∧ (¬ nI 0 ≤ v_3 → (Post (.inl (some (.int (nI 0)))) h_1)))))))))) :
    mX4_size l K [.ref a0, .int x1] h Post := by
  refine MX.enter htr (by decide) rfl (Nat.le_of_ble_eq_true rfl) ?_
  refine J_lveq (lv' := [(0, .ref a0), (1, .int x1)]) rfl ?_
  refine J_aload_n dX4_size_0 0 rfl ?_
  refine J_iload_n dX4_size_1 1 rfl ?_
  obtain ⟨b9, F⟩ := F
  refine J_callV0 (ci := 4) (n := 1) (As := [.int x1]) (rest := []) dX4_size_2 rfl gX4_size_X4_lacks rfl (by decide +kernel) rfl (by decide) b9 (Nat.le_of_ble_eq_true rfl) (Nat.le_refl _) (Nat.le_refl _) F kI_no (kI_kk (fun v_2 h_1 F => ?_))
  refine J_if_ne (tgt := 15) dX4_size_5 (by decide) (fun c => ?_) (fun c => ?_)
  · replace F := F.1 c
    refine J_iconst (v := nI 0) dX4_size_15 (by decide) ?_
    refine J_goto (tgt := 28) dX4_size_16 (by decide) ?_
    exact J_iret dX4_size_28 rfl (Nat.le_refl _) (Nat.le_refl _) F
  · replace F := F.2 c
    refine J_aload_n dX4_size_8 0 rfl ?_
    obtain ⟨v_3, g9, F⟩ := F
    refine J_get (ci := 4) (k := 22) dX4_size_9 rfl in_X4_size_4 (by decide) lk_X4_size_120 g9 ?_
    refine J_if_ge (tgt := 19) dX4_size_12 (by decide) (fun c => ?_) (fun c => ?_)
    · replace F := F.1 c
      refine J_aload_n dX4_size_19 0 rfl ?_
      obtain ⟨p_4, g9, F⟩ := F
      refine J_get (ci := 4) (k := 10) dX4_size_20 rfl in_X4_size_4 (by decide) lk_X4_size_35 g9 ?_
      refine J_aload_n dX4_size_23 0 rfl ?_
      obtain ⟨v_5, g9, F⟩ := F
      refine J_get (ci := 4) (k := 22) dX4_size_24 rfl in_X4_size_4 (by decide) lk_X4_size_120 g9 ?_
      obtain ⟨v_6, g9, F⟩ := F
      refine J_iald dX4_size_27 g9 ?_
      exact J_iret dX4_size_28 rfl (Nat.le_refl _) (Nat.le_refl _) F
    · replace F := F.2 c
      refine J_iconst (v := nI 0) dX4_size_15 (by decide) ?_
      refine J_goto (tgt := 28) dX4_size_16 (by decide) ?_
      exact J_iret dX4_size_28 rfl (Nat.le_refl _) (Nat.le_refl _) F

abbrev mX4_snapshot (l : Launch) (K : Kx) (As : List Value) (h : Hp) (Post : Rs → Hp → Prop) : Prop := MX l K yX4_snapshot wsX4_snapshot 2 46 0 0 As h Post
set_option maxRecDepth 100000 in
set_option maxHeartbeats 4000000 in
theorem fX4_snapshot {l : Launch} {K : Kx} {a0 : Nat} {h : Hp} {Post : Rs → Hp → Prop} (htr : l.stackTraces = false)
    (F : (∃ h_1, pf h a0 4 0 (.int (nI 0)) = some h_1 ∧ (∀ X_3 : Int32 → Prop, (∀ (i_2 : Int32), ((((nI 7) ≤ i_2 → ((¬ i_2 = (nI 7) → ((∃ fs, h_1 a0 = some (xO 4 fs)) ∧ mX4_copyAll l K [.ref a0, .int (nI 0), .int i_2] h_1 (kV (fun h_4 => (∀ X_7 : Int32 → Hp → Prop, (∀ (i_5 : Int32) (h_6 : Hp), ((∃ v_8, gf h_6 a0 4 1 = some (.int v_8) ∧ ((v_8 ≤ i_5 → (∃ p_9, gf h_6 a0 4 5 = some (.ref p_9) ∧ (∃ v_10, gf h_6 a0 4 1 = some (.int v_10) ∧ (∃ h_11, wI K h_6 p_9 i_2 v_10 = some h_11 ∧ (∃ p_12, gf h_11 a0 4 14 = some (.ref p_12) ∧ (∃ h_13, wZ K h_11 p_12 i_2 (nI 1) = some h_13 ∧ (∃ p_14, gf h_13 a0 4 15 = some (.ref p_14) ∧ (∃ v_15, gf h_13 a0 4 16 = some (.int v_15) ∧ (∃ h_16, wI K h_13 p_14 i_2 v_15 = some h_16 ∧ (∃ v_17, gf h_16 a0 4 16 = some (.int v_17) ∧ (∃ h_18, pf h_16 a0 4 16 (.int (v_17 + (nI 1))) = some h_18 ∧ (∃ v_19, gf h_18 a0 4 16 = some (.int v_19) ∧ (Post (.inl (some (.int (v_19 - (nI 1))))) h_18))))))))))))) ∧ (¬ v_8 ≤ i_5 → (∃ p_20, gf h_6 a0 4 3 = some (.ref p_20) ∧ (∃ p_21, gf h_6 a0 4 3 = some (.ref p_21) ∧ (∃ v_22, aI K h_6 p_21 i_5 = some v_22 ∧ (∃ h_23, wI K h_6 p_20 (((nI 8) * i_2) + i_5) v_22 = some h_23 ∧ (∃ p_24, gf h_23 a0 4 4 = some (.ref p_24) ∧ (∃ p_25, gf h_23 a0 4 4 = some (.ref p_25) ∧ (∃ v_26, aI K h_23 p_25 i_5 = some v_26 ∧ (∃ h_27, wI K h_23 p_24 (((nI 8) * i_2) + i_5) v_26 = some h_27 ∧ X_7 (i_5 + nI 1) h_27)))))))))))) → X_7 i_5 h_6) → X_7 (nI 0) h_4))))) ∧ (i_2 = (nI 7) → (Post (.inl (some (.int (-nI 4)))) h_1)))) ∧ (¬ (nI 7) ≤ i_2 → (∃ p_28, gf h_1 a0 4 14 = some (.ref p_28) ∧ (∃ v_29, aZ K h_1 p_28 i_2 = some v_29 ∧ ((v_29 = nI 0 → ((¬ i_2 = (nI 7) → ((∃ fs, h_1 a0 = some (xO 4 fs)) ∧ mX4_copyAll l K [.ref a0, .int (nI 0), .int i_2] h_1 (kV (fun h_30 => (∀ X_33 : Int32 → Hp → Prop, (∀ (i_31 : Int32) (h_32 : Hp), ((∃ v_34, gf h_32 a0 4 1 = some (.int v_34) ∧ ((v_34 ≤ i_31 → (∃ p_35, gf h_32 a0 4 5 = some (.ref p_35) ∧ (∃ v_36, gf h_32 a0 4 1 = some (.int v_36) ∧ (∃ h_37, wI K h_32 p_35 i_2 v_36 = some h_37 ∧ (∃ p_38, gf h_37 a0 4 14 = some (.ref p_38) ∧ (∃ h_39, wZ K h_37 p_38 i_2 (nI 1) = some h_39 ∧ (∃ p_40, gf h_39 a0 4 15 = some (.ref p_40) ∧ (∃ v_41, gf h_39 a0 4 16 = some (.int v_41) ∧ (∃ h_42, wI K h_39 p_40 i_2 v_41 = some h_42 ∧ (∃ v_43, gf h_42 a0 4 16 = some (.int v_43) ∧ (∃ h_44, pf h_42 a0 4 16 (.int (v_43 + (nI 1))) = some h_44 ∧ (∃ v_45, gf h_44 a0 4 16 = some (.int v_45) ∧ (Post (.inl (some (.int (v_45 - (nI 1))))) h_44))))))))))))) ∧ (¬ v_34 ≤ i_31 → (∃ p_46, gf h_32 a0 4 3 = some (.ref p_46) ∧ (∃ p_47, gf h_32 a0 4 3 = some (.ref p_47) ∧ (∃ v_48, aI K h_32 p_47 i_31 = some v_48 ∧ (∃ h_49, wI K h_32 p_46 (((nI 8) * i_2) + i_31) v_48 = some h_49 ∧ (∃ p_50, gf h_49 a0 4 4 = some (.ref p_50) ∧ (∃ p_51, gf h_49 a0 4 4 = some (.ref p_51) ∧ (∃ v_52, aI K h_49 p_51 i_31 = some v_52 ∧ (∃ h_53, wI K h_49 p_50 (((nI 8) * i_2) + i_31) v_52 = some h_53 ∧ X_33 (i_31 + nI 1) h_53)))))))))))) → X_33 i_31 h_32) → X_33 (nI 0) h_30))))) ∧ (i_2 = (nI 7) → (Post (.inl (some (.int (-nI 4)))) h_1)))) ∧ (¬ v_29 = nI 0 → X_3 (i_2 + nI 1)))))))) → X_3 i_2) → X_3 (nI 1)))) :
    mX4_snapshot l K [.ref a0] h Post := by
  refine MX.enter htr (by decide) rfl (Nat.le_of_ble_eq_true rfl) ?_
  refine J_lveq (lv' := [(0, .ref a0)]) rfl ?_
  refine J_aload_n dX4_snapshot_0 0 rfl ?_
  refine J_iconst (v := nI 0) dX4_snapshot_1 (by decide) ?_
  obtain ⟨h_1, g9, F⟩ := F
  refine J_put (ci := 4) (k := 0) dX4_snapshot_2 rfl in_X4_snapshot_4 tyX4 tyX4_ok nmX4 (by decide) lk_X4_snapshot_58 rfl rfl rfl rfl g9 ?_
  refine J_iconst (v := nI 1) dX4_snapshot_5 (by decide) ?_
  refine J_istore_n (lv' := [(1, .int (nI 1)), (0, .ref a0)]) dX4_snapshot_6 rfl (by decide) rfl ?_
  refine J_sub [1, 0] rfl ?_
  refine F (fun (i_2 : Int32) => J l K yX4_snapshot.cls cX4_snapshot 3 (some .int) wsX4_snapshot [] yX4_snapshot.name 2 46 0 0 (QM K 0 0 Post) 7 [] [(0, .ref a0), (1, .int i_2)] h_1 0 0) ?_
  intro i_2 F
  refine J_iload_n dX4_snapshot_7 1 rfl ?_
  refine J_bipush (v := nI 7) dX4_snapshot_8 (by decide) ?_
  refine J_icmp_ge (tgt := 28) dX4_snapshot_10 (by decide) (fun c => ?_) (fun c => ?_)
  · replace F := F.1 c
    refine J_iload_n dX4_snapshot_28 1 rfl ?_
    refine J_bipush (v := nI 7) dX4_snapshot_29 (by decide) ?_
    refine J_icmp_ne (tgt := 37) dX4_snapshot_31 (by decide) (fun c => ?_) (fun c => ?_)
    · replace F := F.1 c
      refine J_aload_n dX4_snapshot_37 0 rfl ?_
      refine J_iconst (v := nI 0) dX4_snapshot_38 (by decide) ?_
      refine J_iload_n dX4_snapshot_39 1 rfl ?_
      obtain ⟨b9, F⟩ := F
      refine J_callV0 (ci := 4) (n := 2) (As := [.int (nI 0), .int i_2]) (rest := []) dX4_snapshot_40 rfl gX4_snapshot_X4_copyAll rfl (by decide +kernel) rfl (by decide) b9 (Nat.le_of_ble_eq_true rfl) (Nat.le_refl _) (Nat.le_refl _) F kV_no (kV_kk (fun h_4 F => ?_))
      refine J_iconst (v := nI 0) dX4_snapshot_43 (by decide) ?_
      refine J_istore_n (lv' := [(2, .int (nI 0)), (0, .ref a0), (1, .int i_2)]) dX4_snapshot_44 rfl (by decide) rfl ?_
      refine J_sub [1, 2, 0] rfl ?_
      refine F (fun (i_5 : Int32) (h_6 : Hp) => J l K yX4_snapshot.cls cX4_snapshot 3 (some .int) wsX4_snapshot [] yX4_snapshot.name 2 46 0 0 (QM K 0 0 Post) 45 [] [(0, .ref a0), (1, .int i_2), (2, .int i_5)] h_6 (0 + 0) (0 + 0)) ?_
      intro i_5 h_6 F
      refine J_iload_n dX4_snapshot_45 2 rfl ?_
      refine J_aload_n dX4_snapshot_46 0 rfl ?_
      obtain ⟨v_8, g9, F⟩ := F
      refine J_get (ci := 4) (k := 1) dX4_snapshot_47 rfl in_X4_snapshot_4 (by decide) lk_X4_snapshot_102 g9 ?_
      refine J_icmp_ge (tgt := 93) dX4_snapshot_50 (by decide) (fun c => ?_) (fun c => ?_)
      · replace F := F.1 c
        refine J_aload_n dX4_snapshot_93 0 rfl ?_
        obtain ⟨p_9, g9, F⟩ := F
        refine J_get (ci := 4) (k := 5) dX4_snapshot_94 rfl in_X4_snapshot_4 (by decide) lk_X4_snapshot_19 g9 ?_
        refine J_iload_n dX4_snapshot_97 1 rfl ?_
        refine J_aload_n dX4_snapshot_98 0 rfl ?_
        obtain ⟨v_10, g9, F⟩ := F
        refine J_get (ci := 4) (k := 1) dX4_snapshot_99 rfl in_X4_snapshot_4 (by decide) lk_X4_snapshot_102 g9 ?_
        obtain ⟨h_11, g9, F⟩ := F
        refine J_iast dX4_snapshot_102 g9 ?_
        refine J_aload_n dX4_snapshot_103 0 rfl ?_
        obtain ⟨p_12, g9, F⟩ := F
        refine J_get (ci := 4) (k := 14) dX4_snapshot_104 rfl in_X4_snapshot_4 (by decide) lk_X4_snapshot_47 g9 ?_
        refine J_iload_n dX4_snapshot_107 1 rfl ?_
        refine J_iconst (v := nI 1) dX4_snapshot_108 (by decide) ?_
        obtain ⟨h_13, g9, F⟩ := F
        refine J_zast dX4_snapshot_109 (by decide) g9 ?_
        refine J_aload_n dX4_snapshot_110 0 rfl ?_
        obtain ⟨p_14, g9, F⟩ := F
        refine J_get (ci := 4) (k := 15) dX4_snapshot_111 rfl in_X4_snapshot_4 (by decide) lk_X4_snapshot_51 g9 ?_
        refine J_iload_n dX4_snapshot_114 1 rfl ?_
        refine J_aload_n dX4_snapshot_115 0 rfl ?_
        obtain ⟨v_15, g9, F⟩ := F
        refine J_get (ci := 4) (k := 16) dX4_snapshot_116 rfl in_X4_snapshot_4 (by decide) lk_X4_snapshot_154 g9 ?_
        obtain ⟨h_16, g9, F⟩ := F
        refine J_iast dX4_snapshot_119 g9 ?_
        refine J_aload_n dX4_snapshot_120 0 rfl ?_
        refine J_dup dX4_snapshot_121 (rfl) ?_
        obtain ⟨v_17, g9, F⟩ := F
        refine J_get (ci := 4) (k := 16) dX4_snapshot_122 rfl in_X4_snapshot_4 (by decide) lk_X4_snapshot_154 g9 ?_
        refine J_iconst (v := nI 1) dX4_snapshot_125 (by decide) ?_
        refine J_iadd dX4_snapshot_126 ?_
        obtain ⟨h_18, g9, F⟩ := F
        refine J_put (ci := 4) (k := 16) dX4_snapshot_127 rfl in_X4_snapshot_4 tyX4 tyX4_ok nmX4 (by decide) lk_X4_snapshot_154 rfl rfl rfl rfl g9 ?_
        refine J_aload_n dX4_snapshot_130 0 rfl ?_
        obtain ⟨v_19, g9, F⟩ := F
        refine J_get (ci := 4) (k := 16) dX4_snapshot_131 rfl in_X4_snapshot_4 (by decide) lk_X4_snapshot_154 g9 ?_
        refine J_iconst (v := nI 1) dX4_snapshot_134 (by decide) ?_
        refine J_isub dX4_snapshot_135 ?_
        exact J_iret dX4_snapshot_136 rfl (Nat.le_refl _) (Nat.le_refl _) F
      · replace F := F.2 c
        refine J_aload_n dX4_snapshot_53 0 rfl ?_
        obtain ⟨p_20, g9, F⟩ := F
        refine J_get (ci := 4) (k := 3) dX4_snapshot_54 rfl in_X4_snapshot_4 (by decide) lk_X4_snapshot_13 g9 ?_
        refine J_bipush (v := nI 8) dX4_snapshot_57 (by decide) ?_
        refine J_iload_n dX4_snapshot_59 1 rfl ?_
        refine J_imul dX4_snapshot_60 ?_
        refine J_iload_n dX4_snapshot_61 2 rfl ?_
        refine J_iadd dX4_snapshot_62 ?_
        refine J_aload_n dX4_snapshot_63 0 rfl ?_
        obtain ⟨p_21, g9, F⟩ := F
        refine J_get (ci := 4) (k := 3) dX4_snapshot_64 rfl in_X4_snapshot_4 (by decide) lk_X4_snapshot_13 g9 ?_
        refine J_iload_n dX4_snapshot_67 2 rfl ?_
        obtain ⟨v_22, g9, F⟩ := F
        refine J_iald dX4_snapshot_68 g9 ?_
        obtain ⟨h_23, g9, F⟩ := F
        refine J_iast dX4_snapshot_69 g9 ?_
        refine J_aload_n dX4_snapshot_70 0 rfl ?_
        obtain ⟨p_24, g9, F⟩ := F
        refine J_get (ci := 4) (k := 4) dX4_snapshot_71 rfl in_X4_snapshot_4 (by decide) lk_X4_snapshot_16 g9 ?_
        refine J_bipush (v := nI 8) dX4_snapshot_74 (by decide) ?_
        refine J_iload_n dX4_snapshot_76 1 rfl ?_
        refine J_imul dX4_snapshot_77 ?_
        refine J_iload_n dX4_snapshot_78 2 rfl ?_
        refine J_iadd dX4_snapshot_79 ?_
        refine J_aload_n dX4_snapshot_80 0 rfl ?_
        obtain ⟨p_25, g9, F⟩ := F
        refine J_get (ci := 4) (k := 4) dX4_snapshot_81 rfl in_X4_snapshot_4 (by decide) lk_X4_snapshot_16 g9 ?_
        refine J_iload_n dX4_snapshot_84 2 rfl ?_
        obtain ⟨v_26, g9, F⟩ := F
        refine J_iald dX4_snapshot_85 g9 ?_
        obtain ⟨h_27, g9, F⟩ := F
        refine J_iast dX4_snapshot_86 g9 ?_
        refine J_iinc (v := i_5 + nI 1) (lv' := [(2, .int (i_5 + nI 1)), (0, .ref a0), (1, .int i_2)]) dX4_snapshot_87 2 rfl rfl (by decide) rfl ?_
        refine J_goto (tgt := 45) dX4_snapshot_90 (by decide) ?_
        exact J_sub [1, 2, 0] rfl F
    · replace F := F.2 c
      refine J_bipush (v := -nI 4) dX4_snapshot_34 (by decide) ?_
      exact J_iret dX4_snapshot_36 rfl (Nat.le_refl _) (Nat.le_refl _) F
  · replace F := F.2 c
    refine J_aload_n dX4_snapshot_13 0 rfl ?_
    obtain ⟨p_28, g9, F⟩ := F
    refine J_get (ci := 4) (k := 14) dX4_snapshot_14 rfl in_X4_snapshot_4 (by decide) lk_X4_snapshot_47 g9 ?_
    refine J_iload_n dX4_snapshot_17 1 rfl ?_
    obtain ⟨v_29, g9, F⟩ := F
    refine J_zald dX4_snapshot_18 g9 ?_
    refine J_if_eq (tgt := 28) dX4_snapshot_19 (by decide) (fun c => ?_) (fun c => ?_)
    · replace F := F.1 c
      refine J_iload_n dX4_snapshot_28 1 rfl ?_
      refine J_bipush (v := nI 7) dX4_snapshot_29 (by decide) ?_
      refine J_icmp_ne (tgt := 37) dX4_snapshot_31 (by decide) (fun c => ?_) (fun c => ?_)
      · replace F := F.1 c
        refine J_aload_n dX4_snapshot_37 0 rfl ?_
        refine J_iconst (v := nI 0) dX4_snapshot_38 (by decide) ?_
        refine J_iload_n dX4_snapshot_39 1 rfl ?_
        obtain ⟨b9, F⟩ := F
        refine J_callV0 (ci := 4) (n := 2) (As := [.int (nI 0), .int i_2]) (rest := []) dX4_snapshot_40 rfl gX4_snapshot_X4_copyAll rfl (by decide +kernel) rfl (by decide) b9 (Nat.le_of_ble_eq_true rfl) (Nat.le_refl _) (Nat.le_refl _) F kV_no (kV_kk (fun h_30 F => ?_))
        refine J_iconst (v := nI 0) dX4_snapshot_43 (by decide) ?_
        refine J_istore_n (lv' := [(2, .int (nI 0)), (0, .ref a0), (1, .int i_2)]) dX4_snapshot_44 rfl (by decide) rfl ?_
        refine J_sub [1, 2, 0] rfl ?_
        refine F (fun (i_31 : Int32) (h_32 : Hp) => J l K yX4_snapshot.cls cX4_snapshot 3 (some .int) wsX4_snapshot [] yX4_snapshot.name 2 46 0 0 (QM K 0 0 Post) 45 [] [(0, .ref a0), (1, .int i_2), (2, .int i_31)] h_32 (0 + 0) (0 + 0)) ?_
        intro i_31 h_32 F
        refine J_iload_n dX4_snapshot_45 2 rfl ?_
        refine J_aload_n dX4_snapshot_46 0 rfl ?_
        obtain ⟨v_34, g9, F⟩ := F
        refine J_get (ci := 4) (k := 1) dX4_snapshot_47 rfl in_X4_snapshot_4 (by decide) lk_X4_snapshot_102 g9 ?_
        refine J_icmp_ge (tgt := 93) dX4_snapshot_50 (by decide) (fun c => ?_) (fun c => ?_)
        · replace F := F.1 c
          refine J_aload_n dX4_snapshot_93 0 rfl ?_
          obtain ⟨p_35, g9, F⟩ := F
          refine J_get (ci := 4) (k := 5) dX4_snapshot_94 rfl in_X4_snapshot_4 (by decide) lk_X4_snapshot_19 g9 ?_
          refine J_iload_n dX4_snapshot_97 1 rfl ?_
          refine J_aload_n dX4_snapshot_98 0 rfl ?_
          obtain ⟨v_36, g9, F⟩ := F
          refine J_get (ci := 4) (k := 1) dX4_snapshot_99 rfl in_X4_snapshot_4 (by decide) lk_X4_snapshot_102 g9 ?_
          obtain ⟨h_37, g9, F⟩ := F
          refine J_iast dX4_snapshot_102 g9 ?_
          refine J_aload_n dX4_snapshot_103 0 rfl ?_
          obtain ⟨p_38, g9, F⟩ := F
          refine J_get (ci := 4) (k := 14) dX4_snapshot_104 rfl in_X4_snapshot_4 (by decide) lk_X4_snapshot_47 g9 ?_
          refine J_iload_n dX4_snapshot_107 1 rfl ?_
          refine J_iconst (v := nI 1) dX4_snapshot_108 (by decide) ?_
          obtain ⟨h_39, g9, F⟩ := F
          refine J_zast dX4_snapshot_109 (by decide) g9 ?_
          refine J_aload_n dX4_snapshot_110 0 rfl ?_
          obtain ⟨p_40, g9, F⟩ := F
          refine J_get (ci := 4) (k := 15) dX4_snapshot_111 rfl in_X4_snapshot_4 (by decide) lk_X4_snapshot_51 g9 ?_
          refine J_iload_n dX4_snapshot_114 1 rfl ?_
          refine J_aload_n dX4_snapshot_115 0 rfl ?_
          obtain ⟨v_41, g9, F⟩ := F
          refine J_get (ci := 4) (k := 16) dX4_snapshot_116 rfl in_X4_snapshot_4 (by decide) lk_X4_snapshot_154 g9 ?_
          obtain ⟨h_42, g9, F⟩ := F
          refine J_iast dX4_snapshot_119 g9 ?_
          refine J_aload_n dX4_snapshot_120 0 rfl ?_
          refine J_dup dX4_snapshot_121 (rfl) ?_
          obtain ⟨v_43, g9, F⟩ := F
          refine J_get (ci := 4) (k := 16) dX4_snapshot_122 rfl in_X4_snapshot_4 (by decide) lk_X4_snapshot_154 g9 ?_
          refine J_iconst (v := nI 1) dX4_snapshot_125 (by decide) ?_
          refine J_iadd dX4_snapshot_126 ?_
          obtain ⟨h_44, g9, F⟩ := F
          refine J_put (ci := 4) (k := 16) dX4_snapshot_127 rfl in_X4_snapshot_4 tyX4 tyX4_ok nmX4 (by decide) lk_X4_snapshot_154 rfl rfl rfl rfl g9 ?_
          refine J_aload_n dX4_snapshot_130 0 rfl ?_
          obtain ⟨v_45, g9, F⟩ := F
          refine J_get (ci := 4) (k := 16) dX4_snapshot_131 rfl in_X4_snapshot_4 (by decide) lk_X4_snapshot_154 g9 ?_
          refine J_iconst (v := nI 1) dX4_snapshot_134 (by decide) ?_
          refine J_isub dX4_snapshot_135 ?_
          exact J_iret dX4_snapshot_136 rfl (Nat.le_refl _) (Nat.le_refl _) F
        · replace F := F.2 c
          refine J_aload_n dX4_snapshot_53 0 rfl ?_
          obtain ⟨p_46, g9, F⟩ := F
          refine J_get (ci := 4) (k := 3) dX4_snapshot_54 rfl in_X4_snapshot_4 (by decide) lk_X4_snapshot_13 g9 ?_
          refine J_bipush (v := nI 8) dX4_snapshot_57 (by decide) ?_
          refine J_iload_n dX4_snapshot_59 1 rfl ?_
          refine J_imul dX4_snapshot_60 ?_
          refine J_iload_n dX4_snapshot_61 2 rfl ?_
          refine J_iadd dX4_snapshot_62 ?_
          refine J_aload_n dX4_snapshot_63 0 rfl ?_
          obtain ⟨p_47, g9, F⟩ := F
          refine J_get (ci := 4) (k := 3) dX4_snapshot_64 rfl in_X4_snapshot_4 (by decide) lk_X4_snapshot_13 g9 ?_
          refine J_iload_n dX4_snapshot_67 2 rfl ?_
          obtain ⟨v_48, g9, F⟩ := F
          refine J_iald dX4_snapshot_68 g9 ?_
          obtain ⟨h_49, g9, F⟩ := F
          refine J_iast dX4_snapshot_69 g9 ?_
          refine J_aload_n dX4_snapshot_70 0 rfl ?_
          obtain ⟨p_50, g9, F⟩ := F
          refine J_get (ci := 4) (k := 4) dX4_snapshot_71 rfl in_X4_snapshot_4 (by decide) lk_X4_snapshot_16 g9 ?_
          refine J_bipush (v := nI 8) dX4_snapshot_74 (by decide) ?_
          refine J_iload_n dX4_snapshot_76 1 rfl ?_
          refine J_imul dX4_snapshot_77 ?_
          refine J_iload_n dX4_snapshot_78 2 rfl ?_
          refine J_iadd dX4_snapshot_79 ?_
          refine J_aload_n dX4_snapshot_80 0 rfl ?_
          obtain ⟨p_51, g9, F⟩ := F
          refine J_get (ci := 4) (k := 4) dX4_snapshot_81 rfl in_X4_snapshot_4 (by decide) lk_X4_snapshot_16 g9 ?_
          refine J_iload_n dX4_snapshot_84 2 rfl ?_
          obtain ⟨v_52, g9, F⟩ := F
          refine J_iald dX4_snapshot_85 g9 ?_
          obtain ⟨h_53, g9, F⟩ := F
          refine J_iast dX4_snapshot_86 g9 ?_
          refine J_iinc (v := i_31 + nI 1) (lv' := [(2, .int (i_31 + nI 1)), (0, .ref a0), (1, .int i_2)]) dX4_snapshot_87 2 rfl rfl (by decide) rfl ?_
          refine J_goto (tgt := 45) dX4_snapshot_90 (by decide) ?_
          exact J_sub [1, 2, 0] rfl F
      · replace F := F.2 c
        refine J_bipush (v := -nI 4) dX4_snapshot_34 (by decide) ?_
        exact J_iret dX4_snapshot_36 rfl (Nat.le_refl _) (Nat.le_refl _) F
    · replace F := F.2 c
      refine J_iinc (v := i_2 + nI 1) (lv' := [(1, .int (i_2 + nI 1)), (0, .ref a0)]) dX4_snapshot_22 1 rfl rfl (by decide) rfl ?_
      refine J_goto (tgt := 7) dX4_snapshot_25 (by decide) ?_
      exact J_sub [1, 0] rfl F

abbrev mX4_span (l : Launch) (K : Kx) (As : List Value) (h : Hp) (Post : Rs → Hp → Prop) : Prop := MX l K yX4_span wsX4_span 0 0 0 0 As h Post
set_option maxRecDepth 100000 in
set_option maxHeartbeats 4000000 in
theorem fX4_span {l : Launch} {K : Kx} {a0 : Nat} {x1 : Int32} {h : Hp} {Post : Rs → Hp → Prop} (htr : l.stackTraces = false)
    (F : (∃ h_1, pf h a0 4 0 (.int (nI 0)) = some h_1 ∧ (∃ v_2, gf h_1 a0 4 21 = some (.int v_2) ∧ (∃ h_3, pf h_1 a0 4 21 (.int x1) = some h_3 ∧ (Post (.inl (some (.int v_2))) h_3))))) :
    mX4_span l K [.ref a0, .int x1] h Post := by
  refine MX.enter htr (by decide) rfl (Nat.le_of_ble_eq_true rfl) ?_
  refine J_lveq (lv' := [(0, .ref a0), (1, .int x1)]) rfl ?_
  refine J_aload_n dX4_span_0 0 rfl ?_
  refine J_iconst (v := nI 0) dX4_span_1 (by decide) ?_
  obtain ⟨h_1, g9, F⟩ := F
  refine J_put (ci := 4) (k := 0) dX4_span_2 rfl in_X4_span_4 tyX4 tyX4_ok nmX4 (by decide) lk_X4_span_58 rfl rfl rfl rfl g9 ?_
  refine J_aload_n dX4_span_5 0 rfl ?_
  obtain ⟨v_2, g9, F⟩ := F
  refine J_get (ci := 4) (k := 21) dX4_span_6 rfl in_X4_span_4 (by decide) lk_X4_span_84 g9 ?_
  refine J_istore_n (lv' := [(2, .int v_2), (0, .ref a0), (1, .int x1)]) dX4_span_9 rfl (by decide) rfl ?_
  refine J_aload_n dX4_span_10 1 rfl ?_
  refine J_iload_n dX4_span_11 2 rfl ?_
  obtain ⟨h_3, g9, F⟩ := F
  refine J_put (ci := 4) (k := 21) dX4_span_12 rfl in_X4_span_4 tyX4 tyX4_ok nmX4 (by decide) lk_X4_span_84 rfl rfl rfl rfl g9 ?_
  refine J_iload_n dX4_span_15 0 rfl ?_
  exact J_iret dX4_span_16 rfl (Nat.le_refl _) (Nat.le_refl _) F

abbrev mX4_state (l : Launch) (K : Kx) (As : List Value) (h : Hp) (Post : Rs → Hp → Prop) : Prop := MX l K yX4_state wsX4_state 0 0 0 0 As h Post
set_option maxRecDepth 100000 in
set_option maxHeartbeats 4000000 in
theorem fX4_state {l : Launch} {K : Kx} {a0 : Nat} {x1 : Int32} {x2 : Int32} {x3 : Int32} {h : Hp} {Post : Rs → Hp → Prop} (htr : l.stackTraces = false)
    (F : (∃ h_1, pf h a0 4 0 (.int (nI 0)) = some h_1 ∧ ((x2 < nI 0 → (Post (.inl (some (.int (-nI 1)))) h_1)) ∧ (¬ x2 < nI 0 → (((nI 3) < x2 → (Post (.inl (some (.int (-nI 1)))) h_1)) ∧ (¬ (nI 3) < x2 → ((x3 < nI 0 → (Post (.inl (some (.int (-nI 1)))) h_1)) ∧ (¬ x3 < nI 0 → ((x3 ≤ (nI 2) → (∀ X_3 : Int32 → Prop, (∀ (i_2 : Int32), ((∃ v_4, gf h_1 a0 4 1 = some (.int v_4) ∧ ((v_4 ≤ i_2 → (∃ v_5, gf h_1 a0 4 1 = some (.int v_5) ∧ ((¬ v_5 = (nI 8) → (∃ p_6, gf h_1 a0 4 2 = some (.ref p_6) ∧ (∃ v_7, gf h_1 a0 4 1 = some (.int v_7) ∧ (∃ h_8, wI K h_1 p_6 v_7 x1 = some h_8 ∧ (∃ p_9, gf h_8 a0 4 3 = some (.ref p_9) ∧ (∃ v_10, gf h_8 a0 4 1 = some (.int v_10) ∧ (∃ h_11, wI K h_8 p_9 v_10 x2 = some h_11 ∧ (∃ p_12, gf h_11 a0 4 4 = some (.ref p_12) ∧ (∃ v_13, gf h_11 a0 4 1 = some (.int v_13) ∧ (∃ h_14, wI K h_11 p_12 v_13 x3 = some h_14 ∧ (∃ v_15, gf h_14 a0 4 1 = some (.int v_15) ∧ (∃ h_16, pf h_14 a0 4 1 (.int (v_15 + (nI 1))) = some h_16 ∧ (∃ v_17, gf h_16 a0 4 1 = some (.int v_17) ∧ (Post (.inl (some (.int (v_17 - (nI 1))))) h_16)))))))))))))) ∧ (v_5 = (nI 8) → (Post (.inl (some (.int (-nI 4)))) h_1))))) ∧ (¬ v_4 ≤ i_2 → (∃ p_18, gf h_1 a0 4 2 = some (.ref p_18) ∧ (∃ v_19, aI K h_1 p_18 i_2 = some v_19 ∧ ((¬ v_19 = x1 → X_3 (i_2 + nI 1)) ∧ (v_19 = x1 → (∃ p_20, gf h_1 a0 4 3 = some (.ref p_20) ∧ (∃ v_21, aI K h_1 p_20 i_2 = some v_21 ∧ ((¬ v_21 = x2 → (Post (.inl (some (.int (-nI 3)))) h_1)) ∧ (v_21 = x2 → (∃ p_22, gf h_1 a0 4 4 = some (.ref p_22) ∧ (∃ v_23, aI K h_1 p_22 i_2 = some v_23 ∧ ((¬ v_23 = x3 → (Post (.inl (some (.int (-nI 3)))) h_1)) ∧ (v_23 = x3 → (Post (.inl (some (.int i_2))) h_1))))))))))))))))) → X_3 i_2) → X_3 (nI 0))) ∧ (¬ x3 ≤ (nI 2) → (Post (.inl (some (.int (-nI 1)))) h_1))))))))))) :
    mX4_state l K [.ref a0, .int x1, .int x2, .int x3] h Post := by
  refine MX.enter htr (by decide) rfl (Nat.le_of_ble_eq_true rfl) ?_
  refine J_lveq (lv' := [(0, .ref a0), (1, .int x1), (2, .int x2), (3, .int x3)]) rfl ?_
  refine J_aload_n dX4_state_0 0 rfl ?_
  refine J_iconst (v := nI 0) dX4_state_1 (by decide) ?_
  obtain ⟨h_1, g9, F⟩ := F
  refine J_put (ci := 4) (k := 0) dX4_state_2 rfl in_X4_state_4 tyX4 tyX4_ok nmX4 (by decide) lk_X4_state_58 rfl rfl rfl rfl g9 ?_
  refine J_iload_n dX4_state_5 2 rfl ?_
  refine J_if_lt (tgt := 23) dX4_state_6 (by decide) (fun c => ?_) (fun c => ?_)
  · replace F := F.1 c
    refine J_iconst (v := -nI 1) dX4_state_23 (by decide) ?_
    exact J_iret dX4_state_24 rfl (Nat.le_refl _) (Nat.le_refl _) F
  · replace F := F.2 c
    refine J_iload_n dX4_state_9 2 rfl ?_
    refine J_iconst (v := nI 3) dX4_state_10 (by decide) ?_
    refine J_icmp_gt (tgt := 23) dX4_state_11 (by decide) (fun c => ?_) (fun c => ?_)
    · replace F := F.1 c
      refine J_iconst (v := -nI 1) dX4_state_23 (by decide) ?_
      exact J_iret dX4_state_24 rfl (Nat.le_refl _) (Nat.le_refl _) F
    · replace F := F.2 c
      refine J_iload_n dX4_state_14 3 rfl ?_
      refine J_if_lt (tgt := 23) dX4_state_15 (by decide) (fun c => ?_) (fun c => ?_)
      · replace F := F.1 c
        refine J_iconst (v := -nI 1) dX4_state_23 (by decide) ?_
        exact J_iret dX4_state_24 rfl (Nat.le_refl _) (Nat.le_refl _) F
      · replace F := F.2 c
        refine J_iload_n dX4_state_18 3 rfl ?_
        refine J_iconst (v := nI 2) dX4_state_19 (by decide) ?_
        refine J_icmp_le (tgt := 25) dX4_state_20 (by decide) (fun c => ?_) (fun c => ?_)
        · replace F := F.1 c
          refine J_iconst (v := nI 0) dX4_state_25 (by decide) ?_
          refine J_istore (lv' := [(4, .int (nI 0)), (0, .ref a0), (1, .int x1), (2, .int x2), (3, .int x3)]) dX4_state_26 (by decide) rfl ?_
          refine J_sub [1, 2, 3, 4, 0] rfl ?_
          refine F (fun (i_2 : Int32) => J l K yX4_state.cls cX4_state 5 (some .int) wsX4_state [] yX4_state.name 0 0 0 0 (QM K 0 0 Post) 28 [] [(0, .ref a0), (1, .int x1), (2, .int x2), (3, .int x3), (4, .int i_2)] h_1 0 0) ?_
          intro i_2 F
          refine J_iload dX4_state_28 4 rfl ?_
          refine J_aload_n dX4_state_30 0 rfl ?_
          obtain ⟨v_4, g9, F⟩ := F
          refine J_get (ci := 4) (k := 1) dX4_state_31 rfl in_X4_state_4 (by decide) lk_X4_state_102 g9 ?_
          refine J_icmp_ge (tgt := 84) dX4_state_34 (by decide) (fun c => ?_) (fun c => ?_)
          · replace F := F.1 c
            refine J_aload_n dX4_state_84 0 rfl ?_
            obtain ⟨v_5, g9, F⟩ := F
            refine J_get (ci := 4) (k := 1) dX4_state_85 rfl in_X4_state_4 (by decide) lk_X4_state_102 g9 ?_
            refine J_bipush (v := nI 8) dX4_state_88 (by decide) ?_
            refine J_icmp_ne (tgt := 96) dX4_state_90 (by decide) (fun c => ?_) (fun c => ?_)
            · replace F := F.1 c
              refine J_aload_n dX4_state_96 0 rfl ?_
              obtain ⟨p_6, g9, F⟩ := F
              refine J_get (ci := 4) (k := 2) dX4_state_97 rfl in_X4_state_4 (by decide) lk_X4_state_7 g9 ?_
              refine J_aload_n dX4_state_100 0 rfl ?_
              obtain ⟨v_7, g9, F⟩ := F
              refine J_get (ci := 4) (k := 1) dX4_state_101 rfl in_X4_state_4 (by decide) lk_X4_state_102 g9 ?_
              refine J_iload_n dX4_state_104 1 rfl ?_
              obtain ⟨h_8, g9, F⟩ := F
              refine J_iast dX4_state_105 g9 ?_
              refine J_aload_n dX4_state_106 0 rfl ?_
              obtain ⟨p_9, g9, F⟩ := F
              refine J_get (ci := 4) (k := 3) dX4_state_107 rfl in_X4_state_4 (by decide) lk_X4_state_13 g9 ?_
              refine J_aload_n dX4_state_110 0 rfl ?_
              obtain ⟨v_10, g9, F⟩ := F
              refine J_get (ci := 4) (k := 1) dX4_state_111 rfl in_X4_state_4 (by decide) lk_X4_state_102 g9 ?_
              refine J_iload_n dX4_state_114 2 rfl ?_
              obtain ⟨h_11, g9, F⟩ := F
              refine J_iast dX4_state_115 g9 ?_
              refine J_aload_n dX4_state_116 0 rfl ?_
              obtain ⟨p_12, g9, F⟩ := F
              refine J_get (ci := 4) (k := 4) dX4_state_117 rfl in_X4_state_4 (by decide) lk_X4_state_16 g9 ?_
              refine J_aload_n dX4_state_120 0 rfl ?_
              obtain ⟨v_13, g9, F⟩ := F
              refine J_get (ci := 4) (k := 1) dX4_state_121 rfl in_X4_state_4 (by decide) lk_X4_state_102 g9 ?_
              refine J_iload_n dX4_state_124 3 rfl ?_
              obtain ⟨h_14, g9, F⟩ := F
              refine J_iast dX4_state_125 g9 ?_
              refine J_aload_n dX4_state_126 0 rfl ?_
              refine J_dup dX4_state_127 (rfl) ?_
              obtain ⟨v_15, g9, F⟩ := F
              refine J_get (ci := 4) (k := 1) dX4_state_128 rfl in_X4_state_4 (by decide) lk_X4_state_102 g9 ?_
              refine J_iconst (v := nI 1) dX4_state_131 (by decide) ?_
              refine J_iadd dX4_state_132 ?_
              obtain ⟨h_16, g9, F⟩ := F
              refine J_put (ci := 4) (k := 1) dX4_state_133 rfl in_X4_state_4 tyX4 tyX4_ok nmX4 (by decide) lk_X4_state_102 rfl rfl rfl rfl g9 ?_
              refine J_aload_n dX4_state_136 0 rfl ?_
              obtain ⟨v_17, g9, F⟩ := F
              refine J_get (ci := 4) (k := 1) dX4_state_137 rfl in_X4_state_4 (by decide) lk_X4_state_102 g9 ?_
              refine J_iconst (v := nI 1) dX4_state_140 (by decide) ?_
              refine J_isub dX4_state_141 ?_
              exact J_iret dX4_state_142 rfl (Nat.le_refl _) (Nat.le_refl _) F
            · replace F := F.2 c
              refine J_bipush (v := -nI 4) dX4_state_93 (by decide) ?_
              exact J_iret dX4_state_95 rfl (Nat.le_refl _) (Nat.le_refl _) F
          · replace F := F.2 c
            refine J_aload_n dX4_state_37 0 rfl ?_
            obtain ⟨p_18, g9, F⟩ := F
            refine J_get (ci := 4) (k := 2) dX4_state_38 rfl in_X4_state_4 (by decide) lk_X4_state_7 g9 ?_
            refine J_iload dX4_state_41 4 rfl ?_
            obtain ⟨v_19, g9, F⟩ := F
            refine J_iald dX4_state_43 g9 ?_
            refine J_iload_n dX4_state_44 1 rfl ?_
            refine J_icmp_ne (tgt := 78) dX4_state_45 (by decide) (fun c => ?_) (fun c => ?_)
            · replace F := F.1 c
              refine J_iinc (v := i_2 + nI 1) (lv' := [(4, .int (i_2 + nI 1)), (0, .ref a0), (1, .int x1), (2, .int x2), (3, .int x3)]) dX4_state_78 4 rfl rfl (by decide) rfl ?_
              refine J_goto (tgt := 28) dX4_state_81 (by decide) ?_
              exact J_sub [1, 2, 3, 4, 0] rfl F
            · replace F := F.2 c
              refine J_aload_n dX4_state_48 0 rfl ?_
              obtain ⟨p_20, g9, F⟩ := F
              refine J_get (ci := 4) (k := 3) dX4_state_49 rfl in_X4_state_4 (by decide) lk_X4_state_13 g9 ?_
              refine J_iload dX4_state_52 4 rfl ?_
              obtain ⟨v_21, g9, F⟩ := F
              refine J_iald dX4_state_54 g9 ?_
              refine J_iload_n dX4_state_55 2 rfl ?_
              refine J_icmp_ne (tgt := 75) dX4_state_56 (by decide) (fun c => ?_) (fun c => ?_)
              · replace F := F.1 c
                refine J_bipush (v := -nI 3) dX4_state_75 (by decide) ?_
                exact J_iret dX4_state_77 rfl (Nat.le_refl _) (Nat.le_refl _) F
              · replace F := F.2 c
                refine J_aload_n dX4_state_59 0 rfl ?_
                obtain ⟨p_22, g9, F⟩ := F
                refine J_get (ci := 4) (k := 4) dX4_state_60 rfl in_X4_state_4 (by decide) lk_X4_state_16 g9 ?_
                refine J_iload dX4_state_63 4 rfl ?_
                obtain ⟨v_23, g9, F⟩ := F
                refine J_iald dX4_state_65 g9 ?_
                refine J_iload_n dX4_state_66 3 rfl ?_
                refine J_icmp_ne (tgt := 75) dX4_state_67 (by decide) (fun c => ?_) (fun c => ?_)
                · replace F := F.1 c
                  refine J_bipush (v := -nI 3) dX4_state_75 (by decide) ?_
                  exact J_iret dX4_state_77 rfl (Nat.le_refl _) (Nat.le_refl _) F
                · replace F := F.2 c
                  refine J_iload dX4_state_70 4 rfl ?_
                  refine J_goto (tgt := 77) dX4_state_72 (by decide) ?_
                  exact J_iret dX4_state_77 rfl (Nat.le_refl _) (Nat.le_refl _) F
        · replace F := F.2 c
          refine J_iconst (v := -nI 1) dX4_state_23 (by decide) ?_
          exact J_iret dX4_state_24 rfl (Nat.le_refl _) (Nat.le_refl _) F

abbrev mX4_thrown (l : Launch) (K : Kx) (As : List Value) (h : Hp) (Post : Rs → Hp → Prop) : Prop := MX l K yX4_thrown wsX4_thrown 0 0 0 0 As h Post
set_option maxRecDepth 100000 in
set_option maxHeartbeats 4000000 in
theorem fX4_thrown {l : Launch} {K : Kx} {a0 : Nat} {h : Hp} {Post : Rs → Hp → Prop} (htr : l.stackTraces = false)
    (F : (∃ v_1, gf h a0 4 0 = some (.int v_1) ∧ (Post (.inl (some (.int v_1))) h))) :
    mX4_thrown l K [.ref a0] h Post := by
  refine MX.enter htr (by decide) rfl (Nat.le_of_ble_eq_true rfl) ?_
  refine J_lveq (lv' := [(0, .ref a0)]) rfl ?_
  refine J_aload_n dX4_thrown_0 0 rfl ?_
  obtain ⟨v_1, g9, F⟩ := F
  refine J_get (ci := 4) (k := 0) dX4_thrown_1 rfl in_X4_thrown_4 (by decide) lk_X4_thrown_58 g9 ?_
  exact J_iret dX4_thrown_4 rfl (Nat.le_refl _) (Nat.le_refl _) F

abbrev mX4_told (l : Launch) (K : Kx) (As : List Value) (h : Hp) (Post : Rs → Hp → Prop) : Prop := MX l K yX4_told wsX4_told 2 45 0 0 As h Post
set_option maxRecDepth 100000 in
set_option maxHeartbeats 4000000 in
theorem fX4_told {l : Launch} {K : Kx} {a0 : Nat} {x1 : Int32} {h : Hp} {Post : Rs → Hp → Prop} (htr : l.stackTraces = false)
    (F : (∃ h_1, pf h a0 4 0 (.int (nI 0)) = some h_1 ∧ (∀ X_6 : Int32 → Int32 → Int32 → Hp → Prop, (∀ (i_2 : Int32) (i_3 : Int32) (i_4 : Int32) (h_5 : Hp), ((∃ p_7, gf h_5 a0 4 6 = some (.ref p_7) ∧ (∃ v_8, aI K h_5 p_7 (nI 0) = some v_8 ∧ ((v_8 ≤ i_4 → (∀ X_11 : Int32 → Int32 → Prop, (∀ (i_9 : Int32) (i_10 : Int32), ((((nI 16) ≤ i_10 → (∀ X_14 : Int32 → Int32 → Prop, (∀ (i_12 : Int32) (i_13 : Int32), ((((nI 7) ≤ i_13 → ((¬ x1 = nI 0 → ((¬ x1 = (nI 1) → ((¬ x1 = (nI 2) → ((¬ x1 = (nI 3) → ((¬ x1 = (nI 4) → ((¬ x1 = (nI 5) → ((¬ x1 = (nI 6) → (Post (.inl (some (.int (-nI 1)))) h_5)) ∧ (x1 = (nI 6) → (Post (.inl (some (.int i_3))) h_5)))) ∧ (x1 = (nI 5) → (Post (.inl (some (.int i_9))) h_5)))) ∧ (x1 = (nI 4) → (∃ v_15, gf h_5 a0 4 18 = some (.int v_15) ∧ (Post (.inl (some (.int v_15))) h_5))))) ∧ (x1 = (nI 3) → ((∃ fs, h_5 a0 = some (xO 4 fs)) ∧ mX4_sharedPages l K [.ref a0] h_5 (kI (fun v_17 h_16 => (Post (.inl (some (.int v_17))) h_16))))))) ∧ (x1 = (nI 2) → (Post (.inl (some (.int i_12))) h_5)))) ∧ (x1 = (nI 1) → (∃ p_18, gf h_5 a0 4 6 = some (.ref p_18) ∧ (∃ v_19, aI K h_5 p_18 (nI 0) = some v_19 ∧ (Post (.inl (some (.int v_19))) h_5)))))) ∧ (x1 = nI 0 → (∃ v_20, gf h_5 a0 4 1 = some (.int v_20) ∧ (Post (.inl (some (.int v_20))) h_5))))) ∧ (¬ (nI 7) ≤ i_13 → (∃ p_21, gf h_5 a0 4 14 = some (.ref p_21) ∧ (∃ v_22, aZ K h_5 p_21 i_13 = some v_22 ∧ ((v_22 = nI 0 → X_14 (i_12 + (nI 0)) (i_13 + nI 1)) ∧ (¬ v_22 = nI 0 → X_14 (i_12 + (nI 1)) (i_13 + nI 1)))))))) → X_14 i_12 i_13) → X_14 (nI 0) (nI 1))) ∧ (¬ (nI 16) ≤ i_10 → X_11 (i_9 + ((i_2 >>> (i_10 &&& 31)) &&& (nI 1))) (i_10 + nI 1)))) → X_11 i_9 i_10) → X_11 (nI 0) (nI 0))) ∧ (¬ v_8 ≤ i_4 → (∃ p_23, gf h_5 a0 4 7 = some (.ref p_23) ∧ (∃ v_24, aI K h_5 p_23 i_4 = some v_24 ∧ (∃ p_25, gf h_5 a0 4 8 = some (.ref p_25) ∧ (∃ u_26, aJ K h_5 p_25 i_4 = some u_26 ∧ (∃ p_27, gf h_5 a0 4 9 = some (.ref p_27) ∧ (∃ v_28, aI K h_5 p_27 i_4 = some v_28 ∧ ((∃ fs, h_5 a0 = some (xO 4 fs)) ∧ mX4_pageOf l K [.ref a0, .int v_24, .long u_26, .int v_28] h_5 (kI (fun v_30 h_29 => ((∃ fs, h_29 a0 = some (xO 4 fs)) ∧ mX4_numbersOf l K [.ref a0, .int (nI 0), .int i_4] h_29 (kI (fun v_32 h_31 => X_6 (i_2 ||| ((nI 1) <<< (v_30 &&& 31))) (i_3 + v_32) (i_4 + nI 1) h_31))))))))))))))))) → X_6 i_2 i_3 i_4 h_5) → X_6 (nI 0) (nI 0) (nI 0) h_1))) :
    mX4_told l K [.ref a0, .int x1] h Post := by
  refine MX.enter htr (by decide) rfl (Nat.le_of_ble_eq_true rfl) ?_
  refine J_lveq (lv' := [(0, .ref a0), (1, .int x1)]) rfl ?_
  refine J_aload_n dX4_told_0 0 rfl ?_
  refine J_iconst (v := nI 0) dX4_told_1 (by decide) ?_
  obtain ⟨h_1, g9, F⟩ := F
  refine J_put (ci := 4) (k := 0) dX4_told_2 rfl in_X4_told_4 tyX4 tyX4_ok nmX4 (by decide) lk_X4_told_58 rfl rfl rfl rfl g9 ?_
  refine J_iconst (v := nI 0) dX4_told_5 (by decide) ?_
  refine J_istore_n (lv' := [(2, .int (nI 0)), (0, .ref a0), (1, .int x1)]) dX4_told_6 rfl (by decide) rfl ?_
  refine J_iconst (v := nI 0) dX4_told_7 (by decide) ?_
  refine J_istore_n (lv' := [(3, .int (nI 0)), (2, .int (nI 0)), (0, .ref a0), (1, .int x1)]) dX4_told_8 rfl (by decide) rfl ?_
  refine J_iconst (v := nI 0) dX4_told_9 (by decide) ?_
  refine J_istore (lv' := [(4, .int (nI 0)), (3, .int (nI 0)), (2, .int (nI 0)), (0, .ref a0), (1, .int x1)]) dX4_told_10 (by decide) rfl ?_
  refine J_sub [3, 4, 2, 1, 0] rfl ?_
  refine F (fun (i_2 : Int32) (i_3 : Int32) (i_4 : Int32) (h_5 : Hp) => J l K yX4_told.cls cX4_told 7 (some .int) wsX4_told [] yX4_told.name 2 45 0 0 (QM K 0 0 Post) 12 [] [(0, .ref a0), (1, .int x1), (2, .int i_2), (3, .int i_3), (4, .int i_4)] h_5 0 0) ?_
  intro i_2 i_3 i_4 h_5 F
  refine J_iload dX4_told_12 4 rfl ?_
  refine J_aload_n dX4_told_14 0 rfl ?_
  obtain ⟨p_7, g9, F⟩ := F
  refine J_get (ci := 4) (k := 6) dX4_told_15 rfl in_X4_told_4 (by decide) lk_X4_told_22 g9 ?_
  refine J_iconst (v := nI 0) dX4_told_18 (by decide) ?_
  obtain ⟨v_8, g9, F⟩ := F
  refine J_iald dX4_told_19 g9 ?_
  refine J_icmp_ge (tgt := 69) dX4_told_20 (by decide) (fun c => ?_) (fun c => ?_)
  · replace F := F.1 c
    refine J_iconst (v := nI 0) dX4_told_69 (by decide) ?_
    refine J_istore (lv' := [(4, .int (nI 0)), (0, .ref a0), (1, .int x1), (2, .int i_2), (3, .int i_3)]) dX4_told_70 (by decide) rfl ?_
    refine J_iconst (v := nI 0) dX4_told_72 (by decide) ?_
    refine J_istore (lv' := [(5, .int (nI 0)), (4, .int (nI 0)), (0, .ref a0), (1, .int x1), (2, .int i_2), (3, .int i_3)]) dX4_told_73 (by decide) rfl ?_
    refine J_sub [2, 3, 4, 5, 1, 0] rfl ?_
    refine F (fun (i_9 : Int32) (i_10 : Int32) => J l K yX4_told.cls cX4_told 7 (some .int) wsX4_told [] yX4_told.name 2 45 0 0 (QM K 0 0 Post) 75 [] [(0, .ref a0), (1, .int x1), (2, .int i_2), (3, .int i_3), (4, .int i_9), (5, .int i_10)] h_5 0 0) ?_
    intro i_9 i_10 F
    refine J_iload dX4_told_75 5 rfl ?_
    refine J_bipush (v := nI 16) dX4_told_77 (by decide) ?_
    refine J_icmp_ge (tgt := 99) dX4_told_79 (by decide) (fun c => ?_) (fun c => ?_)
    · replace F := F.1 c
      refine J_iconst (v := nI 0) dX4_told_99 (by decide) ?_
      refine J_istore (lv' := [(5, .int (nI 0)), (0, .ref a0), (1, .int x1), (2, .int i_2), (3, .int i_3), (4, .int i_9)]) dX4_told_100 (by decide) rfl ?_
      refine J_iconst (v := nI 1) dX4_told_102 (by decide) ?_
      refine J_istore (lv' := [(6, .int (nI 1)), (5, .int (nI 0)), (0, .ref a0), (1, .int x1), (2, .int i_2), (3, .int i_3), (4, .int i_9)]) dX4_told_103 (by decide) rfl ?_
      refine J_sub [2, 3, 5, 6, 1, 0] rfl ?_
      refine F (fun (i_12 : Int32) (i_13 : Int32) => J l K yX4_told.cls cX4_told 7 (some .int) wsX4_told [] yX4_told.name 2 45 0 0 (QM K 0 0 Post) 105 [] [(0, .ref a0), (1, .int x1), (3, .int i_3), (4, .int i_9), (5, .int i_12), (6, .int i_13)] h_5 0 0) ?_
      intro i_12 i_13 F
      refine J_iload dX4_told_105 5 rfl ?_
      refine J_bipush (v := nI 7) dX4_told_107 (by decide) ?_
      refine J_icmp_ge (tgt := 138) dX4_told_109 (by decide) (fun c => ?_) (fun c => ?_)
      · replace F := F.1 c
        refine J_iload_n dX4_told_138 1 rfl ?_
        refine J_if_ne (tgt := 149) dX4_told_139 (by decide) (fun c => ?_) (fun c => ?_)
        · replace F := F.1 c
          refine J_iload_n dX4_told_149 1 rfl ?_
          refine J_iconst (v := nI 1) dX4_told_150 (by decide) ?_
          refine J_icmp_ne (tgt := 163) dX4_told_151 (by decide) (fun c => ?_) (fun c => ?_)
          · replace F := F.1 c
            refine J_iload_n dX4_told_163 1 rfl ?_
            refine J_iconst (v := nI 2) dX4_told_164 (by decide) ?_
            refine J_icmp_ne (tgt := 173) dX4_told_165 (by decide) (fun c => ?_) (fun c => ?_)
            · replace F := F.1 c
              refine J_iload_n dX4_told_173 1 rfl ?_
              refine J_iconst (v := nI 3) dX4_told_174 (by decide) ?_
              refine J_icmp_ne (tgt := 185) dX4_told_175 (by decide) (fun c => ?_) (fun c => ?_)
              · replace F := F.1 c
                refine J_iload_n dX4_told_185 1 rfl ?_
                refine J_iconst (v := nI 4) dX4_told_186 (by decide) ?_
                refine J_icmp_ne (tgt := 197) dX4_told_187 (by decide) (fun c => ?_) (fun c => ?_)
                · replace F := F.1 c
                  refine J_iload_n dX4_told_197 1 rfl ?_
                  refine J_iconst (v := nI 5) dX4_told_198 (by decide) ?_
                  refine J_icmp_ne (tgt := 207) dX4_told_199 (by decide) (fun c => ?_) (fun c => ?_)
                  · replace F := F.1 c
                    refine J_iload_n dX4_told_207 1 rfl ?_
                    refine J_bipush (v := nI 6) dX4_told_208 (by decide) ?_
                    refine J_icmp_ne (tgt := 217) dX4_told_210 (by decide) (fun c => ?_) (fun c => ?_)
                    · replace F := F.1 c
                      refine J_iconst (v := -nI 1) dX4_told_217 (by decide) ?_
                      exact J_iret dX4_told_218 rfl (Nat.le_refl _) (Nat.le_refl _) F
                    · replace F := F.2 c
                      refine J_iload_n dX4_told_213 2 rfl ?_
                      refine J_goto (tgt := 218) dX4_told_214 (by decide) ?_
                      exact J_iret dX4_told_218 rfl (Nat.le_refl _) (Nat.le_refl _) F
                  · replace F := F.2 c
                    refine J_iload dX4_told_202 3 rfl ?_
                    refine J_goto (tgt := 218) dX4_told_204 (by decide) ?_
                    exact J_iret dX4_told_218 rfl (Nat.le_refl _) (Nat.le_refl _) F
                · replace F := F.2 c
                  refine J_aload_n dX4_told_190 0 rfl ?_
                  obtain ⟨v_15, g9, F⟩ := F
                  refine J_get (ci := 4) (k := 18) dX4_told_191 rfl in_X4_told_4 (by decide) lk_X4_told_69 g9 ?_
                  refine J_goto (tgt := 218) dX4_told_194 (by decide) ?_
                  exact J_iret dX4_told_218 rfl (Nat.le_refl _) (Nat.le_refl _) F
              · replace F := F.2 c
                refine J_aload_n dX4_told_178 0 rfl ?_
                obtain ⟨b9, F⟩ := F
                refine J_callV0 (ci := 4) (n := 0) (As := []) (rest := []) dX4_told_179 rfl gX4_told_X4_sharedPages rfl (by decide +kernel) rfl (by decide) b9 (Nat.le_of_ble_eq_true rfl) (Nat.le_refl _) (Nat.le_refl _) F kI_no (kI_kk (fun v_17 h_16 F => ?_))
                refine J_goto (tgt := 218) dX4_told_182 (by decide) ?_
                exact J_iret dX4_told_218 rfl (Nat.le_refl _) (Nat.le_refl _) F
            · replace F := F.2 c
              refine J_iload dX4_told_168 4 rfl ?_
              refine J_goto (tgt := 218) dX4_told_170 (by decide) ?_
              exact J_iret dX4_told_218 rfl (Nat.le_refl _) (Nat.le_refl _) F
          · replace F := F.2 c
            refine J_aload_n dX4_told_154 0 rfl ?_
            obtain ⟨p_18, g9, F⟩ := F
            refine J_get (ci := 4) (k := 6) dX4_told_155 rfl in_X4_told_4 (by decide) lk_X4_told_22 g9 ?_
            refine J_iconst (v := nI 0) dX4_told_158 (by decide) ?_
            obtain ⟨v_19, g9, F⟩ := F
            refine J_iald dX4_told_159 g9 ?_
            refine J_goto (tgt := 218) dX4_told_160 (by decide) ?_
            exact J_iret dX4_told_218 rfl (Nat.le_refl _) (Nat.le_refl _) F
        · replace F := F.2 c
          refine J_aload_n dX4_told_142 0 rfl ?_
          obtain ⟨v_20, g9, F⟩ := F
          refine J_get (ci := 4) (k := 1) dX4_told_143 rfl in_X4_told_4 (by decide) lk_X4_told_102 g9 ?_
          refine J_goto (tgt := 218) dX4_told_146 (by decide) ?_
          exact J_iret dX4_told_218 rfl (Nat.le_refl _) (Nat.le_refl _) F
      · replace F := F.2 c
        refine J_iload dX4_told_112 4 rfl ?_
        refine J_aload_n dX4_told_114 0 rfl ?_
        obtain ⟨p_21, g9, F⟩ := F
        refine J_get (ci := 4) (k := 14) dX4_told_115 rfl in_X4_told_4 (by decide) lk_X4_told_47 g9 ?_
        refine J_iload dX4_told_118 5 rfl ?_
        obtain ⟨v_22, g9, F⟩ := F
        refine J_zald dX4_told_120 g9 ?_
        refine J_if_eq (tgt := 128) dX4_told_121 (by decide) (fun c => ?_) (fun c => ?_)
        · replace F := F.1 c
          refine J_iconst (v := nI 0) dX4_told_128 (by decide) ?_
          refine J_iadd dX4_told_129 ?_
          refine J_istore (lv' := [(5, .int (i_12 + (nI 0))), (0, .ref a0), (1, .int x1), (3, .int i_3), (4, .int i_9), (6, .int i_13)]) dX4_told_130 (by decide) rfl ?_
          refine J_iinc (v := i_13 + nI 1) (lv' := [(6, .int (i_13 + nI 1)), (5, .int (i_12 + (nI 0))), (0, .ref a0), (1, .int x1), (3, .int i_3), (4, .int i_9)]) dX4_told_132 5 rfl rfl (by decide) rfl ?_
          refine J_goto (tgt := 105) dX4_told_135 (by decide) ?_
          exact J_sub [2, 3, 4, 5, 1, 0] rfl F
        · replace F := F.2 c
          refine J_iconst (v := nI 1) dX4_told_124 (by decide) ?_
          refine J_goto (tgt := 129) dX4_told_125 (by decide) ?_
          refine J_iadd dX4_told_129 ?_
          refine J_istore (lv' := [(5, .int (i_12 + (nI 1))), (0, .ref a0), (1, .int x1), (3, .int i_3), (4, .int i_9), (6, .int i_13)]) dX4_told_130 (by decide) rfl ?_
          refine J_iinc (v := i_13 + nI 1) (lv' := [(6, .int (i_13 + nI 1)), (5, .int (i_12 + (nI 1))), (0, .ref a0), (1, .int x1), (3, .int i_3), (4, .int i_9)]) dX4_told_132 5 rfl rfl (by decide) rfl ?_
          refine J_goto (tgt := 105) dX4_told_135 (by decide) ?_
          exact J_sub [2, 3, 4, 5, 1, 0] rfl F
    · replace F := F.2 c
      refine J_iload dX4_told_82 4 rfl ?_
      refine J_iload_n dX4_told_84 2 rfl ?_
      refine J_iload dX4_told_85 5 rfl ?_
      refine J_ishr dX4_told_87 ?_
      refine J_iconst (v := nI 1) dX4_told_88 (by decide) ?_
      refine J_iand dX4_told_89 ?_
      refine J_iadd dX4_told_90 ?_
      refine J_istore (lv' := [(4, .int (i_9 + ((i_2 >>> (i_10 &&& 31)) &&& (nI 1)))), (0, .ref a0), (1, .int x1), (2, .int i_2), (3, .int i_3), (5, .int i_10)]) dX4_told_91 (by decide) rfl ?_
      refine J_iinc (v := i_10 + nI 1) (lv' := [(5, .int (i_10 + nI 1)), (4, .int (i_9 + ((i_2 >>> (i_10 &&& 31)) &&& (nI 1)))), (0, .ref a0), (1, .int x1), (2, .int i_2), (3, .int i_3)]) dX4_told_93 5 rfl rfl (by decide) rfl ?_
      refine J_goto (tgt := 75) dX4_told_96 (by decide) ?_
      exact J_sub [2, 3, 4, 5, 1, 0] rfl F
  · replace F := F.2 c
    refine J_iload_n dX4_told_23 2 rfl ?_
    refine J_iconst (v := nI 1) dX4_told_24 (by decide) ?_
    refine J_aload_n dX4_told_25 0 rfl ?_
    refine J_aload_n dX4_told_26 0 rfl ?_
    obtain ⟨p_23, g9, F⟩ := F
    refine J_get (ci := 4) (k := 7) dX4_told_27 rfl in_X4_told_4 (by decide) lk_X4_told_25 g9 ?_
    refine J_iload dX4_told_30 4 rfl ?_
    obtain ⟨v_24, g9, F⟩ := F
    refine J_iald dX4_told_32 g9 ?_
    refine J_aload_n dX4_told_33 0 rfl ?_
    obtain ⟨p_25, g9, F⟩ := F
    refine J_get (ci := 4) (k := 8) dX4_told_34 rfl in_X4_told_4 (by decide) lk_X4_told_28 g9 ?_
    refine J_iload dX4_told_37 4 rfl ?_
    obtain ⟨u_26, g9, F⟩ := F
    refine J_lald dX4_told_39 g9 ?_
    refine J_aload_n dX4_told_40 0 rfl ?_
    obtain ⟨p_27, g9, F⟩ := F
    refine J_get (ci := 4) (k := 9) dX4_told_41 rfl in_X4_told_4 (by decide) lk_X4_told_32 g9 ?_
    refine J_iload dX4_told_44 4 rfl ?_
    obtain ⟨v_28, g9, F⟩ := F
    refine J_iald dX4_told_46 g9 ?_
    obtain ⟨b9, F⟩ := F
    refine J_callV0 (ci := 4) (n := 3) (As := [.int v_24, .long u_26, .int v_28]) (rest := [.int (nI 1), .int i_2]) dX4_told_47 rfl gX4_told_X4_pageOf rfl (by decide +kernel) rfl (by decide) b9 (Nat.le_of_ble_eq_true rfl) (Nat.le_refl _) (Nat.le_refl _) F kI_no (kI_kk (fun v_30 h_29 F => ?_))
    refine J_ishl dX4_told_50 ?_
    refine J_ior dX4_told_51 ?_
    refine J_istore_n (lv' := [(2, .int (i_2 ||| ((nI 1) <<< (v_30 &&& 31)))), (0, .ref a0), (1, .int x1), (3, .int i_3), (4, .int i_4)]) dX4_told_52 rfl (by decide) rfl ?_
    refine J_iload_n dX4_told_53 3 rfl ?_
    refine J_aload_n dX4_told_54 1 rfl ?_
    refine J_iconst (v := nI 0) dX4_told_55 (by decide) ?_
    refine J_iload dX4_told_56 4 rfl ?_
    obtain ⟨b9, F⟩ := F
    refine J_callV0 (ci := 4) (n := 2) (As := [.int (nI 0), .int i_4]) (rest := [.int i_3]) dX4_told_58 rfl gX4_told_X4_numbersOf rfl (by decide +kernel) rfl (by decide) b9 (Nat.le_of_ble_eq_true rfl) (Nat.le_refl _) (Nat.le_refl _) F kI_no (kI_kk (fun v_32 h_31 F => ?_))
    refine J_iadd dX4_told_61 ?_
    refine J_istore_n (lv' := [(3, .int (i_3 + v_32)), (2, .int (i_2 ||| ((nI 1) <<< (v_30 &&& 31)))), (0, .ref a0), (1, .int x1), (4, .int i_4)]) dX4_told_62 rfl (by decide) rfl ?_
    refine J_iinc (v := i_4 + nI 1) (lv' := [(4, .int (i_4 + nI 1)), (3, .int (i_3 + v_32)), (2, .int (i_2 ||| ((nI 1) <<< (v_30 &&& 31)))), (0, .ref a0), (1, .int x1)]) dX4_told_63 4 rfl rfl (by decide) rfl ?_
    refine J_goto (tgt := 12) dX4_told_66 (by decide) ?_
    exact J_sub [3, 4, 2, 1, 0] rfl F

abbrev mX4_value (l : Launch) (K : Kx) (As : List Value) (h : Hp) (Post : Rs → Hp → Prop) : Prop := MX l K yX4_value wsX4_value 3 72 0 0 As h Post
set_option maxRecDepth 100000 in
set_option maxHeartbeats 4000000 in
theorem fX4_value {l : Launch} {K : Kx} {a0 : Nat} {x1 : Int32} {h : Hp} {Post : Rs → Hp → Prop} (htr : l.stackTraces = false)
    (F : ((∃ fs, h a0 = some (xO 4 fs)) ∧ mX4_isRefused l K [.ref a0, .int x1, .int (nI 0), .int (nI 3), .long (lN 0)] h (kI (fun v_2 h_1 => ((v_2 = nI 0 → (∃ v_3, gf h_1 a0 4 22 = some (.int v_3) ∧ ((nI 0 ≤ v_3 → (∃ p_4, gf h_1 a0 4 11 = some (.ref p_4) ∧ (∃ v_5, gf h_1 a0 4 22 = some (.int v_5) ∧ (∃ u_6, aJ K h_1 p_4 ((nI 10) * v_5) = some u_6 ∧ (Post (.inl (some (.long u_6))) h_1))))) ∧ (¬ nI 0 ≤ v_3 → ((∃ fs, h_1 a0 = some (xO 4 fs)) ∧ mX4_fails l K [.ref a0, .int (nI 4)] h_1 (kI (fun v_8 h_7 => (Post (.inl (some (.long v_8.toInt64))) h_7)))))))) ∧ (¬ v_2 = nI 0 → (Post (.inl (some (.long (lN 0)))) h_1))))))) :
    mX4_value l K [.ref a0, .int x1] h Post := by
  refine MX.enter htr (by decide) rfl (Nat.le_of_ble_eq_true rfl) ?_
  refine J_lveq (lv' := [(0, .ref a0), (1, .int x1)]) rfl ?_
  refine J_aload_n dX4_value_0 0 rfl ?_
  refine J_iload_n dX4_value_1 1 rfl ?_
  refine J_iconst (v := nI 0) dX4_value_2 (by decide) ?_
  refine J_iconst (v := nI 3) dX4_value_3 (by decide) ?_
  refine J_lconst (v := lN 0) dX4_value_4 rfl ?_
  obtain ⟨b9, F⟩ := F
  refine J_callV0 (ci := 4) (n := 4) (As := [.int x1, .int (nI 0), .int (nI 3), .long (lN 0)]) (rest := []) dX4_value_5 rfl gX4_value_X4_isRefused rfl (by decide +kernel) rfl (by decide) b9 (Nat.le_of_ble_eq_true rfl) (Nat.le_refl _) (Nat.le_refl _) F kI_no (kI_kk (fun v_2 h_1 F => ?_))
  refine J_if_eq (tgt := 13) dX4_value_8 (by decide) (fun c => ?_) (fun c => ?_)
  · replace F := F.1 c
    refine J_aload_n dX4_value_13 0 rfl ?_
    obtain ⟨v_3, g9, F⟩ := F
    refine J_get (ci := 4) (k := 22) dX4_value_14 rfl in_X4_value_4 (by decide) lk_X4_value_120 g9 ?_
    refine J_if_ge (tgt := 29) dX4_value_17 (by decide) (fun c => ?_) (fun c => ?_)
    · replace F := F.1 c
      refine J_aload_n dX4_value_29 0 rfl ?_
      obtain ⟨p_4, g9, F⟩ := F
      refine J_get (ci := 4) (k := 11) dX4_value_30 rfl in_X4_value_4 (by decide) lk_X4_value_38 g9 ?_
      refine J_bipush (v := nI 10) dX4_value_33 (by decide) ?_
      refine J_aload_n dX4_value_35 0 rfl ?_
      obtain ⟨v_5, g9, F⟩ := F
      refine J_get (ci := 4) (k := 22) dX4_value_36 rfl in_X4_value_4 (by decide) lk_X4_value_120 g9 ?_
      refine J_imul dX4_value_39 ?_
      obtain ⟨u_6, g9, F⟩ := F
      refine J_lald dX4_value_40 g9 ?_
      exact J_lret dX4_value_41 rfl (Nat.le_refl _) (Nat.le_refl _) F
    · replace F := F.2 c
      refine J_aload_n dX4_value_20 0 rfl ?_
      refine J_iconst (v := nI 4) dX4_value_21 (by decide) ?_
      obtain ⟨b9, F⟩ := F
      refine J_callV0 (ci := 4) (n := 1) (As := [.int (nI 4)]) (rest := []) dX4_value_22 rfl gX4_value_X4_fails rfl (by decide +kernel) rfl (by decide) b9 (Nat.le_of_ble_eq_true rfl) (Nat.le_refl _) (Nat.le_refl _) F kI_no (kI_kk (fun v_8 h_7 F => ?_))
      refine J_i2l dX4_value_25 ?_
      refine J_goto (tgt := 41) dX4_value_26 (by decide) ?_
      exact J_lret dX4_value_41 rfl (Nat.le_refl _) (Nat.le_refl _) F
  · replace F := F.2 c
    refine J_lconst (v := lN 0) dX4_value_11 rfl ?_
    exact J_lret dX4_value_12 rfl (Nat.le_refl _) (Nat.le_refl _) F

