set_option maxRecDepth 20000 in
theorem in_X3_entryAtHand_3 : ∀ w ∈ u_ws RX3 TX3 9, w ∈ wsX3_entryAtHand := by decide +kernel
set_option maxRecDepth 20000 in
theorem lk_X3_entryAtHand_43 : Cond.fieldLink RX3 43 (TX3 8).1 (TX3 8).2.1 (TX3 8).2.2.1 ∈ wsX3_entryAtHand := by decide +kernel
set_option maxRecDepth 20000 in
theorem lk_X3_entryAtHand_39 : Cond.fieldLink RX3 39 (TX3 7).1 (TX3 7).2.1 (TX3 7).2.2.1 ∈ wsX3_entryAtHand := by decide +kernel
set_option maxRecDepth 20000 in
theorem lk_X3_entryAtHand_16 : Cond.fieldLink RX3 16 (TX3 1).1 (TX3 1).2.1 (TX3 1).2.2.1 ∈ wsX3_entryAtHand := by decide +kernel
set_option maxRecDepth 20000 in
theorem in_X3_hasNoRoomFor_3 : ∀ w ∈ u_ws RX3 TX3 9, w ∈ wsX3_hasNoRoomFor := by decide +kernel
set_option maxRecDepth 20000 in
theorem lk_X3_hasNoRoomFor_16 : Cond.fieldLink RX3 16 (TX3 1).1 (TX3 1).2.1 (TX3 1).2.2.1 ∈ wsX3_hasNoRoomFor := by decide +kernel
set_option maxRecDepth 20000 in
theorem in_X3_pageToChange_3 : ∀ w ∈ u_ws RX3 TX3 9, w ∈ wsX3_pageToChange := by decide +kernel
set_option maxRecDepth 20000 in
theorem lk_X3_pageToChange_32 : Cond.fieldLink RX3 32 (TX3 5).1 (TX3 5).2.1 (TX3 5).2.2.1 ∈ wsX3_pageToChange := by decide +kernel
set_option maxRecDepth 20000 in
theorem in_X3_pageToChange_2 : ∀ w ∈ u_ws RX2 TX2 5, w ∈ wsX3_pageToChange := by decide +kernel
set_option maxRecDepth 20000 in
theorem lk_X3_pageToChange_151 : Cond.fieldLink RX3 151 (TX2 1).1 (TX2 1).2.1 (TX2 1).2.2.1 ∈ wsX3_pageToChange := by decide +kernel
set_option maxRecDepth 20000 in
theorem lk_X3_pageToChange_16 : Cond.fieldLink RX3 16 (TX3 1).1 (TX3 1).2.1 (TX3 1).2.2.1 ∈ wsX3_pageToChange := by decide +kernel
set_option maxRecDepth 20000 in
theorem in_X3_keep_0 : ∀ w ∈ u_ws RX0 TX0 6, w ∈ wsX3_keep := by decide +kernel
set_option maxRecDepth 20000 in
theorem lk_X3_keep_263 : Cond.fieldLink RX3 263 (TX0 2).1 (TX0 2).2.1 (TX0 2).2.2.1 ∈ wsX3_keep := by decide +kernel
set_option maxRecDepth 20000 in
theorem lk_X3_keep_260 : Cond.fieldLink RX3 260 (TX0 1).1 (TX0 1).2.1 (TX0 1).2.2.1 ∈ wsX3_keep := by decide +kernel
set_option maxRecDepth 20000 in
theorem lk_X3_keep_257 : Cond.fieldLink RX3 257 (TX0 0).1 (TX0 0).2.1 (TX0 0).2.2.1 ∈ wsX3_keep := by decide +kernel
set_option maxRecDepth 20000 in
theorem at_X3_needKey_245 : ∀ w ∈ (vx_atS RX3 245 "java/lang/IllegalStateException" ["java/lang/RuntimeException", "java/lang/Exception"]).filter goodWord, w ∈ wsX3_needKey := by decide +kernel
set_option maxRecDepth 20000 in
theorem atn_245 : ∀ w ∈ (vx_atS RX3 245 "java/lang/IllegalStateException" ["java/lang/RuntimeException", "java/lang/Exception"]).filter (fun w => !goodWord w), w ∈ [Cond.castable "java/lang/IllegalStateException" "java/lang/IllegalStateException", Cond.declares ⟨"java/lang/RuntimeException", "<init>", "(Ljava/lang/String;)V"⟩, Cond.declares ⟨"java/lang/Exception", "<init>", "(Ljava/lang/String;)V"⟩, Cond.declares ⟨"java/lang/Throwable", "<init>", "(Ljava/lang/String;)V"⟩] := by decide +kernel
set_option maxRecDepth 20000 in
theorem gd_241_245 : ∀ w ∈ Cond.classLink RX3 241 "java/lang/IllegalStateException" :: Cond.initialized "java/lang/IllegalStateException" :: vx_atS RX3 245 "java/lang/IllegalStateException" ["java/lang/RuntimeException", "java/lang/Exception"], vx_ot w = true := by decide +kernel
set_option maxRecDepth 20000 in
theorem wd_X3_needKey_k241 : Cond.classLink RX3 241 "java/lang/IllegalStateException" ∈ wsX3_needKey := by decide +kernel
set_option maxRecDepth 20000 in
theorem wd_X3_needKey_i_IllegalStateException : Cond.initialized "java/lang/IllegalStateException" ∈ wsX3_needKey := by decide +kernel
set_option maxRecDepth 20000 in
theorem in_X3_needKey_3 : ∀ w ∈ u_ws RX3 TX3 9, w ∈ wsX3_needKey := by decide +kernel
set_option maxRecDepth 20000 in
theorem lk_X3_needKey_35 : Cond.fieldLink RX3 35 (TX3 6).1 (TX3 6).2.1 (TX3 6).2.2.1 ∈ wsX3_needKey := by decide +kernel
set_option maxRecDepth 20000 in
theorem at_X3_needState_176 : ∀ w ∈ (vx_atS RX3 176 "java/lang/IndexOutOfBoundsException" ["java/lang/RuntimeException", "java/lang/Exception"]).filter goodWord, w ∈ wsX3_needState := by decide +kernel
set_option maxRecDepth 20000 in
theorem atn_176 : ∀ w ∈ (vx_atS RX3 176 "java/lang/IndexOutOfBoundsException" ["java/lang/RuntimeException", "java/lang/Exception"]).filter (fun w => !goodWord w), w ∈ [Cond.castable "java/lang/IndexOutOfBoundsException" "java/lang/IndexOutOfBoundsException", Cond.declares ⟨"java/lang/RuntimeException", "<init>", "(Ljava/lang/String;)V"⟩, Cond.declares ⟨"java/lang/Exception", "<init>", "(Ljava/lang/String;)V"⟩, Cond.declares ⟨"java/lang/Throwable", "<init>", "(Ljava/lang/String;)V"⟩] := by decide +kernel
set_option maxRecDepth 20000 in
theorem gd_172_176 : ∀ w ∈ Cond.classLink RX3 172 "java/lang/IndexOutOfBoundsException" :: Cond.initialized "java/lang/IndexOutOfBoundsException" :: vx_atS RX3 176 "java/lang/IndexOutOfBoundsException" ["java/lang/RuntimeException", "java/lang/Exception"], vx_ot w = true := by decide +kernel
set_option maxRecDepth 20000 in
theorem wd_X3_needState_k172 : Cond.classLink RX3 172 "java/lang/IndexOutOfBoundsException" ∈ wsX3_needState := by decide +kernel
set_option maxRecDepth 20000 in
theorem wd_X3_needState_i_IndexOutOfBoundsException : Cond.initialized "java/lang/IndexOutOfBoundsException" ∈ wsX3_needState := by decide +kernel
set_option maxRecDepth 20000 in
theorem in_X3_needState_2 : ∀ w ∈ u_ws RX2 TX2 5, w ∈ wsX3_needState := by decide +kernel
set_option maxRecDepth 20000 in
theorem lk_X3_needState_50 : Cond.fieldLink RX3 50 (TX2 4).1 (TX2 4).2.1 (TX2 4).2.2.1 ∈ wsX3_needState := by decide +kernel
set_option maxRecDepth 20000 in
theorem in_X3_needState_3 : ∀ w ∈ u_ws RX3 TX3 9, w ∈ wsX3_needState := by decide +kernel
set_option maxRecDepth 20000 in
theorem lk_X3_needState_16 : Cond.fieldLink RX3 16 (TX3 1).1 (TX3 1).2.1 (TX3 1).2.2.1 ∈ wsX3_needState := by decide +kernel
set_option maxRecDepth 20000 in
theorem at_X3_needToWrite_250 : ∀ w ∈ (vx_atS RX3 250 "java/lang/IllegalArgumentException" ["java/lang/RuntimeException", "java/lang/Exception"]).filter goodWord, w ∈ wsX3_needToWrite := by decide +kernel
set_option maxRecDepth 20000 in
theorem atn_250 : ∀ w ∈ (vx_atS RX3 250 "java/lang/IllegalArgumentException" ["java/lang/RuntimeException", "java/lang/Exception"]).filter (fun w => !goodWord w), w ∈ [Cond.castable "java/lang/IllegalArgumentException" "java/lang/IllegalArgumentException", Cond.declares ⟨"java/lang/RuntimeException", "<init>", "(Ljava/lang/String;)V"⟩, Cond.declares ⟨"java/lang/Exception", "<init>", "(Ljava/lang/String;)V"⟩, Cond.declares ⟨"java/lang/Throwable", "<init>", "(Ljava/lang/String;)V"⟩] := by decide +kernel
set_option maxRecDepth 20000 in
theorem gd_246_250 : ∀ w ∈ Cond.classLink RX3 246 "java/lang/IllegalArgumentException" :: Cond.initialized "java/lang/IllegalArgumentException" :: vx_atS RX3 250 "java/lang/IllegalArgumentException" ["java/lang/RuntimeException", "java/lang/Exception"], vx_ot w = true := by decide +kernel
set_option maxRecDepth 20000 in
theorem wd_X3_needToWrite_k246 : Cond.classLink RX3 246 "java/lang/IllegalArgumentException" ∈ wsX3_needToWrite := by decide +kernel
set_option maxRecDepth 20000 in
theorem wd_X3_needToWrite_i_IllegalArgumentException : Cond.initialized "java/lang/IllegalArgumentException" ∈ wsX3_needToWrite := by decide +kernel
set_option maxRecDepth 20000 in
theorem in_X3_needToWrite_2 : ∀ w ∈ u_ws RX2 TX2 5, w ∈ wsX3_needToWrite := by decide +kernel
set_option maxRecDepth 20000 in
theorem lk_X3_needToWrite_56 : Cond.fieldLink RX3 56 (TX2 3).1 (TX2 3).2.1 (TX2 3).2.2.1 ∈ wsX3_needToWrite := by decide +kernel
set_option maxRecDepth 20000 in
theorem in_X3_needToWrite_3 : ∀ w ∈ u_ws RX3 TX3 9, w ∈ wsX3_needToWrite := by decide +kernel
set_option maxRecDepth 20000 in
theorem lk_X3_needToWrite_16 : Cond.fieldLink RX3 16 (TX3 1).1 (TX3 1).2.1 (TX3 1).2.2.1 ∈ wsX3_needToWrite := by decide +kernel
set_option maxRecDepth 20000 in
theorem lk_X3_needToWrite_53 : Cond.fieldLink RX3 53 (TX2 2).1 (TX2 2).2.1 (TX2 2).2.2.1 ∈ wsX3_needToWrite := by decide +kernel
set_option maxRecDepth 20000 in
theorem in_X3_add_0 : ∀ w ∈ u_ws RX0 TX0 6, w ∈ wsX3_add := by decide +kernel
set_option maxRecDepth 20000 in
theorem lk_X3_add_100 : Cond.fieldLink RX3 100 (TX0 3).1 (TX0 3).2.1 (TX0 3).2.2.1 ∈ wsX3_add := by decide +kernel
set_option maxRecDepth 20000 in
theorem in_X3_slotOf_2 : ∀ w ∈ u_ws RX2 TX2 5, w ∈ wsX3_slotOf := by decide +kernel
set_option maxRecDepth 20000 in
theorem lk_X3_slotOf_181 : Cond.fieldLink RX3 181 (TX2 0).1 (TX2 0).2.1 (TX2 0).2.2.1 ∈ wsX3_slotOf := by decide +kernel
set_option maxRecDepth 20000 in
theorem in_X3_slotOf_3 : ∀ w ∈ u_ws RX3 TX3 9, w ∈ wsX3_slotOf := by decide +kernel
set_option maxRecDepth 20000 in
theorem lk_X3_slotOf_20 : Cond.fieldLink RX3 20 (TX3 2).1 (TX3 2).2.1 (TX3 2).2.2.1 ∈ wsX3_slotOf := by decide +kernel
set_option maxRecDepth 20000 in
theorem at_X3_snapshotIn_176 : ∀ w ∈ (vx_atS RX3 176 "java/lang/IndexOutOfBoundsException" ["java/lang/RuntimeException", "java/lang/Exception"]).filter goodWord, w ∈ wsX3_snapshotIn := by decide +kernel
set_option maxRecDepth 20000 in
theorem wd_X3_snapshotIn_k172 : Cond.classLink RX3 172 "java/lang/IndexOutOfBoundsException" ∈ wsX3_snapshotIn := by decide +kernel
set_option maxRecDepth 20000 in
theorem wd_X3_snapshotIn_i_IndexOutOfBoundsException : Cond.initialized "java/lang/IndexOutOfBoundsException" ∈ wsX3_snapshotIn := by decide +kernel
set_option maxRecDepth 20000 in
theorem in_X3_snapshotIn_3 : ∀ w ∈ u_ws RX3 TX3 9, w ∈ wsX3_snapshotIn := by decide +kernel
set_option maxRecDepth 20000 in
theorem lk_X3_snapshotIn_20 : Cond.fieldLink RX3 20 (TX3 2).1 (TX3 2).2.1 (TX3 2).2.2.1 ∈ wsX3_snapshotIn := by decide +kernel
set_option maxRecDepth 20000 in
theorem in_X3_pictureOf_3 : ∀ w ∈ u_ws RX3 TX3 9, w ∈ wsX3_pictureOf := by decide +kernel
set_option maxRecDepth 20000 in
theorem lk_X3_pictureOf_16 : Cond.fieldLink RX3 16 (TX3 1).1 (TX3 1).2.1 (TX3 1).2.2.1 ∈ wsX3_pictureOf := by decide +kernel
set_option maxRecDepth 20000 in
theorem at_X3_ask_97 : ∀ w ∈ (vx_atS RX3 97 "java/util/NoSuchElementException" ["java/lang/RuntimeException", "java/lang/Exception"]).filter goodWord, w ∈ wsX3_ask := by decide +kernel
set_option maxRecDepth 20000 in
theorem atn_97 : ∀ w ∈ (vx_atS RX3 97 "java/util/NoSuchElementException" ["java/lang/RuntimeException", "java/lang/Exception"]).filter (fun w => !goodWord w), w ∈ [Cond.castable "java/util/NoSuchElementException" "java/util/NoSuchElementException", Cond.declares ⟨"java/lang/RuntimeException", "<init>", "(Ljava/lang/String;)V"⟩, Cond.declares ⟨"java/lang/Exception", "<init>", "(Ljava/lang/String;)V"⟩, Cond.declares ⟨"java/lang/Throwable", "<init>", "(Ljava/lang/String;)V"⟩] := by decide +kernel
set_option maxRecDepth 20000 in
theorem gd_93_97 : ∀ w ∈ Cond.classLink RX3 93 "java/util/NoSuchElementException" :: Cond.initialized "java/util/NoSuchElementException" :: vx_atS RX3 97 "java/util/NoSuchElementException" ["java/lang/RuntimeException", "java/lang/Exception"], vx_ot w = true := by decide +kernel
set_option maxRecDepth 20000 in
theorem wd_X3_ask_k93 : Cond.classLink RX3 93 "java/util/NoSuchElementException" ∈ wsX3_ask := by decide +kernel
set_option maxRecDepth 20000 in
theorem wd_X3_ask_i_NoSuchElementException : Cond.initialized "java/util/NoSuchElementException" ∈ wsX3_ask := by decide +kernel
set_option maxRecDepth 20000 in
theorem in_X3_ask_0 : ∀ w ∈ u_ws RX0 TX0 6, w ∈ wsX3_ask := by decide +kernel
set_option maxRecDepth 20000 in
theorem lk_X3_ask_100 : Cond.fieldLink RX3 100 (TX0 3).1 (TX0 3).2.1 (TX0 3).2.2.1 ∈ wsX3_ask := by decide +kernel
set_option maxRecDepth 20000 in
theorem in_X3_clearSpan_3 : ∀ w ∈ u_ws RX3 TX3 9, w ∈ wsX3_clearSpan := by decide +kernel
set_option maxRecDepth 20000 in
theorem lk_X3_clearSpan_43 : Cond.fieldLink RX3 43 (TX3 8).1 (TX3 8).2.1 (TX3 8).2.2.1 ∈ wsX3_clearSpan := by decide +kernel
set_option maxRecDepth 20000 in
theorem in_X3_clearSpan_2 : ∀ w ∈ u_ws RX2 TX2 5, w ∈ wsX3_clearSpan := by decide +kernel
set_option maxRecDepth 20000 in
theorem lk_X3_clearSpan_151 : Cond.fieldLink RX3 151 (TX2 1).1 (TX2 1).2.1 (TX2 1).2.2.1 ∈ wsX3_clearSpan := by decide +kernel
set_option maxRecDepth 20000 in
theorem lk_X3_clearSpan_16 : Cond.fieldLink RX3 16 (TX3 1).1 (TX3 1).2.1 (TX3 1).2.2.1 ∈ wsX3_clearSpan := by decide +kernel
set_option maxRecDepth 20000 in
theorem in_X3_countSnapshots_3 : ∀ w ∈ u_ws RX3 TX3 9, w ∈ wsX3_countSnapshots := by decide +kernel
set_option maxRecDepth 20000 in
theorem lk_X3_countSnapshots_20 : Cond.fieldLink RX3 20 (TX3 2).1 (TX3 2).2.1 (TX3 2).2.2.1 ∈ wsX3_countSnapshots := by decide +kernel
set_option maxRecDepth 20000 in
theorem in_X3_drop_3 : ∀ w ∈ u_ws RX3 TX3 9, w ∈ wsX3_drop := by decide +kernel
set_option maxRecDepth 20000 in
theorem lk_X3_drop_16 : Cond.fieldLink RX3 16 (TX3 1).1 (TX3 1).2.1 (TX3 1).2.2.1 ∈ wsX3_drop := by decide +kernel
set_option maxRecDepth 20000 in
theorem lk_X3_drop_20 : Cond.fieldLink RX3 20 (TX3 2).1 (TX3 2).2.1 (TX3 2).2.2.1 ∈ wsX3_drop := by decide +kernel
set_option maxRecDepth 20000 in
theorem in_X3_fold_0 : ∀ w ∈ u_ws RX0 TX0 6, w ∈ wsX3_fold := by decide +kernel
set_option maxRecDepth 20000 in
theorem lk_X3_fold_137 : Cond.fieldLink RX3 137 (TX0 5).1 (TX0 5).2.1 (TX0 5).2.2.1 ∈ wsX3_fold := by decide +kernel
set_option maxRecDepth 20000 in
theorem in_X3_fold_2 : ∀ w ∈ u_ws RX2 TX2 5, w ∈ wsX3_fold := by decide +kernel
set_option maxRecDepth 20000 in
theorem lk_X3_fold_56 : Cond.fieldLink RX3 56 (TX2 3).1 (TX2 3).2.1 (TX2 3).2.2.1 ∈ wsX3_fold := by decide +kernel
set_option maxRecDepth 20000 in
theorem in_X3_fold_3 : ∀ w ∈ u_ws RX3 TX3 9, w ∈ wsX3_fold := by decide +kernel
set_option maxRecDepth 20000 in
theorem lk_X3_fold_16 : Cond.fieldLink RX3 16 (TX3 1).1 (TX3 1).2.1 (TX3 1).2.2.1 ∈ wsX3_fold := by decide +kernel
set_option maxRecDepth 20000 in
theorem at_X3_needToRead_250 : ∀ w ∈ (vx_atS RX3 250 "java/lang/IllegalArgumentException" ["java/lang/RuntimeException", "java/lang/Exception"]).filter goodWord, w ∈ wsX3_needToRead := by decide +kernel
set_option maxRecDepth 20000 in
theorem wd_X3_needToRead_k246 : Cond.classLink RX3 246 "java/lang/IllegalArgumentException" ∈ wsX3_needToRead := by decide +kernel
set_option maxRecDepth 20000 in
theorem wd_X3_needToRead_i_IllegalArgumentException : Cond.initialized "java/lang/IllegalArgumentException" ∈ wsX3_needToRead := by decide +kernel
set_option maxRecDepth 20000 in
theorem in_X3_needToRead_2 : ∀ w ∈ u_ws RX2 TX2 5, w ∈ wsX3_needToRead := by decide +kernel
set_option maxRecDepth 20000 in
theorem lk_X3_needToRead_53 : Cond.fieldLink RX3 53 (TX2 2).1 (TX2 2).2.1 (TX2 2).2.2.1 ∈ wsX3_needToRead := by decide +kernel
set_option maxRecDepth 20000 in
theorem in_X3_needToRead_3 : ∀ w ∈ u_ws RX3 TX3 9, w ∈ wsX3_needToRead := by decide +kernel
set_option maxRecDepth 20000 in
theorem lk_X3_needToRead_16 : Cond.fieldLink RX3 16 (TX3 1).1 (TX3 1).2.1 (TX3 1).2.2.1 ∈ wsX3_needToRead := by decide +kernel
set_option maxRecDepth 20000 in
theorem in_X3_get_0 : ∀ w ∈ u_ws RX0 TX0 6, w ∈ wsX3_get := by decide +kernel
set_option maxRecDepth 20000 in
theorem lk_X3_get_100 : Cond.fieldLink RX3 100 (TX0 3).1 (TX0 3).2.1 (TX0 3).2.2.1 ∈ wsX3_get := by decide +kernel
set_option maxRecDepth 20000 in
theorem at_X3_get_97 : ∀ w ∈ (vx_atS RX3 97 "java/util/NoSuchElementException" ["java/lang/RuntimeException", "java/lang/Exception"]).filter goodWord, w ∈ wsX3_get := by decide +kernel
set_option maxRecDepth 20000 in
theorem wd_X3_get_k93 : Cond.classLink RX3 93 "java/util/NoSuchElementException" ∈ wsX3_get := by decide +kernel
set_option maxRecDepth 20000 in
theorem wd_X3_get_i_NoSuchElementException : Cond.initialized "java/util/NoSuchElementException" ∈ wsX3_get := by decide +kernel
set_option maxRecDepth 20000 in
theorem in_X3_init_3 : ∀ w ∈ u_ws RX3 TX3 9, w ∈ wsX3_init := by decide +kernel
set_option maxRecDepth 20000 in
theorem lk_X3_init_43 : Cond.fieldLink RX3 43 (TX3 8).1 (TX3 8).2.1 (TX3 8).2.2.1 ∈ wsX3_init := by decide +kernel
set_option maxRecDepth 20000 in
theorem lk_X3_init_39 : Cond.fieldLink RX3 39 (TX3 7).1 (TX3 7).2.1 (TX3 7).2.2.1 ∈ wsX3_init := by decide +kernel
set_option maxRecDepth 20000 in
theorem lk_X3_init_35 : Cond.fieldLink RX3 35 (TX3 6).1 (TX3 6).2.1 (TX3 6).2.2.1 ∈ wsX3_init := by decide +kernel
set_option maxRecDepth 20000 in
theorem lk_X3_init_32 : Cond.fieldLink RX3 32 (TX3 5).1 (TX3 5).2.1 (TX3 5).2.2.1 ∈ wsX3_init := by decide +kernel
set_option maxRecDepth 20000 in
theorem lk_X3_init_28 : Cond.fieldLink RX3 28 (TX3 4).1 (TX3 4).2.1 (TX3 4).2.2.1 ∈ wsX3_init := by decide +kernel
set_option maxRecDepth 20000 in
theorem lk_X3_init_24 : Cond.fieldLink RX3 24 (TX3 3).1 (TX3 3).2.1 (TX3 3).2.2.1 ∈ wsX3_init := by decide +kernel
set_option maxRecDepth 20000 in
theorem wd_X3_init_a1 : Cond.arrayClass (newarray.typeOf .long) ∈ wsX3_init := by decide +kernel
set_option maxRecDepth 20000 in
theorem lk_X3_init_20 : Cond.fieldLink RX3 20 (TX3 2).1 (TX3 2).2.1 (TX3 2).2.2.1 ∈ wsX3_init := by decide +kernel
set_option maxRecDepth 20000 in
theorem wd_X3_init_k13 : Cond.classLink RX3 13 RX2 ∈ wsX3_init := by decide +kernel
set_option maxRecDepth 20000 in
theorem lk_X3_init_16 : Cond.fieldLink RX3 16 (TX3 1).1 (TX3 1).2.1 (TX3 1).2.2.1 ∈ wsX3_init := by decide +kernel
set_option maxRecDepth 20000 in
theorem wd_X3_init_iRX2 : Cond.initialized RX2 ∈ wsX3_init := by decide +kernel
set_option maxRecDepth 20000 in
theorem wd_X3_init_ml15 : Cond.methodLink RX3 15 yX2_init ∈ wsX3_init := by decide +kernel
set_option maxRecDepth 20000 in
theorem wd_X3_init_im_X2_init : Cond.instanceMethod yX2_init ∈ wsX3_init := by decide +kernel
set_option maxRecDepth 20000 in
theorem in_X3_init_2 : ∀ w ∈ u_ws RX2 TX2 5, w ∈ wsX3_init := by decide +kernel
set_option maxRecDepth 20000 in
theorem wd_X3_init_n2 : Cond.instantiable RX2 5 ∈ wsX3_init := by decide +kernel
set_option maxRecDepth 20000 in
theorem wd_X3_init_i2 : Cond.initialized RX2 ∈ wsX3_init := by decide +kernel
set_option maxRecDepth 20000 in
theorem lk_X3_init_9 : Cond.fieldLink RX3 9 (TX3 0).1 (TX3 0).2.1 (TX3 0).2.2.1 ∈ wsX3_init := by decide +kernel
set_option maxRecDepth 20000 in
theorem wd_X3_init_a0 : Cond.arrayClass (newarray.typeOf .int) ∈ wsX3_init := by decide +kernel
set_option maxRecDepth 20000 in
theorem wd_X3_init_m1 : Cond.methodLink RX3 1 Lib.objectInit ∈ wsX3_init := by decide +kernel
set_option maxRecDepth 20000 in
theorem wd_X3_init_oi : Cond.instanceMethod Lib.objectInit ∈ wsX3_init := by decide +kernel
set_option maxRecDepth 20000 in
theorem wd_X3_init_oc : Cond.code Lib.objectInit ⟨#[0xb1]⟩ 1 none ∈ wsX3_init := by decide +kernel
set_option maxRecDepth 20000 in
theorem at_X3_numberAt_176 : ∀ w ∈ (vx_atS RX3 176 "java/lang/IndexOutOfBoundsException" ["java/lang/RuntimeException", "java/lang/Exception"]).filter goodWord, w ∈ wsX3_numberAt := by decide +kernel
set_option maxRecDepth 20000 in
theorem wd_X3_numberAt_k172 : Cond.classLink RX3 172 "java/lang/IndexOutOfBoundsException" ∈ wsX3_numberAt := by decide +kernel
set_option maxRecDepth 20000 in
theorem wd_X3_numberAt_i_IndexOutOfBoundsException : Cond.initialized "java/lang/IndexOutOfBoundsException" ∈ wsX3_numberAt := by decide +kernel
set_option maxRecDepth 20000 in
theorem in_X3_item_0 : ∀ w ∈ u_ws RX0 TX0 6, w ∈ wsX3_item := by decide +kernel
set_option maxRecDepth 20000 in
theorem lk_X3_item_100 : Cond.fieldLink RX3 100 (TX0 3).1 (TX0 3).2.1 (TX0 3).2.2.1 ∈ wsX3_item := by decide +kernel
set_option maxRecDepth 20000 in
theorem in_X3_key_3 : ∀ w ∈ u_ws RX3 TX3 9, w ∈ wsX3_key := by decide +kernel
set_option maxRecDepth 20000 in
theorem lk_X3_key_39 : Cond.fieldLink RX3 39 (TX3 7).1 (TX3 7).2.1 (TX3 7).2.2.1 ∈ wsX3_key := by decide +kernel
set_option maxRecDepth 20000 in
theorem lk_X3_key_35 : Cond.fieldLink RX3 35 (TX3 6).1 (TX3 6).2.1 (TX3 6).2.2.1 ∈ wsX3_key := by decide +kernel
set_option maxRecDepth 20000 in
theorem in_X3_sortKeys_3 : ∀ w ∈ u_ws RX3 TX3 9, w ∈ wsX3_sortKeys := by decide +kernel
set_option maxRecDepth 20000 in
theorem lk_X3_sortKeys_43 : Cond.fieldLink RX3 43 (TX3 8).1 (TX3 8).2.1 (TX3 8).2.2.1 ∈ wsX3_sortKeys := by decide +kernel
set_option maxRecDepth 20000 in
theorem lk_X3_sortKeys_24 : Cond.fieldLink RX3 24 (TX3 3).1 (TX3 3).2.1 (TX3 3).2.2.1 ∈ wsX3_sortKeys := by decide +kernel
set_option maxRecDepth 20000 in
theorem in_X3_sortKeys_2 : ∀ w ∈ u_ws RX2 TX2 5, w ∈ wsX3_sortKeys := by decide +kernel
set_option maxRecDepth 20000 in
theorem lk_X3_sortKeys_151 : Cond.fieldLink RX3 151 (TX2 1).1 (TX2 1).2.1 (TX2 1).2.2.1 ∈ wsX3_sortKeys := by decide +kernel
set_option maxRecDepth 20000 in
theorem lk_X3_sortKeys_16 : Cond.fieldLink RX3 16 (TX3 1).1 (TX3 1).2.1 (TX3 1).2.2.1 ∈ wsX3_sortKeys := by decide +kernel
set_option maxRecDepth 20000 in
theorem at_X3_keyAt_176 : ∀ w ∈ (vx_atS RX3 176 "java/lang/IndexOutOfBoundsException" ["java/lang/RuntimeException", "java/lang/Exception"]).filter goodWord, w ∈ wsX3_keyAt := by decide +kernel
set_option maxRecDepth 20000 in
theorem wd_X3_keyAt_k172 : Cond.classLink RX3 172 "java/lang/IndexOutOfBoundsException" ∈ wsX3_keyAt := by decide +kernel
set_option maxRecDepth 20000 in
theorem wd_X3_keyAt_i_IndexOutOfBoundsException : Cond.initialized "java/lang/IndexOutOfBoundsException" ∈ wsX3_keyAt := by decide +kernel
set_option maxRecDepth 20000 in
theorem in_X3_keyAt_3 : ∀ w ∈ u_ws RX3 TX3 9, w ∈ wsX3_keyAt := by decide +kernel
set_option maxRecDepth 20000 in
theorem lk_X3_keyAt_24 : Cond.fieldLink RX3 24 (TX3 3).1 (TX3 3).2.1 (TX3 3).2.2.1 ∈ wsX3_keyAt := by decide +kernel
set_option maxRecDepth 20000 in
theorem in_X3_leave_3 : ∀ w ∈ u_ws RX3 TX3 9, w ∈ wsX3_leave := by decide +kernel
set_option maxRecDepth 20000 in
theorem lk_X3_leave_35 : Cond.fieldLink RX3 35 (TX3 6).1 (TX3 6).2.1 (TX3 6).2.2.1 ∈ wsX3_leave := by decide +kernel
set_option maxRecDepth 20000 in
theorem in_X3_member_0 : ∀ w ∈ u_ws RX0 TX0 6, w ∈ wsX3_member := by decide +kernel
set_option maxRecDepth 20000 in
theorem lk_X3_member_122 : Cond.fieldLink RX3 122 (TX0 4).1 (TX0 4).2.1 (TX0 4).2.2.1 ∈ wsX3_member := by decide +kernel
set_option maxRecDepth 20000 in
theorem in_X3_move_2 : ∀ w ∈ u_ws RX2 TX2 5, w ∈ wsX3_move := by decide +kernel
set_option maxRecDepth 20000 in
theorem lk_X3_move_56 : Cond.fieldLink RX3 56 (TX2 3).1 (TX2 3).2.1 (TX2 3).2.2.1 ∈ wsX3_move := by decide +kernel
set_option maxRecDepth 20000 in
theorem in_X3_move_3 : ∀ w ∈ u_ws RX3 TX3 9, w ∈ wsX3_move := by decide +kernel
set_option maxRecDepth 20000 in
theorem lk_X3_move_16 : Cond.fieldLink RX3 16 (TX3 1).1 (TX3 1).2.1 (TX3 1).2.2.1 ∈ wsX3_move := by decide +kernel
set_option maxRecDepth 20000 in
theorem lk_X3_move_53 : Cond.fieldLink RX3 53 (TX2 2).1 (TX2 2).2.1 (TX2 2).2.2.1 ∈ wsX3_move := by decide +kernel
set_option maxRecDepth 20000 in
theorem lk_X3_move_151 : Cond.fieldLink RX3 151 (TX2 1).1 (TX2 1).2.1 (TX2 1).2.2.1 ∈ wsX3_move := by decide +kernel
set_option maxRecDepth 20000 in
theorem at_X3_of_176 : ∀ w ∈ (vx_atS RX3 176 "java/lang/IndexOutOfBoundsException" ["java/lang/RuntimeException", "java/lang/Exception"]).filter goodWord, w ∈ wsX3_of := by decide +kernel
set_option maxRecDepth 20000 in
theorem wd_X3_of_k172 : Cond.classLink RX3 172 "java/lang/IndexOutOfBoundsException" ∈ wsX3_of := by decide +kernel
set_option maxRecDepth 20000 in
theorem wd_X3_of_i_IndexOutOfBoundsException : Cond.initialized "java/lang/IndexOutOfBoundsException" ∈ wsX3_of := by decide +kernel
set_option maxRecDepth 20000 in
theorem in_X3_of_3 : ∀ w ∈ u_ws RX3 TX3 9, w ∈ wsX3_of := by decide +kernel
set_option maxRecDepth 20000 in
theorem lk_X3_of_9 : Cond.fieldLink RX3 9 (TX3 0).1 (TX3 0).2.1 (TX3 0).2.2.1 ∈ wsX3_of := by decide +kernel
set_option maxRecDepth 20000 in
theorem in_X3_of_2 : ∀ w ∈ u_ws RX2 TX2 5, w ∈ wsX3_of := by decide +kernel
set_option maxRecDepth 20000 in
theorem lk_X3_of_53 : Cond.fieldLink RX3 53 (TX2 2).1 (TX2 2).2.1 (TX2 2).2.2.1 ∈ wsX3_of := by decide +kernel
set_option maxRecDepth 20000 in
theorem lk_X3_of_16 : Cond.fieldLink RX3 16 (TX3 1).1 (TX3 1).2.1 (TX3 1).2.2.1 ∈ wsX3_of := by decide +kernel
set_option maxRecDepth 20000 in
theorem lk_X3_of_56 : Cond.fieldLink RX3 56 (TX2 3).1 (TX2 3).2.1 (TX2 3).2.2.1 ∈ wsX3_of := by decide +kernel
set_option maxRecDepth 20000 in
theorem in_X3_restore_3 : ∀ w ∈ u_ws RX3 TX3 9, w ∈ wsX3_restore := by decide +kernel
set_option maxRecDepth 20000 in
theorem lk_X3_restore_16 : Cond.fieldLink RX3 16 (TX3 1).1 (TX3 1).2.1 (TX3 1).2.2.1 ∈ wsX3_restore := by decide +kernel
set_option maxRecDepth 20000 in
theorem in_X3_set_0 : ∀ w ∈ u_ws RX0 TX0 6, w ∈ wsX3_set := by decide +kernel
set_option maxRecDepth 20000 in
theorem lk_X3_set_122 : Cond.fieldLink RX3 122 (TX0 4).1 (TX0 4).2.1 (TX0 4).2.2.1 ∈ wsX3_set := by decide +kernel
set_option maxRecDepth 20000 in
theorem in_X3_size_0 : ∀ w ∈ u_ws RX0 TX0 6, w ∈ wsX3_size := by decide +kernel
set_option maxRecDepth 20000 in
theorem lk_X3_size_100 : Cond.fieldLink RX3 100 (TX0 3).1 (TX0 3).2.1 (TX0 3).2.2.1 ∈ wsX3_size := by decide +kernel
set_option maxRecDepth 20000 in
theorem lk_X3_size_137 : Cond.fieldLink RX3 137 (TX0 5).1 (TX0 5).2.1 (TX0 5).2.2.1 ∈ wsX3_size := by decide +kernel
set_option maxRecDepth 20000 in
theorem in_X3_size_2 : ∀ w ∈ u_ws RX2 TX2 5, w ∈ wsX3_size := by decide +kernel
set_option maxRecDepth 20000 in
theorem lk_X3_size_53 : Cond.fieldLink RX3 53 (TX2 2).1 (TX2 2).2.1 (TX2 2).2.2.1 ∈ wsX3_size := by decide +kernel
set_option maxRecDepth 20000 in
theorem in_X3_size_3 : ∀ w ∈ u_ws RX3 TX3 9, w ∈ wsX3_size := by decide +kernel
set_option maxRecDepth 20000 in
theorem lk_X3_size_16 : Cond.fieldLink RX3 16 (TX3 1).1 (TX3 1).2.1 (TX3 1).2.2.1 ∈ wsX3_size := by decide +kernel
set_option maxRecDepth 20000 in
theorem in_X3_snapshot_2 : ∀ w ∈ u_ws RX2 TX2 5, w ∈ wsX3_snapshot := by decide +kernel
set_option maxRecDepth 20000 in
theorem lk_X3_snapshot_181 : Cond.fieldLink RX3 181 (TX2 0).1 (TX2 0).2.1 (TX2 0).2.2.1 ∈ wsX3_snapshot := by decide +kernel
set_option maxRecDepth 20000 in
theorem in_X3_snapshot_3 : ∀ w ∈ u_ws RX3 TX3 9, w ∈ wsX3_snapshot := by decide +kernel
set_option maxRecDepth 20000 in
theorem lk_X3_snapshot_28 : Cond.fieldLink RX3 28 (TX3 4).1 (TX3 4).2.1 (TX3 4).2.2.1 ∈ wsX3_snapshot := by decide +kernel
set_option maxRecDepth 20000 in
theorem lk_X3_snapshot_20 : Cond.fieldLink RX3 20 (TX3 2).1 (TX3 2).2.1 (TX3 2).2.2.1 ∈ wsX3_snapshot := by decide +kernel
set_option maxRecDepth 20000 in
theorem lk_X3_snapshot_16 : Cond.fieldLink RX3 16 (TX3 1).1 (TX3 1).2.1 (TX3 1).2.2.1 ∈ wsX3_snapshot := by decide +kernel
set_option maxRecDepth 20000 in
theorem in_X3_span_3 : ∀ w ∈ u_ws RX3 TX3 9, w ∈ wsX3_span := by decide +kernel
set_option maxRecDepth 20000 in
theorem lk_X3_span_43 : Cond.fieldLink RX3 43 (TX3 8).1 (TX3 8).2.1 (TX3 8).2.2.1 ∈ wsX3_span := by decide +kernel
set_option maxRecDepth 20000 in
theorem in_X3_state_3 : ∀ w ∈ u_ws RX3 TX3 9, w ∈ wsX3_state := by decide +kernel
set_option maxRecDepth 20000 in
theorem lk_X3_state_16 : Cond.fieldLink RX3 16 (TX3 1).1 (TX3 1).2.1 (TX3 1).2.2.1 ∈ wsX3_state := by decide +kernel
set_option maxRecDepth 20000 in
theorem in_X3_state_2 : ∀ w ∈ u_ws RX2 TX2 5, w ∈ wsX3_state := by decide +kernel
set_option maxRecDepth 20000 in
theorem lk_X3_state_50 : Cond.fieldLink RX3 50 (TX2 4).1 (TX2 4).2.1 (TX2 4).2.2.1 ∈ wsX3_state := by decide +kernel
set_option maxRecDepth 20000 in
theorem lk_X3_state_9 : Cond.fieldLink RX3 9 (TX3 0).1 (TX3 0).2.1 (TX3 0).2.2.1 ∈ wsX3_state := by decide +kernel
set_option maxRecDepth 20000 in
theorem lk_X3_state_56 : Cond.fieldLink RX3 56 (TX2 3).1 (TX2 3).2.1 (TX2 3).2.2.1 ∈ wsX3_state := by decide +kernel
set_option maxRecDepth 20000 in
theorem lk_X3_state_53 : Cond.fieldLink RX3 53 (TX2 2).1 (TX2 2).2.1 (TX2 2).2.2.1 ∈ wsX3_state := by decide +kernel
set_option maxRecDepth 20000 in
theorem in_X3_told_2 : ∀ w ∈ u_ws RX2 TX2 5, w ∈ wsX3_told := by decide +kernel
set_option maxRecDepth 20000 in
theorem lk_X3_told_50 : Cond.fieldLink RX3 50 (TX2 4).1 (TX2 4).2.1 (TX2 4).2.2.1 ∈ wsX3_told := by decide +kernel
set_option maxRecDepth 20000 in
theorem in_X3_told_3 : ∀ w ∈ u_ws RX3 TX3 9, w ∈ wsX3_told := by decide +kernel
set_option maxRecDepth 20000 in
theorem lk_X3_told_16 : Cond.fieldLink RX3 16 (TX3 1).1 (TX3 1).2.1 (TX3 1).2.2.1 ∈ wsX3_told := by decide +kernel
set_option maxRecDepth 20000 in
theorem lk_X3_told_32 : Cond.fieldLink RX3 32 (TX3 5).1 (TX3 5).2.1 (TX3 5).2.2.1 ∈ wsX3_told := by decide +kernel
set_option maxRecDepth 20000 in
theorem in_X3_value_0 : ∀ w ∈ u_ws RX0 TX0 6, w ∈ wsX3_value := by decide +kernel
set_option maxRecDepth 20000 in
theorem lk_X3_value_100 : Cond.fieldLink RX3 100 (TX0 3).1 (TX0 3).2.1 (TX0 3).2.2.1 ∈ wsX3_value := by decide +kernel
set_option maxRecDepth 20000 in
theorem at_X3_value_97 : ∀ w ∈ (vx_atS RX3 97 "java/util/NoSuchElementException" ["java/lang/RuntimeException", "java/lang/Exception"]).filter goodWord, w ∈ wsX3_value := by decide +kernel
set_option maxRecDepth 20000 in
theorem wd_X3_value_k93 : Cond.classLink RX3 93 "java/util/NoSuchElementException" ∈ wsX3_value := by decide +kernel
set_option maxRecDepth 20000 in
theorem wd_X3_value_i_NoSuchElementException : Cond.initialized "java/util/NoSuchElementException" ∈ wsX3_value := by decide +kernel
abbrev mX3_entryAtHand (l : Launch) (K : Kx) (mc ms : Nat) (As : List Value) (h : Hp) (Post : Rs → Hp → Prop) : Prop := MX l K yX3_entryAtHand wsX3_entryAtHand 3 110 mc ms As h Post
set_option maxRecDepth 100000 in
set_option maxHeartbeats 4000000 in
theorem fX3_entryAtHand {l : Launch} {K : Kx} {mc ms : Nat} {a0 : Nat} {x1 : Int32} {h : Hp} {Post : Rs → Hp → Prop} (htr : l.stackTraces = false)
    (F : (∃ p_1, gf h a0 3 1 = some (.ref p_1) ∧ (∃ u_2, gf h a0 3 7 = some (.long u_2) ∧ (∃ v_3, gf h a0 3 8 = some (.int v_3) ∧ ((∃ fs, h p_1 = some (xO 2 fs)) ∧ (∃ c_5 w_6, 0 + c_5 ≤ mc ∧ 0 + w_6 ≤ ms ∧ mX2_entryOf l K c_5 w_6 [.ref p_1, .int x1, .long u_2, .int v_3] h (kQ (fun o_7 h_4 => (((0 + c_5) ≤ mc ∧ (0 + w_6) ≤ ms) ∧ Post (.inl (some (va_rf o_7))) h_4))))))))) :
    mX3_entryAtHand l K mc ms [.ref a0, .int x1] h Post := by
  refine MX.enter htr (by decide) rfl (Nat.le_of_ble_eq_true rfl) ?_
  refine J_lveq (lv' := [(0, .ref a0), (1, .int x1)]) rfl ?_
  refine J_aload_n dX3_entryAtHand_0 0 rfl ?_
  obtain ⟨p_1, g9, F⟩ := F
  refine J_get (ci := 3) (k := 1) dX3_entryAtHand_1 rfl in_X3_entryAtHand_3 (by decide) lk_X3_entryAtHand_16 g9 ?_
  refine J_iload_n dX3_entryAtHand_4 1 rfl ?_
  refine J_aload_n dX3_entryAtHand_5 0 rfl ?_
  obtain ⟨u_2, g9, F⟩ := F
  refine J_get (ci := 3) (k := 7) dX3_entryAtHand_6 rfl in_X3_entryAtHand_3 (by decide) lk_X3_entryAtHand_39 g9 ?_
  refine J_aload_n dX3_entryAtHand_9 0 rfl ?_
  obtain ⟨v_3, g9, F⟩ := F
  refine J_get (ci := 3) (k := 8) dX3_entryAtHand_10 rfl in_X3_entryAtHand_3 (by decide) lk_X3_entryAtHand_43 g9 ?_
  obtain ⟨b9, F⟩ := F
  obtain ⟨c_5, w_6, k9, w9, F⟩ := F
  refine J_callV0 (ci := 2) (n := 3) (As := [.int x1, .long u_2, .int v_3]) (rest := []) dX3_entryAtHand_13 rfl gX3_entryAtHand_X2_entryOf rfl (by decide +kernel) rfl (by decide) b9 (Nat.le_of_ble_eq_true rfl) k9 w9 F kQ_no (kQ_kk (fun o_7 h_4 F => ?_))
  obtain ⟨k9, F⟩ := F
  exact J_aret (x := o_7) dX3_entryAtHand_16 rfl (Or.inl ⟨_, rfl⟩) k9.1 k9.2 F

abbrev mX3_hasNoRoomFor (l : Launch) (K : Kx) (As : List Value) (h : Hp) (Post : Rs → Hp → Prop) : Prop := MX l K yX3_hasNoRoomFor wsX3_hasNoRoomFor 2 44 0 0 As h Post
set_option maxRecDepth 100000 in
set_option maxHeartbeats 4000000 in
theorem fX3_hasNoRoomFor {l : Launch} {K : Kx} {a0 : Nat} {x1 : Nat} {h : Hp} {Post : Rs → Hp → Prop} (htr : l.stackTraces = false)
    (F : ((∃ fs, h x1 = some (xO 0 fs)) ∧ mX0_isNone l K [.ref x1] h (kI (fun v_2 h_1 => ((v_2 = nI 0 → (Post (.inl (some (.int (nI 0)))) h_1)) ∧ (¬ v_2 = nI 0 → (∃ p_3, gf h_1 a0 3 1 = some (.ref p_3) ∧ ((∃ fs, h_1 p_3 = some (xO 2 fs)) ∧ mX2_countEntries l K [.ref p_3] h_1 (kI (fun v_5 h_4 => ((v_5 < (nI 150) → (Post (.inl (some (.int (nI 0)))) h_4)) ∧ (¬ v_5 < (nI 150) → (Post (.inl (some (.int (nI 1)))) h_4))))))))))))) :
    mX3_hasNoRoomFor l K [.ref a0, .ref x1] h Post := by
  refine MX.enter htr (by decide) rfl (Nat.le_of_ble_eq_true rfl) ?_
  refine J_lveq (lv' := [(0, .ref a0), (1, .ref x1)]) rfl ?_
  refine J_aload_n dX3_hasNoRoomFor_0 1 rfl ?_
  obtain ⟨b9, F⟩ := F
  refine J_callV0 (ci := 0) (n := 0) (As := []) (rest := []) dX3_hasNoRoomFor_1 rfl gX3_hasNoRoomFor_X0_isNone rfl (by decide +kernel) rfl (by decide) b9 (Nat.le_of_ble_eq_true rfl) (Nat.le_refl _) (Nat.le_refl _) F kI_no (kI_kk (fun v_2 h_1 F => ?_))
  refine J_if_eq (tgt := 24) dX3_hasNoRoomFor_4 (by decide) (fun c => ?_) (fun c => ?_)
  · replace F := F.1 c
    refine J_iconst (v := nI 0) dX3_hasNoRoomFor_24 (by decide) ?_
    exact J_zret dX3_hasNoRoomFor_25 rfl (by decide) (Nat.le_refl _) (Nat.le_refl _) F
  · replace F := F.2 c
    refine J_aload_n dX3_hasNoRoomFor_7 0 rfl ?_
    obtain ⟨p_3, g9, F⟩ := F
    refine J_get (ci := 3) (k := 1) dX3_hasNoRoomFor_8 rfl in_X3_hasNoRoomFor_3 (by decide) lk_X3_hasNoRoomFor_16 g9 ?_
    obtain ⟨b9, F⟩ := F
    refine J_callV0 (ci := 2) (n := 0) (As := []) (rest := []) dX3_hasNoRoomFor_11 rfl gX3_hasNoRoomFor_X2_countEntries rfl (by decide +kernel) rfl (by decide) b9 (Nat.le_of_ble_eq_true rfl) (Nat.le_refl _) (Nat.le_refl _) F kI_no (kI_kk (fun v_5 h_4 F => ?_))
    refine J_sipush (v := nI 150) dX3_hasNoRoomFor_14 (by decide) ?_
    refine J_icmp_lt (tgt := 24) dX3_hasNoRoomFor_17 (by decide) (fun c => ?_) (fun c => ?_)
    · replace F := F.1 c
      refine J_iconst (v := nI 0) dX3_hasNoRoomFor_24 (by decide) ?_
      exact J_zret dX3_hasNoRoomFor_25 rfl (by decide) (Nat.le_refl _) (Nat.le_refl _) F
    · replace F := F.2 c
      refine J_iconst (v := nI 1) dX3_hasNoRoomFor_20 (by decide) ?_
      refine J_goto (tgt := 25) dX3_hasNoRoomFor_21 (by decide) ?_
      exact J_zret dX3_hasNoRoomFor_25 rfl (by decide) (Nat.le_refl _) (Nat.le_refl _) F

abbrev mX3_pageToChange (l : Launch) (K : Kx) (mc ms : Nat) (As : List Value) (h : Hp) (Post : Rs → Hp → Prop) : Prop := MX l K yX3_pageToChange wsX3_pageToChange 3 101 mc ms As h Post
set_option maxRecDepth 100000 in
set_option maxHeartbeats 4000000 in
theorem fX3_pageToChange {l : Launch} {K : Kx} {mc ms : Nat} {a0 : Nat} {x1 : Int32} {h : Hp} {Post : Rs → Hp → Prop} (htr : l.stackTraces = false)
    (F : (∃ p_1, gf h a0 3 1 = some (.ref p_1) ∧ (∃ p_2, gf h p_1 2 1 = some (.ref p_2) ∧ (∃ o_3, aQ K 4 h p_2 x1 = some o_3 ∧ (∃ a_4, o_3 = some a_4 ∧ ((∃ fs, h a_4 = some (xO 1 fs)) ∧ (0 + 0 ≤ mc ∧ 0 + 0 ≤ ms ∧ mX1_isShared l K [.ref a_4] h (kI (fun v_6 h_5 => ((v_6 = nI 0 → (((0 + 0) ≤ mc ∧ (0 + 0) ≤ ms) ∧ Post (.inl (some (.ref a_4))) h_5)) ∧ (¬ v_6 = nI 0 → ((∃ fs, h_5 a_4 = some (xO 1 fs)) ∧ (∃ c_8 w_9, (0 + 0) + c_8 ≤ mc ∧ (0 + 0) + w_9 ≤ ms ∧ mX1_copied l K c_8 w_9 [.ref a_4] h_5 (kQ (fun o_10 h_7 => (∃ p_11, gf h_7 a0 3 1 = some (.ref p_11) ∧ (∃ p_12, gf h_7 p_11 2 1 = some (.ref p_12) ∧ ((∀ v9, o_10 = some v9 → ∃ fs, h_7 v9 = some (xO 1 fs)) ∧ ∃ h_13, wQ K 4 h_7 p_12 x1 o_10 = some h_13 ∧ (∃ v_14, gf h_13 a0 3 5 = some (.int v_14) ∧ (∃ h_15, pf h_13 a0 3 5 (.int (v_14 + (nI 1))) = some h_15 ∧ ((((0 + 0) + c_8) ≤ mc ∧ ((0 + 0) + w_9) ≤ ms) ∧ Post (.inl (some (va_rf o_10))) h_15))))))))))))))))))))) :
    mX3_pageToChange l K mc ms [.ref a0, .int x1] h Post := by
  refine MX.enter htr (by decide) rfl (Nat.le_of_ble_eq_true rfl) ?_
  refine J_lveq (lv' := [(0, .ref a0), (1, .int x1)]) rfl ?_
  refine J_aload_n dX3_pageToChange_0 0 rfl ?_
  obtain ⟨p_1, g9, F⟩ := F
  refine J_get (ci := 3) (k := 1) dX3_pageToChange_1 rfl in_X3_pageToChange_3 (by decide) lk_X3_pageToChange_16 g9 ?_
  obtain ⟨p_2, g9, F⟩ := F
  refine J_get (ci := 2) (k := 1) dX3_pageToChange_4 rfl in_X3_pageToChange_2 (by decide) lk_X3_pageToChange_151 g9 ?_
  refine J_iload_n dX3_pageToChange_7 1 rfl ?_
  obtain ⟨o_3, g9, F⟩ := F
  refine J_aald (t := 4) dX3_pageToChange_8 rfl g9 ?_
  refine J_astore_nq (lv' := [(2, va_rf o_3), (0, .ref a0), (1, .int x1)]) dX3_pageToChange_9 rfl (by decide) rfl ?_
  refine J_aload_nq dX3_pageToChange_10 0 rfl ?_
  obtain ⟨a_4, hq9, F⟩ := F
  rw [hq9]
  obtain ⟨b9, F⟩ := F
  obtain ⟨k9, w9, F⟩ := F
  refine J_callV0 (ci := 1) (n := 0) (As := []) (rest := []) dX3_pageToChange_11 rfl gX3_pageToChange_X1_isShared rfl (by decide +kernel) rfl (by decide) b9 (Nat.le_of_ble_eq_true rfl) k9 w9 F kI_no (kI_kk (fun v_6 h_5 F => ?_))
  refine J_if_eq (tgt := 42) dX3_pageToChange_14 (by decide) (fun c => ?_) (fun c => ?_)
  · replace F := F.1 c
    refine J_aload_n dX3_pageToChange_42 0 rfl ?_
    obtain ⟨k9, F⟩ := F
    exact J_aret (x := some a_4) dX3_pageToChange_43 rfl (Or.inl ⟨_, rfl⟩) k9.1 k9.2 F
  · replace F := F.2 c
    refine J_aload_n dX3_pageToChange_17 0 rfl ?_
    obtain ⟨b9, F⟩ := F
    obtain ⟨c_8, w_9, k9, w9, F⟩ := F
    refine J_callV0 (ci := 1) (n := 0) (As := []) (rest := []) dX3_pageToChange_18 rfl gX3_pageToChange_X1_copied rfl (by decide +kernel) rfl (by decide) b9 (Nat.le_of_ble_eq_true rfl) k9 w9 F kQ_no (kQ_kk (fun o_10 h_7 F => ?_))
    refine J_astore_nq (lv' := [(2, va_rf o_10), (0, .ref a0), (1, .int x1)]) dX3_pageToChange_21 rfl (by decide) rfl ?_
    refine J_aload_n dX3_pageToChange_22 1 rfl ?_
    obtain ⟨p_11, g9, F⟩ := F
    refine J_get (ci := 3) (k := 1) dX3_pageToChange_23 rfl in_X3_pageToChange_3 (by decide) lk_X3_pageToChange_16 g9 ?_
    obtain ⟨p_12, g9, F⟩ := F
    refine J_get (ci := 2) (k := 1) dX3_pageToChange_26 rfl in_X3_pageToChange_2 (by decide) lk_X3_pageToChange_151 g9 ?_
    refine J_iload_n dX3_pageToChange_29 2 rfl ?_
    refine J_aload_nq dX3_pageToChange_30 0 rfl ?_
    obtain ⟨z9, F⟩ := F
    obtain ⟨h_13, g9, F⟩ := F
    refine J_aastq (t := 4) (ci := 1) dX3_pageToChange_31 rfl rfl z9 g9 ?_
    refine J_aload_n dX3_pageToChange_32 1 rfl ?_
    refine J_dup dX3_pageToChange_33 (rfl) ?_
    obtain ⟨v_14, g9, F⟩ := F
    refine J_get (ci := 3) (k := 5) dX3_pageToChange_34 rfl in_X3_pageToChange_3 (by decide) lk_X3_pageToChange_32 g9 ?_
    refine J_iconst (v := nI 1) dX3_pageToChange_37 (by decide) ?_
    refine J_iadd dX3_pageToChange_38 ?_
    obtain ⟨h_15, g9, F⟩ := F
    refine J_put (ci := 3) (k := 5) dX3_pageToChange_39 rfl in_X3_pageToChange_3 tyX3 tyX3_ok nmX3 (by decide) lk_X3_pageToChange_32 rfl rfl rfl rfl g9 ?_
    refine J_aload_nq dX3_pageToChange_42 0 rfl ?_
    obtain ⟨k9, F⟩ := F
    exact J_aret (x := o_10) dX3_pageToChange_43 rfl (Or.inl ⟨_, rfl⟩) k9.1 k9.2 F

abbrev mX3_keep (l : Launch) (K : Kx) (mc ms : Nat) (As : List Value) (h : Hp) (Post : Rs → Hp → Prop) : Prop := MX l K yX3_keep wsX3_keep 4 123 mc ms As h Post
set_option maxRecDepth 100000 in
set_option maxHeartbeats 4000000 in
theorem fX3_keep {l : Launch} {K : Kx} {mc ms : Nat} {a0 : Nat} {x1 : Nat} {h : Hp} {Post : Rs → Hp → Prop} (htr : l.stackTraces = false)
    (F : (∃ v_1, gf h x1 0 0 = some (.int v_1) ∧ (∃ u_2, gf h x1 0 1 = some (.long u_2) ∧ (∃ v_3, gf h x1 0 2 = some (.int v_3) ∧ (0 + 0 ≤ mc ∧ 0 + 0 ≤ ms ∧ mX3_pageNumber l K [.int v_1, .long u_2, .int v_3] h (kI (fun v_5 h_4 => ((∃ fs, h_4 a0 = some (xO 3 fs)) ∧ (∃ c_7 w_8, (0 + 0) + c_7 ≤ mc ∧ (0 + 0) + w_8 ≤ ms ∧ mX3_pageToChange l K c_7 w_8 [.ref a0, .int v_5] h_4 (kQ (fun o_9 h_6 => (∃ a_10, o_9 = some a_10 ∧ ((∃ fs, h_6 a_10 = some (xO 1 fs)) ∧ (∃ c_12 w_13, ((0 + 0) + c_7) + c_12 ≤ mc ∧ ((0 + 0) + w_8) + w_13 ≤ ms ∧ mX1_keepEntry l K c_12 w_13 [.ref a_10, .ref x1] h_6 (kV (fun h_11 => (((((0 + 0) + c_7) + c_12) ≤ mc ∧ (((0 + 0) + w_8) + w_13) ≤ ms) ∧ Post (.inl none) h_11))))))))))))))))) :
    mX3_keep l K mc ms [.ref a0, .ref x1] h Post := by
  refine MX.enter htr (by decide) rfl (Nat.le_of_ble_eq_true rfl) ?_
  refine J_lveq (lv' := [(0, .ref a0), (1, .ref x1)]) rfl ?_
  refine J_aload_n dX3_keep_0 0 rfl ?_
  refine J_aload_n dX3_keep_1 1 rfl ?_
  obtain ⟨v_1, g9, F⟩ := F
  refine J_get (ci := 0) (k := 0) dX3_keep_2 rfl in_X3_keep_0 (by decide) lk_X3_keep_257 g9 ?_
  refine J_aload_n dX3_keep_5 1 rfl ?_
  obtain ⟨u_2, g9, F⟩ := F
  refine J_get (ci := 0) (k := 1) dX3_keep_6 rfl in_X3_keep_0 (by decide) lk_X3_keep_260 g9 ?_
  refine J_aload_n dX3_keep_9 1 rfl ?_
  obtain ⟨v_3, g9, F⟩ := F
  refine J_get (ci := 0) (k := 2) dX3_keep_10 rfl in_X3_keep_0 (by decide) lk_X3_keep_263 g9 ?_
  obtain ⟨k9, w9, F⟩ := F
  refine J_callS0 (n := 3) (As := [.int v_1, .long u_2, .int v_3]) (rest := [.ref a0]) dX3_keep_13 gX3_keep_X3_pageNumber rfl (by decide +kernel) rfl (by decide) (Nat.le_of_ble_eq_true rfl) k9 w9 F kI_no (kI_kk (fun v_5 h_4 F => ?_))
  obtain ⟨b9, F⟩ := F
  obtain ⟨c_7, w_8, k9, w9, F⟩ := F
  refine J_callV0 (ci := 3) (n := 1) (As := [.int v_5]) (rest := []) dX3_keep_16 rfl gX3_keep_X3_pageToChange rfl (by decide +kernel) rfl (by decide) b9 (Nat.le_of_ble_eq_true rfl) k9 w9 F kQ_no (kQ_kk (fun o_9 h_6 F => ?_))
  refine J_aload_n dX3_keep_19 1 rfl ?_
  obtain ⟨a_10, hq9, F⟩ := F
  rw [hq9]
  obtain ⟨b9, F⟩ := F
  obtain ⟨c_12, w_13, k9, w9, F⟩ := F
  refine J_callV0 (ci := 1) (n := 1) (As := [.ref x1]) (rest := []) dX3_keep_20 rfl gX3_keep_X1_keepEntry rfl (by decide +kernel) rfl (by decide) b9 (Nat.le_of_ble_eq_true rfl) k9 w9 F kV_no (kV_kk (fun h_11 F => ?_))
  obtain ⟨k9, F⟩ := F
  exact J_vret dX3_keep_23 rfl k9.1 k9.2 F

abbrev mX3_needKey (l : Launch) (K : Kx) (mc ms : Nat) (As : List Value) (h : Hp) (Post : Rs → Hp → Prop) : Prop := MX l K yX3_needKey wsX3_needKey 6 90 mc ms As h Post
set_option maxRecDepth 100000 in
set_option maxHeartbeats 4000000 in
theorem fX3_needKey {l : Launch} {K : Kx} {mc ms : Nat} {a0 : Nat} {h : Hp} {Post : Rs → Hp → Prop} (htr : l.stackTraces = false)
    (F : (∃ v_1, gf h a0 3 6 = some (.int v_1) ∧ ((¬ v_1 = nI 0 → ((0 ≤ mc ∧ 0 ≤ ms) ∧ Post (.inl none) h)) ∧ (v_1 = nI 0 → (0 + 1 ≤ mc ∧ 0 + 6 ≤ ms ∧ Post (.inr "java/lang/IllegalStateException") h))))) :
    mX3_needKey l K mc ms [.ref a0] h Post := by
  refine MX.enter htr (by decide) rfl (Nat.le_of_ble_eq_true rfl) ?_
  refine J_lveq (lv' := [(0, .ref a0)]) rfl ?_
  refine J_aload_n dX3_needKey_0 0 rfl ?_
  obtain ⟨v_1, g9, F⟩ := F
  refine J_get (ci := 3) (k := 6) dX3_needKey_1 rfl in_X3_needKey_3 (by decide) lk_X3_needKey_35 g9 ?_
  refine J_if_ne (tgt := 17) dX3_needKey_4 (by decide) (fun c => ?_) (fun c => ?_)
  · replace F := F.1 c
    obtain ⟨k9, F⟩ := F
    exact J_vret dX3_needKey_17 rfl k9.1 k9.2 F
  · replace F := F.2 c
    exact J_throw (text := "no key is at hand") (names := ["java/lang/RuntimeException", "java/lang/Exception"]) dX3_needKey_7 dX3_needKey_10 dX3_needKey_11 dX3_needKey_13 dX3_needKey_16 (by decide) (by decide) wd_X3_needKey_k241 wd_X3_needKey_i_IllegalStateException (by decide +kernel) at_X3_needKey_245 atn_245 (by decide +kernel) gd_241_245 (by decide) (Nat.le_of_ble_eq_true rfl) F.1 F.2.1 F.2.2

abbrev mX3_needState (l : Launch) (K : Kx) (mc ms : Nat) (As : List Value) (h : Hp) (Post : Rs → Hp → Prop) : Prop := MX l K yX3_needState wsX3_needState 6 90 mc ms As h Post
set_option maxRecDepth 100000 in
set_option maxHeartbeats 4000000 in
theorem fX3_needState {l : Launch} {K : Kx} {mc ms : Nat} {a0 : Nat} {x1 : Int32} {h : Hp} {Post : Rs → Hp → Prop} (htr : l.stackTraces = false)
    (F : ((x1 < nI 0 → (0 + 1 ≤ mc ∧ 0 + 6 ≤ ms ∧ Post (.inr "java/lang/IndexOutOfBoundsException") h)) ∧ (¬ x1 < nI 0 → (∃ p_1, gf h a0 3 1 = some (.ref p_1) ∧ (∃ v_2, gf h p_1 2 4 = some (.int v_2) ∧ ((x1 < v_2 → ((0 ≤ mc ∧ 0 ≤ ms) ∧ Post (.inl none) h)) ∧ (¬ x1 < v_2 → (0 + 1 ≤ mc ∧ 0 + 6 ≤ ms ∧ Post (.inr "java/lang/IndexOutOfBoundsException") h)))))))) :
    mX3_needState l K mc ms [.ref a0, .int x1] h Post := by
  refine MX.enter htr (by decide) rfl (Nat.le_of_ble_eq_true rfl) ?_
  refine J_lveq (lv' := [(0, .ref a0), (1, .int x1)]) rfl ?_
  refine J_iload_n dX3_needState_0 1 rfl ?_
  refine J_if_lt (tgt := 15) dX3_needState_1 (by decide) (fun c => ?_) (fun c => ?_)
  · replace F := F.1 c
    exact J_throw (text := "no such state") (names := ["java/lang/RuntimeException", "java/lang/Exception"]) dX3_needState_15 dX3_needState_18 dX3_needState_19 dX3_needState_21 dX3_needState_24 (by decide) (by decide) wd_X3_needState_k172 wd_X3_needState_i_IndexOutOfBoundsException (by decide +kernel) at_X3_needState_176 atn_176 (by decide +kernel) gd_172_176 (by decide) (Nat.le_of_ble_eq_true rfl) F.1 F.2.1 F.2.2
  · replace F := F.2 c
    refine J_iload_n dX3_needState_4 1 rfl ?_
    refine J_aload_n dX3_needState_5 0 rfl ?_
    obtain ⟨p_1, g9, F⟩ := F
    refine J_get (ci := 3) (k := 1) dX3_needState_6 rfl in_X3_needState_3 (by decide) lk_X3_needState_16 g9 ?_
    obtain ⟨v_2, g9, F⟩ := F
    refine J_get (ci := 2) (k := 4) dX3_needState_9 rfl in_X3_needState_2 (by decide) lk_X3_needState_50 g9 ?_
    refine J_icmp_lt (tgt := 25) dX3_needState_12 (by decide) (fun c => ?_) (fun c => ?_)
    · replace F := F.1 c
      obtain ⟨k9, F⟩ := F
      exact J_vret dX3_needState_25 rfl k9.1 k9.2 F
    · replace F := F.2 c
      exact J_throw (text := "no such state") (names := ["java/lang/RuntimeException", "java/lang/Exception"]) dX3_needState_15 dX3_needState_18 dX3_needState_19 dX3_needState_21 dX3_needState_24 (by decide) (by decide) wd_X3_needState_k172 wd_X3_needState_i_IndexOutOfBoundsException (by decide +kernel) at_X3_needState_176 atn_176 (by decide +kernel) gd_172_176 (by decide) (Nat.le_of_ble_eq_true rfl) F.1 F.2.1 F.2.2

abbrev mX3_needToWrite (l : Launch) (K : Kx) (mc ms : Nat) (As : List Value) (h : Hp) (Post : Rs → Hp → Prop) : Prop := MX l K yX3_needToWrite wsX3_needToWrite 7 111 mc ms As h Post
set_option maxRecDepth 100000 in
set_option maxHeartbeats 4000000 in
theorem fX3_needToWrite {l : Launch} {K : Kx} {mc ms : Nat} {a0 : Nat} {x1 : Int32} {x2 : Int32} {x3 : Int64} {h : Hp} {Post : Rs → Hp → Prop} (htr : l.stackTraces = false)
    (F : ((∃ fs, h a0 = some (xO 3 fs)) ∧ (∃ c_2 w_3, 0 + c_2 ≤ mc ∧ 0 + w_3 ≤ ms ∧ mX3_needState l K c_2 w_3 [.ref a0, .int x1] h (kVX (fun h_1 => (∃ p_4, gf h_1 a0 3 1 = some (.ref p_4) ∧ (∃ p_5, gf h_1 p_4 2 2 = some (.ref p_5) ∧ (∃ v_6, aI K h_1 p_5 x1 = some v_6 ∧ ((v_6 = x2 → (∃ p_7, gf h_1 a0 3 1 = some (.ref p_7) ∧ (∃ p_8, gf h_1 p_7 2 3 = some (.ref p_8) ∧ (∃ v_9, aI K h_1 p_8 x1 = some v_9 ∧ ((0 + c_2) + 0 ≤ mc ∧ (0 + w_3) + 0 ≤ ms ∧ mX3_fits l K [.int x2, .int v_9, .long x3] h_1 (kI (fun v_11 h_10 => ((¬ v_11 = nI 0 → ((∃ fs, h_10 a0 = some (xO 3 fs)) ∧ (∃ c_13 w_14, ((0 + c_2) + 0) + c_13 ≤ mc ∧ ((0 + w_3) + 0) + w_14 ≤ ms ∧ mX3_needKey l K c_13 w_14 [.ref a0] h_10 (kVX (fun h_12 => (((((0 + c_2) + 0) + c_13) ≤ mc ∧ (((0 + w_3) + 0) + w_14) ≤ ms) ∧ Post (.inl none) h_12)) (fun E9 h9 => Post (.inr E9) h9))))) ∧ (v_11 = nI 0 → (((0 + c_2) + 0) + 1 ≤ mc ∧ ((0 + w_3) + 0) + 6 ≤ ms ∧ Post (.inr "java/lang/IllegalArgumentException") h_10)))))))))) ∧ (¬ v_6 = x2 → ((0 + c_2) + 1 ≤ mc ∧ (0 + w_3) + 6 ≤ ms ∧ Post (.inr "java/lang/IllegalArgumentException") h_1))))))) (fun E9 h9 => Post (.inr E9) h9))))) :
    mX3_needToWrite l K mc ms [.ref a0, .int x1, .int x2, .long x3] h Post := by
  refine MX.enter htr (by decide) rfl (Nat.le_of_ble_eq_true rfl) ?_
  refine J_lveq (lv' := [(0, .ref a0), (1, .int x1), (2, .int x2), (3, .long x3)]) rfl ?_
  refine J_aload_n dX3_needToWrite_0 0 rfl ?_
  refine J_iload_n dX3_needToWrite_1 1 rfl ?_
  obtain ⟨b9, F⟩ := F
  obtain ⟨c_2, w_3, k9, w9, F⟩ := F
  refine J_callV (ci := 3) (n := 1) (As := [.int x1]) (rest := []) dX3_needToWrite_2 rfl gX3_needToWrite_X3_needState rfl (by decide +kernel) rfl (by decide) b9 (Nat.le_of_ble_eq_true rfl) k9 w9 F (kVX_kk (fun h_1 F => ?_)) (fun _ _ q9 => kVX_x q9)
  refine J_aload_n dX3_needToWrite_5 0 rfl ?_
  obtain ⟨p_4, g9, F⟩ := F
  refine J_get (ci := 3) (k := 1) dX3_needToWrite_6 rfl in_X3_needToWrite_3 (by decide) lk_X3_needToWrite_16 g9 ?_
  obtain ⟨p_5, g9, F⟩ := F
  refine J_get (ci := 2) (k := 2) dX3_needToWrite_9 rfl in_X3_needToWrite_2 (by decide) lk_X3_needToWrite_53 g9 ?_
  refine J_iload_n dX3_needToWrite_12 1 rfl ?_
  obtain ⟨v_6, g9, F⟩ := F
  refine J_iald dX3_needToWrite_13 g9 ?_
  refine J_iload_n dX3_needToWrite_14 2 rfl ?_
  refine J_icmp_eq (tgt := 28) dX3_needToWrite_15 (by decide) (fun c => ?_) (fun c => ?_)
  · replace F := F.1 c
    refine J_iload_n dX3_needToWrite_28 2 rfl ?_
    refine J_aload_n dX3_needToWrite_29 0 rfl ?_
    obtain ⟨p_7, g9, F⟩ := F
    refine J_get (ci := 3) (k := 1) dX3_needToWrite_30 rfl in_X3_needToWrite_3 (by decide) lk_X3_needToWrite_16 g9 ?_
    obtain ⟨p_8, g9, F⟩ := F
    refine J_get (ci := 2) (k := 3) dX3_needToWrite_33 rfl in_X3_needToWrite_2 (by decide) lk_X3_needToWrite_56 g9 ?_
    refine J_iload_n dX3_needToWrite_36 1 rfl ?_
    obtain ⟨v_9, g9, F⟩ := F
    refine J_iald dX3_needToWrite_37 g9 ?_
    refine J_lload_n dX3_needToWrite_38 3 rfl ?_
    obtain ⟨k9, w9, F⟩ := F
    refine J_callS0 (n := 3) (As := [.int x2, .int v_9, .long x3]) (rest := []) dX3_needToWrite_39 gX3_needToWrite_X3_fits rfl (by decide +kernel) rfl (by decide) (Nat.le_of_ble_eq_true rfl) k9 w9 F kI_no (kI_kk (fun v_11 h_10 F => ?_))
    refine J_if_ne (tgt := 55) dX3_needToWrite_42 (by decide) (fun c => ?_) (fun c => ?_)
    · replace F := F.1 c
      refine J_aload_n dX3_needToWrite_55 0 rfl ?_
      obtain ⟨b9, F⟩ := F
      obtain ⟨c_13, w_14, k9, w9, F⟩ := F
      refine J_callV (ci := 3) (n := 0) (As := []) (rest := []) dX3_needToWrite_56 rfl gX3_needToWrite_X3_needKey rfl (by decide +kernel) rfl (by decide) b9 (Nat.le_of_ble_eq_true rfl) k9 w9 F (kVX_kk (fun h_12 F => ?_)) (fun _ _ q9 => kVX_x q9)
      obtain ⟨k9, F⟩ := F
      exact J_vret dX3_needToWrite_59 rfl k9.1 k9.2 F
    · replace F := F.2 c
      exact J_throw (text := "the number does not fit") (names := ["java/lang/RuntimeException", "java/lang/Exception"]) dX3_needToWrite_45 dX3_needToWrite_48 dX3_needToWrite_49 dX3_needToWrite_51 dX3_needToWrite_54 (by decide) (by decide) wd_X3_needToWrite_k246 wd_X3_needToWrite_i_IllegalArgumentException (by decide +kernel) at_X3_needToWrite_250 atn_250 (by decide +kernel) gd_246_250 (by decide) (Nat.le_of_ble_eq_true rfl) F.1 F.2.1 F.2.2
  · replace F := F.2 c
    exact J_throw (text := "the state has another kind") (names := ["java/lang/RuntimeException", "java/lang/Exception"]) dX3_needToWrite_18 dX3_needToWrite_21 dX3_needToWrite_22 dX3_needToWrite_24 dX3_needToWrite_27 (by decide) (by decide) wd_X3_needToWrite_k246 wd_X3_needToWrite_i_IllegalArgumentException (by decide +kernel) at_X3_needToWrite_250 atn_250 (by decide +kernel) gd_246_250 (by decide) (Nat.le_of_ble_eq_true rfl) F.1 F.2.1 F.2.2

abbrev mX3_add (l : Launch) (K : Kx) (mc ms : Nat) (As : List Value) (h : Hp) (Post : Rs → Hp → Prop) : Prop := MX l K yX3_add wsX3_add 8 144 mc ms As h Post
set_option maxRecDepth 100000 in
set_option maxHeartbeats 4000000 in
theorem fX3_add {l : Launch} {K : Kx} {mc ms : Nat} {a0 : Nat} {x1 : Int32} {x2 : Int64} {h : Hp} {Post : Rs → Hp → Prop} (htr : l.stackTraces = false)
    (F : ((∃ fs, h a0 = some (xO 3 fs)) ∧ (∃ c_2 w_3, 0 + c_2 ≤ mc ∧ 0 + w_3 ≤ ms ∧ mX3_needToWrite l K c_2 w_3 [.ref a0, .int x1, .int (nI 1), .long x2] h (kVX (fun h_1 => ((∃ fs, h_1 a0 = some (xO 3 fs)) ∧ (∃ c_5 w_6, (0 + c_2) + c_5 ≤ mc ∧ (0 + w_3) + w_6 ≤ ms ∧ mX3_entryAtHand l K c_5 w_6 [.ref a0, .int x1] h_1 (kQ (fun o_7 h_4 => (∃ a_8, o_7 = some a_8 ∧ (∃ p_9, gf h_4 a_8 0 3 = some (.ref p_9) ∧ (∃ n_10, alen K 1 h_4 p_9 = some n_10 ∧ (((nI 10) ≤ n_10 → ((((0 + c_2) + c_5) ≤ mc ∧ ((0 + w_3) + w_6) ≤ ms) ∧ Post (.inl (some (.int (-nI 4)))) h_4)) ∧ (¬ (nI 10) ≤ n_10 → ((∃ fs, h_4 a0 = some (xO 3 fs)) ∧ (((0 + c_2) + c_5) + 0 ≤ mc ∧ ((0 + w_3) + w_6) + 0 ≤ ms ∧ mX3_hasNoRoomFor l K [.ref a0, .ref a_8] h_4 (kI (fun v_12 h_11 => ((v_12 = nI 0 → ((∃ fs, h_11 a_8 = some (xO 0 fs)) ∧ (∃ c_14 w_15, (((0 + c_2) + c_5) + 0) + c_14 ≤ mc ∧ (((0 + w_3) + w_6) + 0) + w_15 ≤ ms ∧ mX0_withOneMore l K c_14 w_15 [.ref a_8, .long x2] h_11 (kQ (fun o_16 h_13 => ((∃ fs, h_13 a0 = some (xO 3 fs)) ∧ (∃ c_18 w_19, ((((0 + c_2) + c_5) + 0) + c_14) + c_18 ≤ mc ∧ ((((0 + w_3) + w_6) + 0) + w_15) + w_19 ≤ ms ∧ mX3_keep l K c_18 w_19 [.ref a0, va_rf o_16] h_13 (kV (fun h_17 => (∃ p_20, gf h_17 a_8 0 3 = some (.ref p_20) ∧ (∃ n_21, alen K 1 h_17 p_20 = some n_21 ∧ (((((((0 + c_2) + c_5) + 0) + c_14) + c_18) ≤ mc ∧ (((((0 + w_3) + w_6) + 0) + w_15) + w_19) ≤ ms) ∧ Post (.inl (some (.int (n_21 + (nI 1))))) h_17)))))))))))) ∧ (¬ v_12 = nI 0 → (((((0 + c_2) + c_5) + 0) ≤ mc ∧ (((0 + w_3) + w_6) + 0) ≤ ms) ∧ Post (.inl (some (.int (-nI 4)))) h_11))))))))))))))))) (fun E9 h9 => Post (.inr E9) h9))))) :
    mX3_add l K mc ms [.ref a0, .int x1, .long x2] h Post := by
  refine MX.enter htr (by decide) rfl (Nat.le_of_ble_eq_true rfl) ?_
  refine J_lveq (lv' := [(0, .ref a0), (1, .int x1), (2, .long x2)]) rfl ?_
  refine J_aload_n dX3_add_0 0 rfl ?_
  refine J_iload_n dX3_add_1 1 rfl ?_
  refine J_iconst (v := nI 1) dX3_add_2 (by decide) ?_
  refine J_lload_n dX3_add_3 2 rfl ?_
  obtain ⟨b9, F⟩ := F
  obtain ⟨c_2, w_3, k9, w9, F⟩ := F
  refine J_callV (ci := 3) (n := 3) (As := [.int x1, .int (nI 1), .long x2]) (rest := []) dX3_add_4 rfl gX3_add_X3_needToWrite rfl (by decide +kernel) rfl (by decide) b9 (Nat.le_of_ble_eq_true rfl) k9 w9 F (kVX_kk (fun h_1 F => ?_)) (fun _ _ q9 => kVX_x q9)
  refine J_aload_n dX3_add_7 0 rfl ?_
  refine J_iload_n dX3_add_8 1 rfl ?_
  obtain ⟨b9, F⟩ := F
  obtain ⟨c_5, w_6, k9, w9, F⟩ := F
  refine J_callV0 (ci := 3) (n := 1) (As := [.int x1]) (rest := []) dX3_add_9 rfl gX3_add_X3_entryAtHand rfl (by decide +kernel) rfl (by decide) b9 (Nat.le_of_ble_eq_true rfl) k9 w9 F kQ_no (kQ_kk (fun o_7 h_4 F => ?_))
  refine J_astoreq (lv' := [(4, va_rf o_7), (0, .ref a0), (1, .int x1), (2, .long x2)]) dX3_add_12 (by decide) rfl ?_
  refine J_aloadq dX3_add_14 0 rfl ?_
  obtain ⟨a_8, hq9, F⟩ := F
  rw [hq9]
  obtain ⟨p_9, g9, F⟩ := F
  refine J_get (ci := 0) (k := 3) dX3_add_16 rfl in_X3_add_0 (by decide) lk_X3_add_100 g9 ?_
  obtain ⟨n_10, g9, F⟩ := F
  refine J_alen (t := 1) dX3_add_19 rfl g9 ?_
  refine J_bipush (v := nI 10) dX3_add_20 (by decide) ?_
  refine J_icmp_ge (tgt := 34) dX3_add_22 (by decide) (fun c => ?_) (fun c => ?_)
  · replace F := F.1 c
    refine J_bipush (v := -nI 4) dX3_add_34 (by decide) ?_
    obtain ⟨k9, F⟩ := F
    exact J_iret dX3_add_36 rfl k9.1 k9.2 F
  · replace F := F.2 c
    refine J_aload_n dX3_add_25 1 rfl ?_
    refine J_aload dX3_add_26 0 rfl ?_
    obtain ⟨b9, F⟩ := F
    obtain ⟨k9, w9, F⟩ := F
    refine J_callV0 (ci := 3) (n := 1) (As := [.ref a_8]) (rest := []) dX3_add_28 rfl gX3_add_X3_hasNoRoomFor rfl (by decide +kernel) rfl (by decide) b9 (Nat.le_of_ble_eq_true rfl) k9 w9 F kI_no (kI_kk (fun v_12 h_11 F => ?_))
    refine J_if_eq (tgt := 37) dX3_add_31 (by decide) (fun c => ?_) (fun c => ?_)
    · replace F := F.1 c
      refine J_aload_n dX3_add_37 1 rfl ?_
      refine J_aload dX3_add_38 0 rfl ?_
      refine J_lload_n dX3_add_40 3 rfl ?_
      obtain ⟨b9, F⟩ := F
      obtain ⟨c_14, w_15, k9, w9, F⟩ := F
      refine J_callV0 (ci := 0) (n := 1) (As := [.long x2]) (rest := [.ref a0]) dX3_add_41 rfl gX3_add_X0_withOneMore rfl (by decide +kernel) rfl (by decide) b9 (Nat.le_of_ble_eq_true rfl) k9 w9 F kQ_no (kQ_kk (fun o_16 h_13 F => ?_))
      obtain ⟨b9, F⟩ := F
      obtain ⟨c_18, w_19, k9, w9, F⟩ := F
      refine J_callV0 (ci := 3) (n := 1) (As := [va_rf o_16]) (rest := []) dX3_add_44 rfl gX3_add_X3_keep rfl (by decide +kernel) rfl (by decide) b9 (Nat.le_of_ble_eq_true rfl) k9 w9 F kV_no (kV_kk (fun h_17 F => ?_))
      refine J_aload dX3_add_47 0 rfl ?_
      obtain ⟨p_20, g9, F⟩ := F
      refine J_get (ci := 0) (k := 3) dX3_add_49 rfl in_X3_add_0 (by decide) lk_X3_add_100 g9 ?_
      obtain ⟨n_21, g9, F⟩ := F
      refine J_alen (t := 1) dX3_add_52 rfl g9 ?_
      refine J_iconst (v := nI 1) dX3_add_53 (by decide) ?_
      refine J_iadd dX3_add_54 ?_
      obtain ⟨k9, F⟩ := F
      exact J_iret dX3_add_55 rfl k9.1 k9.2 F
    · replace F := F.2 c
      refine J_bipush (v := -nI 4) dX3_add_34 (by decide) ?_
      obtain ⟨k9, F⟩ := F
      exact J_iret dX3_add_36 rfl k9.1 k9.2 F

abbrev mX3_slotOf (l : Launch) (K : Kx) (As : List Value) (h : Hp) (Post : Rs → Hp → Prop) : Prop := MX l K yX3_slotOf wsX3_slotOf 0 0 0 0 As h Post
set_option maxRecDepth 100000 in
set_option maxHeartbeats 4000000 in
theorem fX3_slotOf {l : Launch} {K : Kx} {a0 : Nat} {x1 : Int32} {h : Hp} {Post : Rs → Hp → Prop} (htr : l.stackTraces = false)
    (F : (∀ X_2 : Int32 → Prop, (∀ (i_1 : Int32), ((((nI 6) ≤ i_1 → (Post (.inl (some (.int (-nI 1)))) h)) ∧ (¬ (nI 6) ≤ i_1 → (∃ p_3, gf h a0 3 2 = some (.ref p_3) ∧ (∃ o_4, aQ K 5 h p_3 i_1 = some o_4 ∧ ((o_4 = none → X_2 (i_1 + nI 1)) ∧ (∀ a_5, o_4 = some a_5 → (∃ v_6, gf h a_5 2 0 = some (.int v_6) ∧ ((¬ v_6 = x1 → X_2 (i_1 + nI 1)) ∧ (v_6 = x1 → (Post (.inl (some (.int i_1))) h))))))))))) → X_2 i_1) → X_2 (nI 0))) :
    mX3_slotOf l K [.ref a0, .int x1] h Post := by
  refine MX.enter htr (by decide) rfl (Nat.le_of_ble_eq_true rfl) ?_
  refine J_lveq (lv' := [(0, .ref a0), (1, .int x1)]) rfl ?_
  refine J_iconst (v := nI 0) dX3_slotOf_0 (by decide) ?_
  refine J_istore_n (lv' := [(2, .int (nI 0)), (0, .ref a0), (1, .int x1)]) dX3_slotOf_1 rfl (by decide) rfl ?_
  refine J_sub [1, 2, 0] rfl ?_
  refine F (fun (i_1 : Int32) => J l K yX3_slotOf.cls cX3_slotOf 4 (some .int) wsX3_slotOf [] yX3_slotOf.name 0 0 0 0 (QM K 0 0 Post) 2 [] [(0, .ref a0), (1, .int x1), (2, .int i_1)] h 0 0) ?_
  intro i_1 F
  refine J_iload_n dX3_slotOf_2 2 rfl ?_
  refine J_bipush (v := nI 6) dX3_slotOf_3 (by decide) ?_
  refine J_icmp_ge (tgt := 35) dX3_slotOf_5 (by decide) (fun c => ?_) (fun c => ?_)
  · replace F := F.1 c
    refine J_iconst (v := -nI 1) dX3_slotOf_35 (by decide) ?_
    exact J_iret dX3_slotOf_36 rfl (Nat.le_refl _) (Nat.le_refl _) F
  · replace F := F.2 c
    refine J_aload_n dX3_slotOf_8 0 rfl ?_
    obtain ⟨p_3, g9, F⟩ := F
    refine J_get (ci := 3) (k := 2) dX3_slotOf_9 rfl in_X3_slotOf_3 (by decide) lk_X3_slotOf_20 g9 ?_
    refine J_iload_n dX3_slotOf_12 2 rfl ?_
    obtain ⟨o_4, g9, F⟩ := F
    refine J_aald (t := 5) dX3_slotOf_13 rfl g9 ?_
    refine J_astore_nq (lv' := [(3, va_rf o_4), (0, .ref a0), (1, .int x1), (2, .int i_1)]) dX3_slotOf_14 rfl (by decide) rfl ?_
    refine J_aload_nq dX3_slotOf_15 0 rfl ?_
    refine J_ifnull (tgt := 29) dX3_slotOf_16 (by decide) ?_ ?_
    · intro c
      replace F := F.1 c
      try rw [c]
      refine J_iinc (v := i_1 + nI 1) (lv' := [(2, .int (i_1 + nI 1)), (3, va_rf none), (0, .ref a0), (1, .int x1)]) dX3_slotOf_29 3 rfl rfl (by decide) rfl ?_
      refine J_goto (tgt := 2) dX3_slotOf_32 (by decide) ?_
      exact J_sub [2, 3, 0] rfl F
    · intro a_5 c
      replace F := F.2 a_5 c
      try rw [c]
      refine J_aload_n dX3_slotOf_19 0 rfl ?_
      obtain ⟨v_6, g9, F⟩ := F
      refine J_get (ci := 2) (k := 0) dX3_slotOf_20 rfl in_X3_slotOf_2 (by decide) lk_X3_slotOf_181 g9 ?_
      refine J_iload_n dX3_slotOf_23 2 rfl ?_
      refine J_icmp_ne (tgt := 29) dX3_slotOf_24 (by decide) (fun c => ?_) (fun c => ?_)
      · replace F := F.1 c
        refine J_iinc (v := i_1 + nI 1) (lv' := [(2, .int (i_1 + nI 1)), (3, .ref a_5), (0, .ref a0), (1, .int x1)]) dX3_slotOf_29 3 rfl rfl (by decide) rfl ?_
        refine J_goto (tgt := 2) dX3_slotOf_32 (by decide) ?_
        exact J_sub [2, 3, 0] rfl F
      · replace F := F.2 c
        refine J_iload_n dX3_slotOf_27 3 rfl ?_
        exact J_iret dX3_slotOf_28 rfl (Nat.le_refl _) (Nat.le_refl _) F

abbrev mX3_snapshotIn (l : Launch) (K : Kx) (mc ms : Nat) (As : List Value) (h : Hp) (Post : Rs → Hp → Prop) : Prop := MX l K yX3_snapshotIn wsX3_snapshotIn 6 90 mc ms As h Post
set_option maxRecDepth 100000 in
set_option maxHeartbeats 4000000 in
theorem fX3_snapshotIn {l : Launch} {K : Kx} {mc ms : Nat} {a0 : Nat} {x1 : Int32} {h : Hp} {Post : Rs → Hp → Prop} (htr : l.stackTraces = false)
    (F : ((x1 < nI 0 → (0 + 1 ≤ mc ∧ 0 + 6 ≤ ms ∧ Post (.inr "java/lang/IndexOutOfBoundsException") h)) ∧ (¬ x1 < nI 0 → ((x1 < (nI 6) → (∃ p_1, gf h a0 3 2 = some (.ref p_1) ∧ (∃ o_2, aQ K 5 h p_1 x1 = some o_2 ∧ ((o_2 = none → (0 + 1 ≤ mc ∧ 0 + 6 ≤ ms ∧ Post (.inr "java/lang/IndexOutOfBoundsException") h)) ∧ (∀ a_3, o_2 = some a_3 → ((0 ≤ mc ∧ 0 ≤ ms) ∧ Post (.inl (some (.ref a_3))) h)))))) ∧ (¬ x1 < (nI 6) → (0 + 1 ≤ mc ∧ 0 + 6 ≤ ms ∧ Post (.inr "java/lang/IndexOutOfBoundsException") h)))))) :
    mX3_snapshotIn l K mc ms [.ref a0, .int x1] h Post := by
  refine MX.enter htr (by decide) rfl (Nat.le_of_ble_eq_true rfl) ?_
  refine J_lveq (lv' := [(0, .ref a0), (1, .int x1)]) rfl ?_
  refine J_iload_n dX3_snapshotIn_0 1 rfl ?_
  refine J_if_lt (tgt := 10) dX3_snapshotIn_1 (by decide) (fun c => ?_) (fun c => ?_)
  · replace F := F.1 c
    refine J_null dX3_snapshotIn_10 ?_
    refine J_goto (tgt := 20) dX3_snapshotIn_11 (by decide) ?_
    refine J_astore_nq (lv' := [(2, va_rf none), (0, .ref a0), (1, .int x1)]) dX3_snapshotIn_20 rfl (by decide) rfl ?_
    refine J_aload_nq dX3_snapshotIn_21 0 rfl ?_
    refine J_ifnonnull (x := none) (tgt := 36) dX3_snapshotIn_22 (by decide) (fun _ e9 => by cases e9) (fun _ => ?_)
    exact J_throwW (text := "no such snapshot") (names := ["java/lang/RuntimeException", "java/lang/Exception"]) dX3_snapshotIn_25 dX3_snapshotIn_28 dX3_snapshotIn_29 dX3_snapshotIn_32 dX3_snapshotIn_35 (by decide) (by decide) wd_X3_snapshotIn_k172 wd_X3_snapshotIn_i_IndexOutOfBoundsException (by decide +kernel) at_X3_snapshotIn_176 atn_176 (by decide +kernel) gd_172_176 (by decide) (Nat.le_of_ble_eq_true rfl) F.1 F.2.1 F.2.2
  · replace F := F.2 c
    refine J_iload_n dX3_snapshotIn_4 1 rfl ?_
    refine J_bipush (v := nI 6) dX3_snapshotIn_5 (by decide) ?_
    refine J_icmp_lt (tgt := 14) dX3_snapshotIn_7 (by decide) (fun c => ?_) (fun c => ?_)
    · replace F := F.1 c
      refine J_aload_n dX3_snapshotIn_14 0 rfl ?_
      obtain ⟨p_1, g9, F⟩ := F
      refine J_get (ci := 3) (k := 2) dX3_snapshotIn_15 rfl in_X3_snapshotIn_3 (by decide) lk_X3_snapshotIn_20 g9 ?_
      refine J_iload_n dX3_snapshotIn_18 1 rfl ?_
      obtain ⟨o_2, g9, F⟩ := F
      refine J_aald (t := 5) dX3_snapshotIn_19 rfl g9 ?_
      refine J_astore_nq (lv' := [(2, va_rf o_2), (0, .ref a0), (1, .int x1)]) dX3_snapshotIn_20 rfl (by decide) rfl ?_
      refine J_aload_nq dX3_snapshotIn_21 0 rfl ?_
      refine J_ifnonnull (tgt := 36) dX3_snapshotIn_22 (by decide) ?_ ?_
      · intro a_3 c
        replace F := F.2 a_3 c
        try rw [c]
        refine J_aload_n dX3_snapshotIn_36 0 rfl ?_
        obtain ⟨k9, F⟩ := F
        exact J_aret (x := some a_3) dX3_snapshotIn_37 rfl (Or.inl ⟨_, rfl⟩) k9.1 k9.2 F
      · intro c
        replace F := F.1 c
        try rw [c]
        exact J_throwW (text := "no such snapshot") (names := ["java/lang/RuntimeException", "java/lang/Exception"]) dX3_snapshotIn_25 dX3_snapshotIn_28 dX3_snapshotIn_29 dX3_snapshotIn_32 dX3_snapshotIn_35 (by decide) (by decide) wd_X3_snapshotIn_k172 wd_X3_snapshotIn_i_IndexOutOfBoundsException (by decide +kernel) at_X3_snapshotIn_176 atn_176 (by decide +kernel) gd_172_176 (by decide) (Nat.le_of_ble_eq_true rfl) F.1 F.2.1 F.2.2
    · replace F := F.2 c
      refine J_null dX3_snapshotIn_10 ?_
      refine J_goto (tgt := 20) dX3_snapshotIn_11 (by decide) ?_
      refine J_astore_nq (lv' := [(2, va_rf none), (0, .ref a0), (1, .int x1)]) dX3_snapshotIn_20 rfl (by decide) rfl ?_
      refine J_aload_nq dX3_snapshotIn_21 0 rfl ?_
      refine J_ifnonnull (x := none) (tgt := 36) dX3_snapshotIn_22 (by decide) (fun _ e9 => by cases e9) (fun _ => ?_)
      exact J_throwW (text := "no such snapshot") (names := ["java/lang/RuntimeException", "java/lang/Exception"]) dX3_snapshotIn_25 dX3_snapshotIn_28 dX3_snapshotIn_29 dX3_snapshotIn_32 dX3_snapshotIn_35 (by decide) (by decide) wd_X3_snapshotIn_k172 wd_X3_snapshotIn_i_IndexOutOfBoundsException (by decide +kernel) at_X3_snapshotIn_176 atn_176 (by decide +kernel) gd_172_176 (by decide) (Nat.le_of_ble_eq_true rfl) F.1 F.2.1 F.2.2

abbrev mX3_pictureOf (l : Launch) (K : Kx) (mc ms : Nat) (As : List Value) (h : Hp) (Post : Rs → Hp → Prop) : Prop := MX l K yX3_pictureOf wsX3_pictureOf 7 112 mc ms As h Post
set_option maxRecDepth 100000 in
set_option maxHeartbeats 4000000 in
theorem fX3_pictureOf {l : Launch} {K : Kx} {mc ms : Nat} {a0 : Nat} {x1 : Int32} {h : Hp} {Post : Rs → Hp → Prop} (htr : l.stackTraces = false)
    (F : ((¬ x1 = (-nI 1) → ((∃ fs, h a0 = some (xO 3 fs)) ∧ (0 + 0 ≤ mc ∧ 0 + 0 ≤ ms ∧ mX3_slotOf l K [.ref a0, .int x1] h (kI (fun v_2 h_1 => ((∃ fs, h_1 a0 = some (xO 3 fs)) ∧ (∃ c_4 w_5, (0 + 0) + c_4 ≤ mc ∧ (0 + 0) + w_5 ≤ ms ∧ mX3_snapshotIn l K c_4 w_5 [.ref a0, .int v_2] h_1 (kQX (fun o_6 h_3 => ((((0 + 0) + c_4) ≤ mc ∧ ((0 + 0) + w_5) ≤ ms) ∧ Post (.inl (some (va_rf o_6))) h_3)) (fun E9 h9 => Post (.inr E9) h9))))))))) ∧ (x1 = (-nI 1) → (∃ p_7, gf h a0 3 1 = some (.ref p_7) ∧ ((0 ≤ mc ∧ 0 ≤ ms) ∧ Post (.inl (some (.ref p_7))) h))))) :
    mX3_pictureOf l K mc ms [.ref a0, .int x1] h Post := by
  refine MX.enter htr (by decide) rfl (Nat.le_of_ble_eq_true rfl) ?_
  refine J_lveq (lv' := [(0, .ref a0), (1, .int x1)]) rfl ?_
  refine J_iload_n dX3_pictureOf_0 1 rfl ?_
  refine J_iconst (v := -nI 1) dX3_pictureOf_1 (by decide) ?_
  refine J_icmp_ne (tgt := 12) dX3_pictureOf_2 (by decide) (fun c => ?_) (fun c => ?_)
  · replace F := F.1 c
    refine J_aload_n dX3_pictureOf_12 0 rfl ?_
    refine J_aload_n dX3_pictureOf_13 0 rfl ?_
    refine J_iload_n dX3_pictureOf_14 1 rfl ?_
    obtain ⟨b9, F⟩ := F
    obtain ⟨k9, w9, F⟩ := F
    refine J_callV0 (ci := 3) (n := 1) (As := [.int x1]) (rest := [.ref a0]) dX3_pictureOf_15 rfl gX3_pictureOf_X3_slotOf rfl (by decide +kernel) rfl (by decide) b9 (Nat.le_of_ble_eq_true rfl) k9 w9 F kI_no (kI_kk (fun v_2 h_1 F => ?_))
    obtain ⟨b9, F⟩ := F
    obtain ⟨c_4, w_5, k9, w9, F⟩ := F
    refine J_callV (ci := 3) (n := 1) (As := [.int v_2]) (rest := []) dX3_pictureOf_18 rfl gX3_pictureOf_X3_snapshotIn rfl (by decide +kernel) rfl (by decide) b9 (Nat.le_of_ble_eq_true rfl) k9 w9 F (kQX_kk (fun o_6 h_3 F => ?_)) (fun _ _ q9 => kQX_x q9)
    obtain ⟨k9, F⟩ := F
    exact J_aret (x := o_6) dX3_pictureOf_21 rfl (Or.inl ⟨_, rfl⟩) k9.1 k9.2 F
  · replace F := F.2 c
    refine J_aload_n dX3_pictureOf_5 0 rfl ?_
    obtain ⟨p_7, g9, F⟩ := F
    refine J_get (ci := 3) (k := 1) dX3_pictureOf_6 rfl in_X3_pictureOf_3 (by decide) lk_X3_pictureOf_16 g9 ?_
    refine J_goto (tgt := 21) dX3_pictureOf_9 (by decide) ?_
    obtain ⟨k9, F⟩ := F
    exact J_aret (x := some p_7) dX3_pictureOf_21 rfl (Or.inl ⟨_, rfl⟩) k9.1 k9.2 F

abbrev mX3_ask (l : Launch) (K : Kx) (mc ms : Nat) (As : List Value) (h : Hp) (Post : Rs → Hp → Prop) : Prop := MX l K yX3_ask wsX3_ask 8 133 mc ms As h Post
set_option maxRecDepth 100000 in
set_option maxHeartbeats 4000000 in
theorem fX3_ask {l : Launch} {K : Kx} {mc ms : Nat} {a0 : Nat} {x1 : Int32} {x2 : Int32} {x3 : Int64} {x4 : Int32} {x5 : Int32} {h : Hp} {Post : Rs → Hp → Prop} (htr : l.stackTraces = false)
    (F : ((∃ fs, h a0 = some (xO 3 fs)) ∧ (∃ c_2 w_3, 0 + c_2 ≤ mc ∧ 0 + w_3 ≤ ms ∧ mX3_pictureOf l K c_2 w_3 [.ref a0, .int x1] h (kQX (fun o_4 h_1 => ((∃ fs, h_1 a0 = some (xO 3 fs)) ∧ (∃ c_6 w_7, (0 + c_2) + c_6 ≤ mc ∧ (0 + w_3) + w_7 ≤ ms ∧ mX3_needState l K c_6 w_7 [.ref a0, .int x2] h_1 (kVX (fun h_5 => (∃ a_8, o_4 = some a_8 ∧ ((∃ fs, h_5 a_8 = some (xO 2 fs)) ∧ (∃ c_10 w_11, ((0 + c_2) + c_6) + c_10 ≤ mc ∧ ((0 + w_3) + w_7) + w_11 ≤ ms ∧ mX2_entryOf l K c_10 w_11 [.ref a_8, .int x2, .long x3, .int x4] h_5 (kQ (fun o_12 h_9 => (∃ a_13, o_12 = some a_13 ∧ (∃ p_14, gf h_9 a_13 0 3 = some (.ref p_14) ∧ ((x5 < nI 0 → ((((0 + c_2) + c_6) + c_10) + 1 ≤ mc ∧ (((0 + w_3) + w_7) + w_11) + 6 ≤ ms ∧ Post (.inr "java/util/NoSuchElementException") h_9)) ∧ (¬ x5 < nI 0 → (∃ n_15, alen K 1 h_9 p_14 = some n_15 ∧ ((x5 < n_15 → (∃ u_16, aJ K h_9 p_14 x5 = some u_16 ∧ (((((0 + c_2) + c_6) + c_10) ≤ mc ∧ (((0 + w_3) + w_7) + w_11) ≤ ms) ∧ Post (.inl (some (.long u_16))) h_9))) ∧ (¬ x5 < n_15 → ((((0 + c_2) + c_6) + c_10) + 1 ≤ mc ∧ (((0 + w_3) + w_7) + w_11) + 6 ≤ ms ∧ Post (.inr "java/util/NoSuchElementException") h_9)))))))))))))) (fun E9 h9 => Post (.inr E9) h9))))) (fun E9 h9 => Post (.inr E9) h9))))) :
    mX3_ask l K mc ms [.ref a0, .int x1, .int x2, .long x3, .int x4, .int x5] h Post := by
  refine MX.enter htr (by decide) rfl (Nat.le_of_ble_eq_true rfl) ?_
  refine J_lveq (lv' := [(0, .ref a0), (1, .int x1), (2, .int x2), (3, .long x3), (5, .int x4), (6, .int x5)]) rfl ?_
  refine J_aload_n dX3_ask_0 0 rfl ?_
  refine J_iload_n dX3_ask_1 1 rfl ?_
  obtain ⟨b9, F⟩ := F
  obtain ⟨c_2, w_3, k9, w9, F⟩ := F
  refine J_callV (ci := 3) (n := 1) (As := [.int x1]) (rest := []) dX3_ask_2 rfl gX3_ask_X3_pictureOf rfl (by decide +kernel) rfl (by decide) b9 (Nat.le_of_ble_eq_true rfl) k9 w9 F (kQX_kk (fun o_4 h_1 F => ?_)) (fun _ _ q9 => kQX_x q9)
  refine J_astoreq (lv' := [(7, va_rf o_4), (0, .ref a0), (1, .int x1), (2, .int x2), (3, .long x3), (5, .int x4), (6, .int x5)]) dX3_ask_5 (by decide) rfl ?_
  refine J_aload_n dX3_ask_7 1 rfl ?_
  refine J_iload_n dX3_ask_8 3 rfl ?_
  obtain ⟨b9, F⟩ := F
  obtain ⟨c_6, w_7, k9, w9, F⟩ := F
  refine J_callV (ci := 3) (n := 1) (As := [.int x2]) (rest := []) dX3_ask_9 rfl gX3_ask_X3_needState rfl (by decide +kernel) rfl (by decide) b9 (Nat.le_of_ble_eq_true rfl) k9 w9 F (kVX_kk (fun h_5 F => ?_)) (fun _ _ q9 => kVX_x q9)
  refine J_aloadq dX3_ask_12 0 rfl ?_
  refine J_iload_n dX3_ask_14 3 rfl ?_
  refine J_lload_n dX3_ask_15 4 rfl ?_
  refine J_iload dX3_ask_16 5 rfl ?_
  obtain ⟨a_8, hq9, F⟩ := F
  rw [hq9]
  obtain ⟨b9, F⟩ := F
  obtain ⟨c_10, w_11, k9, w9, F⟩ := F
  refine J_callV0 (ci := 2) (n := 3) (As := [.int x2, .long x3, .int x4]) (rest := []) dX3_ask_18 rfl gX3_ask_X2_entryOf rfl (by decide +kernel) rfl (by decide) b9 (Nat.le_of_ble_eq_true rfl) k9 w9 F kQ_no (kQ_kk (fun o_12 h_9 F => ?_))
  obtain ⟨a_13, hq9, F⟩ := F
  rw [hq9]
  obtain ⟨p_14, g9, F⟩ := F
  refine J_get (ci := 0) (k := 3) dX3_ask_21 rfl in_X3_ask_0 (by decide) lk_X3_ask_100 g9 ?_
  refine J_astore (lv' := [(8, .ref p_14), (7, .ref a_8), (0, .ref a0), (1, .int x1), (2, .int x2), (3, .long x3), (5, .int x4), (6, .int x5)]) dX3_ask_24 (by decide) rfl ?_
  refine J_iload dX3_ask_26 7 rfl ?_
  refine J_if_lt (tgt := 39) dX3_ask_28 (by decide) (fun c => ?_) (fun c => ?_)
  · replace F := F.1 c
    exact J_throw (text := "no such entry or number") (names := ["java/lang/RuntimeException", "java/lang/Exception"]) dX3_ask_39 dX3_ask_42 dX3_ask_43 dX3_ask_45 dX3_ask_48 (by decide) (by decide) wd_X3_ask_k93 wd_X3_ask_i_NoSuchElementException (by decide +kernel) at_X3_ask_97 atn_97 (by decide +kernel) gd_93_97 (by decide) (Nat.le_of_ble_eq_true rfl) F.1 F.2.1 F.2.2
  · replace F := F.2 c
    refine J_iload dX3_ask_31 7 rfl ?_
    refine J_aload dX3_ask_33 0 rfl ?_
    obtain ⟨n_15, g9, F⟩ := F
    refine J_alen (t := 1) dX3_ask_35 rfl g9 ?_
    refine J_icmp_lt (tgt := 49) dX3_ask_36 (by decide) (fun c => ?_) (fun c => ?_)
    · replace F := F.1 c
      refine J_aload dX3_ask_49 0 rfl ?_
      refine J_iload dX3_ask_51 7 rfl ?_
      obtain ⟨u_16, g9, F⟩ := F
      refine J_lald dX3_ask_53 g9 ?_
      obtain ⟨k9, F⟩ := F
      exact J_lret dX3_ask_54 rfl k9.1 k9.2 F
    · replace F := F.2 c
      exact J_throw (text := "no such entry or number") (names := ["java/lang/RuntimeException", "java/lang/Exception"]) dX3_ask_39 dX3_ask_42 dX3_ask_43 dX3_ask_45 dX3_ask_48 (by decide) (by decide) wd_X3_ask_k93 wd_X3_ask_i_NoSuchElementException (by decide +kernel) at_X3_ask_97 atn_97 (by decide +kernel) gd_93_97 (by decide) (Nat.le_of_ble_eq_true rfl) F.1 F.2.1 F.2.2

abbrev mX3_canMove (l : Launch) (K : Kx) (As : List Value) (h : Hp) (Post : Rs → Hp → Prop) : Prop := MX l K yX3_canMove wsX3_canMove 0 0 0 0 As h Post
set_option maxRecDepth 100000 in
set_option maxHeartbeats 4000000 in
theorem fX3_canMove {l : Launch} {K : Kx} {x1 : Int32} {x2 : Int32} {h : Hp} {Post : Rs → Hp → Prop} (htr : l.stackTraces = false)
    (F : (((x1.toInt < 0 ∨ 2 < x1.toInt) → ((¬ x2 = nI 0 → (Post (.inl (some (.int (nI 0)))) h)) ∧ (x2 = nI 0 → (Post (.inl (some (.int (nI 1)))) h)))) ∧ (x1 = nI 0 → ((x2 = (nI 2) → (Post (.inl (some (.int (nI 0)))) h)) ∧ (¬ x2 = (nI 2) → (Post (.inl (some (.int (nI 1)))) h)))) ∧ (x1 = nI 1 → ((x2 = (nI 1) → (Post (.inl (some (.int (nI 1)))) h)) ∧ (¬ x2 = (nI 1) → ((¬ x2 = (nI 3) → (Post (.inl (some (.int (nI 0)))) h)) ∧ (x2 = (nI 3) → (Post (.inl (some (.int (nI 1)))) h)))))) ∧ (x1 = nI 2 → ((x2 = (nI 2) → (Post (.inl (some (.int (nI 1)))) h)) ∧ (¬ x2 = (nI 2) → ((¬ x2 = (nI 1) → (Post (.inl (some (.int (nI 0)))) h)) ∧ (x2 = (nI 1) → (Post (.inl (some (.int (nI 1)))) h)))))))) :
    mX3_canMove l K [.int x1, .int x2] h Post := by
  refine MX.enter htr (by decide) rfl (Nat.le_of_ble_eq_true rfl) ?_
  refine J_lveq (lv' := [(0, .int x1), (1, .int x2)]) rfl ?_
  refine J_iload_n dX3_canMove_0 0 rfl ?_
  rcases sw_cases 2 x1 with c | ⟨j9, hj9, e9⟩
  · replace F := F.1 c
    refine J_tableOut (tgt := 71) dX3_canMove_1 c (by decide) ?_
    refine J_iload_n dX3_canMove_71 1 rfl ?_
    refine J_if_ne (tgt := 79) dX3_canMove_72 (by decide) (fun c => ?_) (fun c => ?_)
    · replace F := F.1 c
      refine J_iconst (v := nI 0) dX3_canMove_79 (by decide) ?_
      exact J_zret dX3_canMove_80 rfl (by decide) (Nat.le_refl _) (Nat.le_refl _) F
    · replace F := F.2 c
      refine J_iconst (v := nI 1) dX3_canMove_75 (by decide) ?_
      refine J_goto (tgt := 80) dX3_canMove_76 (by decide) ?_
      exact J_zret dX3_canMove_80 rfl (by decide) (Nat.le_refl _) (Nat.le_refl _) F
  · match j9, hj9, e9 with
    | 0, _, e9 =>
      replace F := F.2.1 e9
      refine J_tableIn (tgt := 28) (off := 27) dX3_canMove_1 (by rw [e9]; decide) (by rw [e9]; decide) (by rw [e9]; rfl) (by decide) ?_
      refine J_iload_n dX3_canMove_28 1 rfl ?_
      refine J_iconst (v := nI 2) dX3_canMove_29 (by decide) ?_
      refine J_icmp_eq (tgt := 37) dX3_canMove_30 (by decide) (fun c => ?_) (fun c => ?_)
      · replace F := F.1 c
        refine J_iconst (v := nI 0) dX3_canMove_37 (by decide) ?_
        exact J_zret dX3_canMove_38 rfl (by decide) (Nat.le_refl _) (Nat.le_refl _) F
      · replace F := F.2 c
        refine J_iconst (v := nI 1) dX3_canMove_33 (by decide) ?_
        refine J_goto (tgt := 38) dX3_canMove_34 (by decide) ?_
        exact J_zret dX3_canMove_38 rfl (by decide) (Nat.le_refl _) (Nat.le_refl _) F
    | 1, _, e9 =>
      replace F := F.2.2.1 e9
      refine J_tableIn (tgt := 39) (off := 38) dX3_canMove_1 (by rw [e9]; decide) (by rw [e9]; decide) (by rw [e9]; rfl) (by decide) ?_
      refine J_iload_n dX3_canMove_39 1 rfl ?_
      refine J_iconst (v := nI 1) dX3_canMove_40 (by decide) ?_
      refine J_icmp_eq (tgt := 49) dX3_canMove_41 (by decide) (fun c => ?_) (fun c => ?_)
      · replace F := F.1 c
        refine J_iconst (v := nI 1) dX3_canMove_49 (by decide) ?_
        refine J_goto (tgt := 54) dX3_canMove_50 (by decide) ?_
        exact J_zret dX3_canMove_54 rfl (by decide) (Nat.le_refl _) (Nat.le_refl _) F
      · replace F := F.2 c
        refine J_iload_n dX3_canMove_44 1 rfl ?_
        refine J_iconst (v := nI 3) dX3_canMove_45 (by decide) ?_
        refine J_icmp_ne (tgt := 53) dX3_canMove_46 (by decide) (fun c => ?_) (fun c => ?_)
        · replace F := F.1 c
          refine J_iconst (v := nI 0) dX3_canMove_53 (by decide) ?_
          exact J_zret dX3_canMove_54 rfl (by decide) (Nat.le_refl _) (Nat.le_refl _) F
        · replace F := F.2 c
          refine J_iconst (v := nI 1) dX3_canMove_49 (by decide) ?_
          refine J_goto (tgt := 54) dX3_canMove_50 (by decide) ?_
          exact J_zret dX3_canMove_54 rfl (by decide) (Nat.le_refl _) (Nat.le_refl _) F
    | 2, _, e9 =>
      replace F := F.2.2.2 e9
      refine J_tableIn (tgt := 55) (off := 54) dX3_canMove_1 (by rw [e9]; decide) (by rw [e9]; decide) (by rw [e9]; rfl) (by decide) ?_
      refine J_iload_n dX3_canMove_55 1 rfl ?_
      refine J_iconst (v := nI 2) dX3_canMove_56 (by decide) ?_
      refine J_icmp_eq (tgt := 65) dX3_canMove_57 (by decide) (fun c => ?_) (fun c => ?_)
      · replace F := F.1 c
        refine J_iconst (v := nI 1) dX3_canMove_65 (by decide) ?_
        refine J_goto (tgt := 70) dX3_canMove_66 (by decide) ?_
        exact J_zret dX3_canMove_70 rfl (by decide) (Nat.le_refl _) (Nat.le_refl _) F
      · replace F := F.2 c
        refine J_iload_n dX3_canMove_60 1 rfl ?_
        refine J_iconst (v := nI 1) dX3_canMove_61 (by decide) ?_
        refine J_icmp_ne (tgt := 69) dX3_canMove_62 (by decide) (fun c => ?_) (fun c => ?_)
        · replace F := F.1 c
          refine J_iconst (v := nI 0) dX3_canMove_69 (by decide) ?_
          exact J_zret dX3_canMove_70 rfl (by decide) (Nat.le_refl _) (Nat.le_refl _) F
        · replace F := F.2 c
          refine J_iconst (v := nI 1) dX3_canMove_65 (by decide) ?_
          refine J_goto (tgt := 70) dX3_canMove_66 (by decide) ?_
          exact J_zret dX3_canMove_70 rfl (by decide) (Nat.le_refl _) (Nat.le_refl _) F
    | n9 + 3, h9, _ => exact absurd h9 (by omega)

abbrev mX3_clear (l : Launch) (K : Kx) (mc ms : Nat) (As : List Value) (h : Hp) (Post : Rs → Hp → Prop) : Prop := MX l K yX3_clear wsX3_clear 7 144 mc ms As h Post
set_option maxRecDepth 100000 in
set_option maxHeartbeats 4000000 in
theorem fX3_clear {l : Launch} {K : Kx} {mc ms : Nat} {a0 : Nat} {x1 : Int32} {h : Hp} {Post : Rs → Hp → Prop} (htr : l.stackTraces = false)
    (F : ((∃ fs, h a0 = some (xO 3 fs)) ∧ (∃ c_2 w_3, 0 + c_2 ≤ mc ∧ 0 + w_3 ≤ ms ∧ mX3_needState l K c_2 w_3 [.ref a0, .int x1] h (kVX (fun h_1 => ((∃ fs, h_1 a0 = some (xO 3 fs)) ∧ (∃ c_5 w_6, (0 + c_2) + c_5 ≤ mc ∧ (0 + w_3) + w_6 ≤ ms ∧ mX3_needKey l K c_5 w_6 [.ref a0] h_1 (kVX (fun h_4 => ((∃ fs, h_4 a0 = some (xO 3 fs)) ∧ (∃ c_8 w_9, ((0 + c_2) + c_5) + c_8 ≤ mc ∧ ((0 + w_3) + w_6) + w_9 ≤ ms ∧ mX3_entryAtHand l K c_8 w_9 [.ref a0, .int x1] h_4 (kQ (fun o_10 h_7 => (∃ a_11, o_10 = some a_11 ∧ ((∃ fs, h_7 a_11 = some (xO 0 fs)) ∧ ((((0 + c_2) + c_5) + c_8) + 0 ≤ mc ∧ (((0 + w_3) + w_6) + w_9) + 0 ≤ ms ∧ mX0_isNone l K [.ref a_11] h_7 (kI (fun v_13 h_12 => ((v_13 = nI 0 → ((∃ fs, h_12 a_11 = some (xO 0 fs)) ∧ (∃ c_15 w_16, ((((0 + c_2) + c_5) + c_8) + 0) + c_15 ≤ mc ∧ ((((0 + w_3) + w_6) + w_9) + 0) + w_16 ≤ ms ∧ mX0_withNothing l K c_15 w_16 [.ref a_11] h_12 (kQ (fun o_17 h_14 => ((∃ fs, h_14 a0 = some (xO 3 fs)) ∧ (∃ c_19 w_20, (((((0 + c_2) + c_5) + c_8) + 0) + c_15) + c_19 ≤ mc ∧ (((((0 + w_3) + w_6) + w_9) + 0) + w_16) + w_20 ≤ ms ∧ mX3_keep l K c_19 w_20 [.ref a0, va_rf o_17] h_14 (kV (fun h_18 => ((((((((0 + c_2) + c_5) + c_8) + 0) + c_15) + c_19) ≤ mc ∧ ((((((0 + w_3) + w_6) + w_9) + 0) + w_16) + w_20) ≤ ms) ∧ Post (.inl (some (.int (nI 1)))) h_18)))))))))) ∧ (¬ v_13 = nI 0 → ((((((0 + c_2) + c_5) + c_8) + 0) ≤ mc ∧ ((((0 + w_3) + w_6) + w_9) + 0) ≤ ms) ∧ Post (.inl (some (.int (nI 0)))) h_12))))))))))))) (fun E9 h9 => Post (.inr E9) h9))))) (fun E9 h9 => Post (.inr E9) h9))))) :
    mX3_clear l K mc ms [.ref a0, .int x1] h Post := by
  refine MX.enter htr (by decide) rfl (Nat.le_of_ble_eq_true rfl) ?_
  refine J_lveq (lv' := [(0, .ref a0), (1, .int x1)]) rfl ?_
  refine J_aload_n dX3_clear_0 0 rfl ?_
  refine J_iload_n dX3_clear_1 1 rfl ?_
  obtain ⟨b9, F⟩ := F
  obtain ⟨c_2, w_3, k9, w9, F⟩ := F
  refine J_callV (ci := 3) (n := 1) (As := [.int x1]) (rest := []) dX3_clear_2 rfl gX3_clear_X3_needState rfl (by decide +kernel) rfl (by decide) b9 (Nat.le_of_ble_eq_true rfl) k9 w9 F (kVX_kk (fun h_1 F => ?_)) (fun _ _ q9 => kVX_x q9)
  refine J_aload_n dX3_clear_5 0 rfl ?_
  obtain ⟨b9, F⟩ := F
  obtain ⟨c_5, w_6, k9, w9, F⟩ := F
  refine J_callV (ci := 3) (n := 0) (As := []) (rest := []) dX3_clear_6 rfl gX3_clear_X3_needKey rfl (by decide +kernel) rfl (by decide) b9 (Nat.le_of_ble_eq_true rfl) k9 w9 F (kVX_kk (fun h_4 F => ?_)) (fun _ _ q9 => kVX_x q9)
  refine J_aload_n dX3_clear_9 0 rfl ?_
  refine J_iload_n dX3_clear_10 1 rfl ?_
  obtain ⟨b9, F⟩ := F
  obtain ⟨c_8, w_9, k9, w9, F⟩ := F
  refine J_callV0 (ci := 3) (n := 1) (As := [.int x1]) (rest := []) dX3_clear_11 rfl gX3_clear_X3_entryAtHand rfl (by decide +kernel) rfl (by decide) b9 (Nat.le_of_ble_eq_true rfl) k9 w9 F kQ_no (kQ_kk (fun o_10 h_7 F => ?_))
  refine J_astore_nq (lv' := [(2, va_rf o_10), (0, .ref a0), (1, .int x1)]) dX3_clear_14 rfl (by decide) rfl ?_
  refine J_aload_nq dX3_clear_15 0 rfl ?_
  obtain ⟨a_11, hq9, F⟩ := F
  rw [hq9]
  obtain ⟨b9, F⟩ := F
  obtain ⟨k9, w9, F⟩ := F
  refine J_callV0 (ci := 0) (n := 0) (As := []) (rest := []) dX3_clear_16 rfl gX3_clear_X0_isNone rfl (by decide +kernel) rfl (by decide) b9 (Nat.le_of_ble_eq_true rfl) k9 w9 F kI_no (kI_kk (fun v_13 h_12 F => ?_))
  refine J_if_eq (tgt := 24) dX3_clear_19 (by decide) (fun c => ?_) (fun c => ?_)
  · replace F := F.1 c
    refine J_aload_n dX3_clear_24 1 rfl ?_
    refine J_aload_n dX3_clear_25 0 rfl ?_
    obtain ⟨b9, F⟩ := F
    obtain ⟨c_15, w_16, k9, w9, F⟩ := F
    refine J_callV0 (ci := 0) (n := 0) (As := []) (rest := [.ref a0]) dX3_clear_26 rfl gX3_clear_X0_withNothing rfl (by decide +kernel) rfl (by decide) b9 (Nat.le_of_ble_eq_true rfl) k9 w9 F kQ_no (kQ_kk (fun o_17 h_14 F => ?_))
    obtain ⟨b9, F⟩ := F
    obtain ⟨c_19, w_20, k9, w9, F⟩ := F
    refine J_callV0 (ci := 3) (n := 1) (As := [va_rf o_17]) (rest := []) dX3_clear_29 rfl gX3_clear_X3_keep rfl (by decide +kernel) rfl (by decide) b9 (Nat.le_of_ble_eq_true rfl) k9 w9 F kV_no (kV_kk (fun h_18 F => ?_))
    refine J_iconst (v := nI 1) dX3_clear_32 (by decide) ?_
    obtain ⟨k9, F⟩ := F
    exact J_zret dX3_clear_33 rfl (by decide) k9.1 k9.2 F
  · replace F := F.2 c
    refine J_iconst (v := nI 0) dX3_clear_22 (by decide) ?_
    obtain ⟨k9, F⟩ := F
    exact J_zret dX3_clear_23 rfl (by decide) k9.1 k9.2 F

abbrev mX3_clearSpan (l : Launch) (K : Kx) (mc ms : Nat) (As : List Value) (h : Hp) (Post : Rs → Hp → Prop) : Prop := MX l K yX3_clearSpan wsX3_clearSpan 4 123 mc ms As h Post
set_option maxRecDepth 100000 in
set_option maxHeartbeats 4000000 in
theorem fX3_clearSpan {l : Launch} {K : Kx} {mc ms : Nat} {a0 : Nat} {h : Hp} {Post : Rs → Hp → Prop} (htr : l.stackTraces = false)
    (F : (∀ X_6 : Int32 → Int32 → Hp → Nat → Nat → Prop, (∀ (i_1 : Int32) (i_2 : Int32) (h_3 : Hp) (kc_4 : Nat) (ks_5 : Nat), ((((nI 16) ≤ i_2 → ((kc_4 ≤ mc ∧ ks_5 ≤ ms) ∧ Post (.inl (some (.int i_1))) h_3)) ∧ (¬ (nI 16) ≤ i_2 → (∃ p_7, gf h_3 a0 3 1 = some (.ref p_7) ∧ (∃ p_8, gf h_3 p_7 2 1 = some (.ref p_8) ∧ (∃ o_9, aQ K 4 h_3 p_8 i_2 = some o_9 ∧ (∃ v_10, gf h_3 a0 3 8 = some (.int v_10) ∧ (∃ a_11, o_9 = some a_11 ∧ ((∃ fs, h_3 a_11 = some (xO 1 fs)) ∧ (kc_4 + 0 ≤ mc ∧ ks_5 + 0 ≤ ms ∧ mX1_hasSpan l K [.ref a_11, .int v_10] h_3 (kI (fun v_13 h_12 => ((v_13 = nI 0 → X_6 i_1 (i_2 + nI 1) h_12 (kc_4 + 0) (ks_5 + 0)) ∧ (¬ v_13 = nI 0 → ((∃ fs, h_12 a0 = some (xO 3 fs)) ∧ (∃ c_15 w_16, (kc_4 + 0) + c_15 ≤ mc ∧ (ks_5 + 0) + w_16 ≤ ms ∧ mX3_pageToChange l K c_15 w_16 [.ref a0, .int i_2] h_12 (kQ (fun o_17 h_14 => (∃ v_18, gf h_14 a0 3 8 = some (.int v_18) ∧ (∃ a_19, o_17 = some a_19 ∧ ((∃ fs, h_14 a_19 = some (xO 1 fs)) ∧ (((kc_4 + 0) + c_15) + 0 ≤ mc ∧ ((ks_5 + 0) + w_16) + 0 ≤ ms ∧ mX1_loseSpan l K [.ref a_19, .int v_18] h_14 (kI (fun v_21 h_20 => X_6 (i_1 + v_21) (i_2 + nI 1) h_20 (((kc_4 + 0) + c_15) + 0) (((ks_5 + 0) + w_16) + 0))))))))))))))))))))))))) → X_6 i_1 i_2 h_3 kc_4 ks_5) → X_6 (nI 0) (nI 0) h 0 0)) :
    mX3_clearSpan l K mc ms [.ref a0] h Post := by
  refine MX.enter htr (by decide) rfl (Nat.le_of_ble_eq_true rfl) ?_
  refine J_lveq (lv' := [(0, .ref a0)]) rfl ?_
  refine J_iconst (v := nI 0) dX3_clearSpan_0 (by decide) ?_
  refine J_istore_n (lv' := [(1, .int (nI 0)), (0, .ref a0)]) dX3_clearSpan_1 rfl (by decide) rfl ?_
  refine J_iconst (v := nI 0) dX3_clearSpan_2 (by decide) ?_
  refine J_istore_n (lv' := [(2, .int (nI 0)), (1, .int (nI 0)), (0, .ref a0)]) dX3_clearSpan_3 rfl (by decide) rfl ?_
  refine J_sub [2, 1, 0] rfl ?_
  refine F (fun (i_1 : Int32) (i_2 : Int32) (h_3 : Hp) (kc_4 : Nat) (ks_5 : Nat) => J l K yX3_clearSpan.cls cX3_clearSpan 3 (some .int) wsX3_clearSpan [] yX3_clearSpan.name 4 123 mc ms (QM K mc ms Post) 4 [] [(0, .ref a0), (1, .int i_1), (2, .int i_2)] h_3 kc_4 ks_5) ?_
  intro i_1 i_2 h_3 kc_4 ks_5 F
  refine J_iload_n dX3_clearSpan_4 2 rfl ?_
  refine J_bipush (v := nI 16) dX3_clearSpan_5 (by decide) ?_
  refine J_icmp_ge (tgt := 50) dX3_clearSpan_7 (by decide) (fun c => ?_) (fun c => ?_)
  · replace F := F.1 c
    refine J_iload_n dX3_clearSpan_50 1 rfl ?_
    obtain ⟨k9, F⟩ := F
    exact J_iret dX3_clearSpan_51 rfl k9.1 k9.2 F
  · replace F := F.2 c
    refine J_aload_n dX3_clearSpan_10 0 rfl ?_
    obtain ⟨p_7, g9, F⟩ := F
    refine J_get (ci := 3) (k := 1) dX3_clearSpan_11 rfl in_X3_clearSpan_3 (by decide) lk_X3_clearSpan_16 g9 ?_
    obtain ⟨p_8, g9, F⟩ := F
    refine J_get (ci := 2) (k := 1) dX3_clearSpan_14 rfl in_X3_clearSpan_2 (by decide) lk_X3_clearSpan_151 g9 ?_
    refine J_iload_n dX3_clearSpan_17 2 rfl ?_
    obtain ⟨o_9, g9, F⟩ := F
    refine J_aald (t := 4) dX3_clearSpan_18 rfl g9 ?_
    refine J_aload_n dX3_clearSpan_19 0 rfl ?_
    obtain ⟨v_10, g9, F⟩ := F
    refine J_get (ci := 3) (k := 8) dX3_clearSpan_20 rfl in_X3_clearSpan_3 (by decide) lk_X3_clearSpan_43 g9 ?_
    obtain ⟨a_11, hq9, F⟩ := F
    rw [hq9]
    obtain ⟨b9, F⟩ := F
    obtain ⟨k9, w9, F⟩ := F
    refine J_callV0 (ci := 1) (n := 1) (As := [.int v_10]) (rest := []) dX3_clearSpan_23 rfl gX3_clearSpan_X1_hasSpan rfl (by decide +kernel) rfl (by decide) b9 (Nat.le_of_ble_eq_true rfl) k9 w9 F kI_no (kI_kk (fun v_13 h_12 F => ?_))
    refine J_if_eq (tgt := 44) dX3_clearSpan_26 (by decide) (fun c => ?_) (fun c => ?_)
    · replace F := F.1 c
      refine J_iinc (v := i_2 + nI 1) (lv' := [(2, .int (i_2 + nI 1)), (0, .ref a0), (1, .int i_1)]) dX3_clearSpan_44 2 rfl rfl (by decide) rfl ?_
      refine J_goto (tgt := 4) dX3_clearSpan_47 (by decide) ?_
      exact J_sub [1, 2, 0] rfl F
    · replace F := F.2 c
      refine J_iload_n dX3_clearSpan_29 1 rfl ?_
      refine J_aload_n dX3_clearSpan_30 0 rfl ?_
      refine J_iload_n dX3_clearSpan_31 2 rfl ?_
      obtain ⟨b9, F⟩ := F
      obtain ⟨c_15, w_16, k9, w9, F⟩ := F
      refine J_callV0 (ci := 3) (n := 1) (As := [.int i_2]) (rest := [.int i_1]) dX3_clearSpan_32 rfl gX3_clearSpan_X3_pageToChange rfl (by decide +kernel) rfl (by decide) b9 (Nat.le_of_ble_eq_true rfl) k9 w9 F kQ_no (kQ_kk (fun o_17 h_14 F => ?_))
      refine J_aload_n dX3_clearSpan_35 0 rfl ?_
      obtain ⟨v_18, g9, F⟩ := F
      refine J_get (ci := 3) (k := 8) dX3_clearSpan_36 rfl in_X3_clearSpan_3 (by decide) lk_X3_clearSpan_43 g9 ?_
      obtain ⟨a_19, hq9, F⟩ := F
      rw [hq9]
      obtain ⟨b9, F⟩ := F
      obtain ⟨k9, w9, F⟩ := F
      refine J_callV0 (ci := 1) (n := 1) (As := [.int v_18]) (rest := [.int i_1]) dX3_clearSpan_39 rfl gX3_clearSpan_X1_loseSpan rfl (by decide +kernel) rfl (by decide) b9 (Nat.le_of_ble_eq_true rfl) k9 w9 F kI_no (kI_kk (fun v_21 h_20 F => ?_))
      refine J_iadd dX3_clearSpan_42 ?_
      refine J_istore_n (lv' := [(1, .int (i_1 + v_21)), (0, .ref a0), (2, .int i_2)]) dX3_clearSpan_43 rfl (by decide) rfl ?_
      refine J_iinc (v := i_2 + nI 1) (lv' := [(2, .int (i_2 + nI 1)), (1, .int (i_1 + v_21)), (0, .ref a0)]) dX3_clearSpan_44 2 rfl rfl (by decide) rfl ?_
      refine J_goto (tgt := 4) dX3_clearSpan_47 (by decide) ?_
      exact J_sub [2, 1, 0] rfl F

abbrev mX3_countSnapshots (l : Launch) (K : Kx) (As : List Value) (h : Hp) (Post : Rs → Hp → Prop) : Prop := MX l K yX3_countSnapshots wsX3_countSnapshots 0 0 0 0 As h Post
set_option maxRecDepth 100000 in
set_option maxHeartbeats 4000000 in
theorem fX3_countSnapshots {l : Launch} {K : Kx} {a0 : Nat} {h : Hp} {Post : Rs → Hp → Prop} (htr : l.stackTraces = false)
    (F : (∀ X_3 : Int32 → Int32 → Prop, (∀ (i_1 : Int32) (i_2 : Int32), ((((nI 6) ≤ i_2 → (Post (.inl (some (.int i_1))) h)) ∧ (¬ (nI 6) ≤ i_2 → (∃ p_4, gf h a0 3 2 = some (.ref p_4) ∧ (∃ o_5, aQ K 5 h p_4 i_2 = some o_5 ∧ ((o_5 = none → X_3 i_1 (i_2 + nI 1)) ∧ (∀ a_6, o_5 = some a_6 → X_3 (i_1 + nI 1) (i_2 + nI 1)))))))) → X_3 i_1 i_2) → X_3 (nI 0) (nI 0))) :
    mX3_countSnapshots l K [.ref a0] h Post := by
  refine MX.enter htr (by decide) rfl (Nat.le_of_ble_eq_true rfl) ?_
  refine J_lveq (lv' := [(0, .ref a0)]) rfl ?_
  refine J_iconst (v := nI 0) dX3_countSnapshots_0 (by decide) ?_
  refine J_istore_n (lv' := [(1, .int (nI 0)), (0, .ref a0)]) dX3_countSnapshots_1 rfl (by decide) rfl ?_
  refine J_iconst (v := nI 0) dX3_countSnapshots_2 (by decide) ?_
  refine J_istore_n (lv' := [(2, .int (nI 0)), (1, .int (nI 0)), (0, .ref a0)]) dX3_countSnapshots_3 rfl (by decide) rfl ?_
  refine J_sub [2, 1, 0] rfl ?_
  refine F (fun (i_1 : Int32) (i_2 : Int32) => J l K yX3_countSnapshots.cls cX3_countSnapshots 3 (some .int) wsX3_countSnapshots [] yX3_countSnapshots.name 0 0 0 0 (QM K 0 0 Post) 4 [] [(0, .ref a0), (1, .int i_1), (2, .int i_2)] h 0 0) ?_
  intro i_1 i_2 F
  refine J_iload_n dX3_countSnapshots_4 2 rfl ?_
  refine J_bipush (v := nI 6) dX3_countSnapshots_5 (by decide) ?_
  refine J_icmp_ge (tgt := 28) dX3_countSnapshots_7 (by decide) (fun c => ?_) (fun c => ?_)
  · replace F := F.1 c
    refine J_iload_n dX3_countSnapshots_28 1 rfl ?_
    exact J_iret dX3_countSnapshots_29 rfl (Nat.le_refl _) (Nat.le_refl _) F
  · replace F := F.2 c
    refine J_aload_n dX3_countSnapshots_10 0 rfl ?_
    obtain ⟨p_4, g9, F⟩ := F
    refine J_get (ci := 3) (k := 2) dX3_countSnapshots_11 rfl in_X3_countSnapshots_3 (by decide) lk_X3_countSnapshots_20 g9 ?_
    refine J_iload_n dX3_countSnapshots_14 2 rfl ?_
    obtain ⟨o_5, g9, F⟩ := F
    refine J_aald (t := 5) dX3_countSnapshots_15 rfl g9 ?_
    refine J_ifnull (tgt := 22) dX3_countSnapshots_16 (by decide) ?_ ?_
    · intro c
      replace F := F.1 c
      try rw [c]
      refine J_iinc (v := i_2 + nI 1) (lv' := [(2, .int (i_2 + nI 1)), (0, .ref a0), (1, .int i_1)]) dX3_countSnapshots_22 2 rfl rfl (by decide) rfl ?_
      refine J_goto (tgt := 4) dX3_countSnapshots_25 (by decide) ?_
      exact J_sub [1, 2, 0] rfl F
    · intro a_6 c
      replace F := F.2 a_6 c
      try rw [c]
      refine J_iinc (v := i_1 + nI 1) (lv' := [(1, .int (i_1 + nI 1)), (0, .ref a0), (2, .int i_2)]) dX3_countSnapshots_19 1 rfl rfl (by decide) rfl ?_
      refine J_iinc (v := i_2 + nI 1) (lv' := [(2, .int (i_2 + nI 1)), (1, .int (i_1 + nI 1)), (0, .ref a0)]) dX3_countSnapshots_22 2 rfl rfl (by decide) rfl ?_
      refine J_goto (tgt := 4) dX3_countSnapshots_25 (by decide) ?_
      exact J_sub [2, 1, 0] rfl F

abbrev mX3_drop (l : Launch) (K : Kx) (mc ms : Nat) (As : List Value) (h : Hp) (Post : Rs → Hp → Prop) : Prop := MX l K yX3_drop wsX3_drop 7 112 mc ms As h Post
set_option maxRecDepth 100000 in
set_option maxHeartbeats 4000000 in
theorem fX3_drop {l : Launch} {K : Kx} {mc ms : Nat} {a0 : Nat} {x1 : Int32} {h : Hp} {Post : Rs → Hp → Prop} (htr : l.stackTraces = false)
    (F : ((∃ fs, h a0 = some (xO 3 fs)) ∧ (0 + 0 ≤ mc ∧ 0 + 0 ≤ ms ∧ mX3_slotOf l K [.ref a0, .int x1] h (kI (fun v_2 h_1 => ((∃ fs, h_1 a0 = some (xO 3 fs)) ∧ (∃ c_4 w_5, (0 + 0) + c_4 ≤ mc ∧ (0 + 0) + w_5 ≤ ms ∧ mX3_snapshotIn l K c_4 w_5 [.ref a0, .int v_2] h_1 (kQX (fun o_6 h_3 => (∃ a_7, o_6 = some a_7 ∧ ((∃ fs, h_3 a_7 = some (xO 2 fs)) ∧ (((0 + 0) + c_4) + 0 ≤ mc ∧ ((0 + 0) + w_5) + 0 ≤ ms ∧ mX2_releasePages l K [.ref a_7] h_3 (kV (fun h_8 => (∃ p_9, gf h_8 a0 3 2 = some (.ref p_9) ∧ (∃ h_10, wQ K 5 h_8 p_9 v_2 none = some h_10 ∧ (∃ p_11, gf h_10 a0 3 1 = some (.ref p_11) ∧ ((∃ fs, h_10 p_11 = some (xO 2 fs)) ∧ ((((0 + 0) + c_4) + 0) + 0 ≤ mc ∧ (((0 + 0) + w_5) + 0) + 0 ≤ ms ∧ mX2_countShared l K [.ref p_11] h_10 (kI (fun v_13 h_12 => ((((((0 + 0) + c_4) + 0) + 0) ≤ mc ∧ ((((0 + 0) + w_5) + 0) + 0) ≤ ms) ∧ Post (.inl (some (.int v_13))) h_12)))))))))))))) (fun E9 h9 => Post (.inr E9) h9))))))))) :
    mX3_drop l K mc ms [.ref a0, .int x1] h Post := by
  refine MX.enter htr (by decide) rfl (Nat.le_of_ble_eq_true rfl) ?_
  refine J_lveq (lv' := [(0, .ref a0), (1, .int x1)]) rfl ?_
  refine J_aload_n dX3_drop_0 0 rfl ?_
  refine J_iload_n dX3_drop_1 1 rfl ?_
  obtain ⟨b9, F⟩ := F
  obtain ⟨k9, w9, F⟩ := F
  refine J_callV0 (ci := 3) (n := 1) (As := [.int x1]) (rest := []) dX3_drop_2 rfl gX3_drop_X3_slotOf rfl (by decide +kernel) rfl (by decide) b9 (Nat.le_of_ble_eq_true rfl) k9 w9 F kI_no (kI_kk (fun v_2 h_1 F => ?_))
  refine J_istore_n (lv' := [(2, .int v_2), (0, .ref a0), (1, .int x1)]) dX3_drop_5 rfl (by decide) rfl ?_
  refine J_aload_n dX3_drop_6 1 rfl ?_
  refine J_iload_n dX3_drop_7 0 rfl ?_
  obtain ⟨b9, F⟩ := F
  obtain ⟨c_4, w_5, k9, w9, F⟩ := F
  refine J_callV (ci := 3) (n := 1) (As := [.int v_2]) (rest := []) dX3_drop_8 rfl gX3_drop_X3_snapshotIn rfl (by decide +kernel) rfl (by decide) b9 (Nat.le_of_ble_eq_true rfl) k9 w9 F (kQX_kk (fun o_6 h_3 F => ?_)) (fun _ _ q9 => kQX_x q9)
  obtain ⟨a_7, hq9, F⟩ := F
  rw [hq9]
  obtain ⟨b9, F⟩ := F
  obtain ⟨k9, w9, F⟩ := F
  refine J_callV0 (ci := 2) (n := 0) (As := []) (rest := []) dX3_drop_11 rfl gX3_drop_X2_releasePages rfl (by decide +kernel) rfl (by decide) b9 (Nat.le_of_ble_eq_true rfl) k9 w9 F kV_no (kV_kk (fun h_8 F => ?_))
  refine J_aload_n dX3_drop_14 1 rfl ?_
  obtain ⟨p_9, g9, F⟩ := F
  refine J_get (ci := 3) (k := 2) dX3_drop_15 rfl in_X3_drop_3 (by decide) lk_X3_drop_20 g9 ?_
  refine J_iload_n dX3_drop_18 0 rfl ?_
  refine J_null dX3_drop_19 ?_
  obtain ⟨h_10, g9, F⟩ := F
  refine J_aastN (t := 5) dX3_drop_20 rfl g9 ?_
  refine J_aload_n dX3_drop_21 1 rfl ?_
  obtain ⟨p_11, g9, F⟩ := F
  refine J_get (ci := 3) (k := 1) dX3_drop_22 rfl in_X3_drop_3 (by decide) lk_X3_drop_16 g9 ?_
  obtain ⟨b9, F⟩ := F
  obtain ⟨k9, w9, F⟩ := F
  refine J_callV0 (ci := 2) (n := 0) (As := []) (rest := []) dX3_drop_25 rfl gX3_drop_X2_countShared rfl (by decide +kernel) rfl (by decide) b9 (Nat.le_of_ble_eq_true rfl) k9 w9 F kI_no (kI_kk (fun v_13 h_12 F => ?_))
  obtain ⟨k9, F⟩ := F
  exact J_iret dX3_drop_28 rfl k9.1 k9.2 F

abbrev mX3_entries (l : Launch) (K : Kx) (mc ms : Nat) (As : List Value) (h : Hp) (Post : Rs → Hp → Prop) : Prop := MX l K yX3_entries wsX3_entries 8 133 mc ms As h Post
set_option maxRecDepth 100000 in
set_option maxHeartbeats 4000000 in
theorem fX3_entries {l : Launch} {K : Kx} {mc ms : Nat} {a0 : Nat} {x1 : Int32} {x2 : Int32} {h : Hp} {Post : Rs → Hp → Prop} (htr : l.stackTraces = false)
    (F : ((∃ fs, h a0 = some (xO 3 fs)) ∧ (∃ c_2 w_3, 0 + c_2 ≤ mc ∧ 0 + w_3 ≤ ms ∧ mX3_pictureOf l K c_2 w_3 [.ref a0, .int x1] h (kQX (fun o_4 h_1 => ((∃ fs, h_1 a0 = some (xO 3 fs)) ∧ (∃ c_6 w_7, (0 + c_2) + c_6 ≤ mc ∧ (0 + w_3) + w_7 ≤ ms ∧ mX3_needState l K c_6 w_7 [.ref a0, .int x2] h_1 (kVX (fun h_5 => (∃ a_8, o_4 = some a_8 ∧ ((∃ fs, h_5 a_8 = some (xO 2 fs)) ∧ (((0 + c_2) + c_6) + 0 ≤ mc ∧ ((0 + w_3) + w_7) + 0 ≤ ms ∧ mX2_countEntriesOf l K [.ref a_8, .int x2] h_5 (kI (fun v_10 h_9 => (((((0 + c_2) + c_6) + 0) ≤ mc ∧ (((0 + w_3) + w_7) + 0) ≤ ms) ∧ Post (.inl (some (.int v_10))) h_9))))))) (fun E9 h9 => Post (.inr E9) h9))))) (fun E9 h9 => Post (.inr E9) h9))))) :
    mX3_entries l K mc ms [.ref a0, .int x1, .int x2] h Post := by
  refine MX.enter htr (by decide) rfl (Nat.le_of_ble_eq_true rfl) ?_
  refine J_lveq (lv' := [(0, .ref a0), (1, .int x1), (2, .int x2)]) rfl ?_
  refine J_aload_n dX3_entries_0 0 rfl ?_
  refine J_iload_n dX3_entries_1 1 rfl ?_
  obtain ⟨b9, F⟩ := F
  obtain ⟨c_2, w_3, k9, w9, F⟩ := F
  refine J_callV (ci := 3) (n := 1) (As := [.int x1]) (rest := []) dX3_entries_2 rfl gX3_entries_X3_pictureOf rfl (by decide +kernel) rfl (by decide) b9 (Nat.le_of_ble_eq_true rfl) k9 w9 F (kQX_kk (fun o_4 h_1 F => ?_)) (fun _ _ q9 => kQX_x q9)
  refine J_astore_nq (lv' := [(3, va_rf o_4), (0, .ref a0), (1, .int x1), (2, .int x2)]) dX3_entries_5 rfl (by decide) rfl ?_
  refine J_aload_n dX3_entries_6 1 rfl ?_
  refine J_iload_n dX3_entries_7 3 rfl ?_
  obtain ⟨b9, F⟩ := F
  obtain ⟨c_6, w_7, k9, w9, F⟩ := F
  refine J_callV (ci := 3) (n := 1) (As := [.int x2]) (rest := []) dX3_entries_8 rfl gX3_entries_X3_needState rfl (by decide +kernel) rfl (by decide) b9 (Nat.le_of_ble_eq_true rfl) k9 w9 F (kVX_kk (fun h_5 F => ?_)) (fun _ _ q9 => kVX_x q9)
  refine J_aload_nq dX3_entries_11 0 rfl ?_
  refine J_iload_n dX3_entries_12 3 rfl ?_
  obtain ⟨a_8, hq9, F⟩ := F
  rw [hq9]
  obtain ⟨b9, F⟩ := F
  obtain ⟨k9, w9, F⟩ := F
  refine J_callV0 (ci := 2) (n := 1) (As := [.int x2]) (rest := []) dX3_entries_13 rfl gX3_entries_X2_countEntriesOf rfl (by decide +kernel) rfl (by decide) b9 (Nat.le_of_ble_eq_true rfl) k9 w9 F kI_no (kI_kk (fun v_10 h_9 F => ?_))
  obtain ⟨k9, F⟩ := F
  exact J_iret dX3_entries_16 rfl k9.1 k9.2 F

abbrev mX3_fold (l : Launch) (K : Kx) (mc ms : Nat) (As : List Value) (h : Hp) (Post : Rs → Hp → Prop) : Prop := MX l K yX3_fold wsX3_fold 8 144 mc ms As h Post
set_option maxRecDepth 100000 in
set_option maxHeartbeats 4000000 in
theorem fX3_fold {l : Launch} {K : Kx} {mc ms : Nat} {a0 : Nat} {x1 : Int32} {x2 : Int64} {h : Hp} {Post : Rs → Hp → Prop} (htr : l.stackTraces = false)
    (F : ((∃ fs, h a0 = some (xO 3 fs)) ∧ (∃ c_2 w_3, 0 + c_2 ≤ mc ∧ 0 + w_3 ≤ ms ∧ mX3_needToWrite l K c_2 w_3 [.ref a0, .int x1, .int (nI 3), .long x2] h (kVX (fun h_1 => ((∃ fs, h_1 a0 = some (xO 3 fs)) ∧ (∃ c_5 w_6, (0 + c_2) + c_5 ≤ mc ∧ (0 + w_3) + w_6 ≤ ms ∧ mX3_entryAtHand l K c_5 w_6 [.ref a0, .int x1] h_1 (kQ (fun o_7 h_4 => ((∃ fs, h_4 a0 = some (xO 3 fs)) ∧ (((0 + c_2) + c_5) + 0 ≤ mc ∧ ((0 + w_3) + w_6) + 0 ≤ ms ∧ mX3_hasNoRoomFor l K [.ref a0, va_rf o_7] h_4 (kI (fun v_9 h_8 => ((v_9 = nI 0 → (∃ p_10, gf h_8 a0 3 1 = some (.ref p_10) ∧ (∃ p_11, gf h_8 p_10 2 3 = some (.ref p_11) ∧ (∃ v_12, aI K h_8 p_11 x1 = some v_12 ∧ (∃ a_13, o_7 = some a_13 ∧ ((∃ fs, h_8 a_13 = some (xO 0 fs)) ∧ (∃ c_15 w_16, (((0 + c_2) + c_5) + 0) + c_15 ≤ mc ∧ (((0 + w_3) + w_6) + 0) + w_16 ≤ ms ∧ mX0_withFolded l K c_15 w_16 [.ref a_13, .int v_12, .long x2] h_8 (kQ (fun o_17 h_14 => ((∃ fs, h_14 a0 = some (xO 3 fs)) ∧ (∃ c_19 w_20, ((((0 + c_2) + c_5) + 0) + c_15) + c_19 ≤ mc ∧ ((((0 + w_3) + w_6) + 0) + w_16) + w_20 ≤ ms ∧ mX3_keep l K c_19 w_20 [.ref a0, va_rf o_17] h_14 (kV (fun h_18 => (∃ v_21, gf h_18 a_13 0 5 = some (.int v_21) ∧ (((((((0 + c_2) + c_5) + 0) + c_15) + c_19) ≤ mc ∧ (((((0 + w_3) + w_6) + 0) + w_16) + w_20) ≤ ms) ∧ Post (.inl (some (.int (v_21 + (nI 1))))) h_18))))))))))))))) ∧ (¬ v_9 = nI 0 → (((((0 + c_2) + c_5) + 0) ≤ mc ∧ (((0 + w_3) + w_6) + 0) ≤ ms) ∧ Post (.inl (some (.int (-nI 4)))) h_8)))))))))))) (fun E9 h9 => Post (.inr E9) h9))))) :
    mX3_fold l K mc ms [.ref a0, .int x1, .long x2] h Post := by
  refine MX.enter htr (by decide) rfl (Nat.le_of_ble_eq_true rfl) ?_
  refine J_lveq (lv' := [(0, .ref a0), (1, .int x1), (2, .long x2)]) rfl ?_
  refine J_aload_n dX3_fold_0 0 rfl ?_
  refine J_iload_n dX3_fold_1 1 rfl ?_
  refine J_iconst (v := nI 3) dX3_fold_2 (by decide) ?_
  refine J_lload_n dX3_fold_3 2 rfl ?_
  obtain ⟨b9, F⟩ := F
  obtain ⟨c_2, w_3, k9, w9, F⟩ := F
  refine J_callV (ci := 3) (n := 3) (As := [.int x1, .int (nI 3), .long x2]) (rest := []) dX3_fold_4 rfl gX3_fold_X3_needToWrite rfl (by decide +kernel) rfl (by decide) b9 (Nat.le_of_ble_eq_true rfl) k9 w9 F (kVX_kk (fun h_1 F => ?_)) (fun _ _ q9 => kVX_x q9)
  refine J_aload_n dX3_fold_7 0 rfl ?_
  refine J_iload_n dX3_fold_8 1 rfl ?_
  obtain ⟨b9, F⟩ := F
  obtain ⟨c_5, w_6, k9, w9, F⟩ := F
  refine J_callV0 (ci := 3) (n := 1) (As := [.int x1]) (rest := []) dX3_fold_9 rfl gX3_fold_X3_entryAtHand rfl (by decide +kernel) rfl (by decide) b9 (Nat.le_of_ble_eq_true rfl) k9 w9 F kQ_no (kQ_kk (fun o_7 h_4 F => ?_))
  refine J_astoreq (lv' := [(4, va_rf o_7), (0, .ref a0), (1, .int x1), (2, .long x2)]) dX3_fold_12 (by decide) rfl ?_
  refine J_aload_n dX3_fold_14 1 rfl ?_
  refine J_aloadq dX3_fold_15 0 rfl ?_
  obtain ⟨b9, F⟩ := F
  obtain ⟨k9, w9, F⟩ := F
  refine J_callV0 (ci := 3) (n := 1) (As := [va_rf o_7]) (rest := []) dX3_fold_17 rfl gX3_fold_X3_hasNoRoomFor rfl (by decide +kernel) rfl (by decide) b9 (Nat.le_of_ble_eq_true rfl) k9 w9 F kI_no (kI_kk (fun v_9 h_8 F => ?_))
  refine J_if_eq (tgt := 26) dX3_fold_20 (by decide) (fun c => ?_) (fun c => ?_)
  · replace F := F.1 c
    refine J_aload_n dX3_fold_26 1 rfl ?_
    refine J_aloadq dX3_fold_27 0 rfl ?_
    refine J_aload_n dX3_fold_29 1 rfl ?_
    obtain ⟨p_10, g9, F⟩ := F
    refine J_get (ci := 3) (k := 1) dX3_fold_30 rfl in_X3_fold_3 (by decide) lk_X3_fold_16 g9 ?_
    obtain ⟨p_11, g9, F⟩ := F
    refine J_get (ci := 2) (k := 3) dX3_fold_33 rfl in_X3_fold_2 (by decide) lk_X3_fold_56 g9 ?_
    refine J_iload_n dX3_fold_36 2 rfl ?_
    obtain ⟨v_12, g9, F⟩ := F
    refine J_iald dX3_fold_37 g9 ?_
    refine J_lload_n dX3_fold_38 3 rfl ?_
    obtain ⟨a_13, hq9, F⟩ := F
    rw [hq9]
    obtain ⟨b9, F⟩ := F
    obtain ⟨c_15, w_16, k9, w9, F⟩ := F
    refine J_callV0 (ci := 0) (n := 2) (As := [.int v_12, .long x2]) (rest := [.ref a0]) dX3_fold_39 rfl gX3_fold_X0_withFolded rfl (by decide +kernel) rfl (by decide) b9 (Nat.le_of_ble_eq_true rfl) k9 w9 F kQ_no (kQ_kk (fun o_17 h_14 F => ?_))
    obtain ⟨b9, F⟩ := F
    obtain ⟨c_19, w_20, k9, w9, F⟩ := F
    refine J_callV0 (ci := 3) (n := 1) (As := [va_rf o_17]) (rest := []) dX3_fold_42 rfl gX3_fold_X3_keep rfl (by decide +kernel) rfl (by decide) b9 (Nat.le_of_ble_eq_true rfl) k9 w9 F kV_no (kV_kk (fun h_18 F => ?_))
    refine J_aload dX3_fold_45 0 rfl ?_
    obtain ⟨v_21, g9, F⟩ := F
    refine J_get (ci := 0) (k := 5) dX3_fold_47 rfl in_X3_fold_0 (by decide) lk_X3_fold_137 g9 ?_
    refine J_iconst (v := nI 1) dX3_fold_50 (by decide) ?_
    refine J_iadd dX3_fold_51 ?_
    obtain ⟨k9, F⟩ := F
    exact J_iret dX3_fold_52 rfl k9.1 k9.2 F
  · replace F := F.2 c
    refine J_bipush (v := -nI 4) dX3_fold_23 (by decide) ?_
    obtain ⟨k9, F⟩ := F
    exact J_iret dX3_fold_25 rfl k9.1 k9.2 F

abbrev mX3_needToRead (l : Launch) (K : Kx) (mc ms : Nat) (As : List Value) (h : Hp) (Post : Rs → Hp → Prop) : Prop := MX l K yX3_needToRead wsX3_needToRead 7 111 mc ms As h Post
set_option maxRecDepth 100000 in
set_option maxHeartbeats 4000000 in
theorem fX3_needToRead {l : Launch} {K : Kx} {mc ms : Nat} {a0 : Nat} {x1 : Int32} {x2 : Int32} {x3 : Int32} {h : Hp} {Post : Rs → Hp → Prop} (htr : l.stackTraces = false)
    (F : ((∃ fs, h a0 = some (xO 3 fs)) ∧ (∃ c_2 w_3, 0 + c_2 ≤ mc ∧ 0 + w_3 ≤ ms ∧ mX3_needState l K c_2 w_3 [.ref a0, .int x1] h (kVX (fun h_1 => (∃ p_4, gf h_1 a0 3 1 = some (.ref p_4) ∧ (∃ p_5, gf h_1 p_4 2 2 = some (.ref p_5) ∧ (∃ v_6, aI K h_1 p_5 x1 = some v_6 ∧ ((v_6 = x2 → ((∃ fs, h_1 a0 = some (xO 3 fs)) ∧ (∃ c_8 w_9, (0 + c_2) + c_8 ≤ mc ∧ (0 + w_3) + w_9 ≤ ms ∧ mX3_needKey l K c_8 w_9 [.ref a0] h_1 (kVX (fun h_7 => ((((0 + c_2) + c_8) ≤ mc ∧ ((0 + w_3) + w_9) ≤ ms) ∧ Post (.inl none) h_7)) (fun E9 h9 => Post (.inr E9) h9))))) ∧ (¬ v_6 = x2 → (∃ p_10, gf h_1 a0 3 1 = some (.ref p_10) ∧ (∃ p_11, gf h_1 p_10 2 2 = some (.ref p_11) ∧ (∃ v_12, aI K h_1 p_11 x1 = some v_12 ∧ ((v_12 = x3 → ((∃ fs, h_1 a0 = some (xO 3 fs)) ∧ (∃ c_14 w_15, (0 + c_2) + c_14 ≤ mc ∧ (0 + w_3) + w_15 ≤ ms ∧ mX3_needKey l K c_14 w_15 [.ref a0] h_1 (kVX (fun h_13 => ((((0 + c_2) + c_14) ≤ mc ∧ ((0 + w_3) + w_15) ≤ ms) ∧ Post (.inl none) h_13)) (fun E9 h9 => Post (.inr E9) h9))))) ∧ (¬ v_12 = x3 → ((0 + c_2) + 1 ≤ mc ∧ (0 + w_3) + 6 ≤ ms ∧ Post (.inr "java/lang/IllegalArgumentException") h_1)))))))))))) (fun E9 h9 => Post (.inr E9) h9))))) :
    mX3_needToRead l K mc ms [.ref a0, .int x1, .int x2, .int x3] h Post := by
  refine MX.enter htr (by decide) rfl (Nat.le_of_ble_eq_true rfl) ?_
  refine J_lveq (lv' := [(0, .ref a0), (1, .int x1), (2, .int x2), (3, .int x3)]) rfl ?_
  refine J_aload_n dX3_needToRead_0 0 rfl ?_
  refine J_iload_n dX3_needToRead_1 1 rfl ?_
  obtain ⟨b9, F⟩ := F
  obtain ⟨c_2, w_3, k9, w9, F⟩ := F
  refine J_callV (ci := 3) (n := 1) (As := [.int x1]) (rest := []) dX3_needToRead_2 rfl gX3_needToRead_X3_needState rfl (by decide +kernel) rfl (by decide) b9 (Nat.le_of_ble_eq_true rfl) k9 w9 F (kVX_kk (fun h_1 F => ?_)) (fun _ _ q9 => kVX_x q9)
  refine J_aload_n dX3_needToRead_5 0 rfl ?_
  obtain ⟨p_4, g9, F⟩ := F
  refine J_get (ci := 3) (k := 1) dX3_needToRead_6 rfl in_X3_needToRead_3 (by decide) lk_X3_needToRead_16 g9 ?_
  obtain ⟨p_5, g9, F⟩ := F
  refine J_get (ci := 2) (k := 2) dX3_needToRead_9 rfl in_X3_needToRead_2 (by decide) lk_X3_needToRead_53 g9 ?_
  refine J_iload_n dX3_needToRead_12 1 rfl ?_
  obtain ⟨v_6, g9, F⟩ := F
  refine J_iald dX3_needToRead_13 g9 ?_
  refine J_iload_n dX3_needToRead_14 2 rfl ?_
  refine J_icmp_eq (tgt := 41) dX3_needToRead_15 (by decide) (fun c => ?_) (fun c => ?_)
  · replace F := F.1 c
    refine J_aload_n dX3_needToRead_41 0 rfl ?_
    obtain ⟨b9, F⟩ := F
    obtain ⟨c_8, w_9, k9, w9, F⟩ := F
    refine J_callV (ci := 3) (n := 0) (As := []) (rest := []) dX3_needToRead_42 rfl gX3_needToRead_X3_needKey rfl (by decide +kernel) rfl (by decide) b9 (Nat.le_of_ble_eq_true rfl) k9 w9 F (kVX_kk (fun h_7 F => ?_)) (fun _ _ q9 => kVX_x q9)
    obtain ⟨k9, F⟩ := F
    exact J_vret dX3_needToRead_45 rfl k9.1 k9.2 F
  · replace F := F.2 c
    refine J_aload_n dX3_needToRead_18 0 rfl ?_
    obtain ⟨p_10, g9, F⟩ := F
    refine J_get (ci := 3) (k := 1) dX3_needToRead_19 rfl in_X3_needToRead_3 (by decide) lk_X3_needToRead_16 g9 ?_
    obtain ⟨p_11, g9, F⟩ := F
    refine J_get (ci := 2) (k := 2) dX3_needToRead_22 rfl in_X3_needToRead_2 (by decide) lk_X3_needToRead_53 g9 ?_
    refine J_iload_n dX3_needToRead_25 1 rfl ?_
    obtain ⟨v_12, g9, F⟩ := F
    refine J_iald dX3_needToRead_26 g9 ?_
    refine J_iload_n dX3_needToRead_27 3 rfl ?_
    refine J_icmp_eq (tgt := 41) dX3_needToRead_28 (by decide) (fun c => ?_) (fun c => ?_)
    · replace F := F.1 c
      refine J_aload_n dX3_needToRead_41 0 rfl ?_
      obtain ⟨b9, F⟩ := F
      obtain ⟨c_14, w_15, k9, w9, F⟩ := F
      refine J_callV (ci := 3) (n := 0) (As := []) (rest := []) dX3_needToRead_42 rfl gX3_needToRead_X3_needKey rfl (by decide +kernel) rfl (by decide) b9 (Nat.le_of_ble_eq_true rfl) k9 w9 F (kVX_kk (fun h_13 F => ?_)) (fun _ _ q9 => kVX_x q9)
      obtain ⟨k9, F⟩ := F
      exact J_vret dX3_needToRead_45 rfl k9.1 k9.2 F
    · replace F := F.2 c
      exact J_throw (text := "the state has another kind") (names := ["java/lang/RuntimeException", "java/lang/Exception"]) dX3_needToRead_31 dX3_needToRead_34 dX3_needToRead_35 dX3_needToRead_37 dX3_needToRead_40 (by decide) (by decide) wd_X3_needToRead_k246 wd_X3_needToRead_i_IllegalArgumentException (by decide +kernel) at_X3_needToRead_250 atn_250 (by decide +kernel) gd_246_250 (by decide) (Nat.le_of_ble_eq_true rfl) F.1 F.2.1 F.2.2

abbrev mX3_get (l : Launch) (K : Kx) (mc ms : Nat) (As : List Value) (h : Hp) (Post : Rs → Hp → Prop) : Prop := MX l K yX3_get wsX3_get 8 134 mc ms As h Post
set_option maxRecDepth 100000 in
set_option maxHeartbeats 4000000 in
theorem fX3_get {l : Launch} {K : Kx} {mc ms : Nat} {a0 : Nat} {x1 : Int32} {x2 : Int64} {h : Hp} {Post : Rs → Hp → Prop} (htr : l.stackTraces = false)
    (F : ((∃ fs, h a0 = some (xO 3 fs)) ∧ (∃ c_2 w_3, 0 + c_2 ≤ mc ∧ 0 + w_3 ≤ ms ∧ mX3_needToRead l K c_2 w_3 [.ref a0, .int x1, .int (nI 2), .int (nI 2)] h (kVX (fun h_1 => ((∃ fs, h_1 a0 = some (xO 3 fs)) ∧ (∃ c_5 w_6, (0 + c_2) + c_5 ≤ mc ∧ (0 + w_3) + w_6 ≤ ms ∧ mX3_entryAtHand l K c_5 w_6 [.ref a0, .int x1] h_1 (kQ (fun o_7 h_4 => (∃ a_8, o_7 = some a_8 ∧ ((∃ fs, h_4 a_8 = some (xO 0 fs)) ∧ (((0 + c_2) + c_5) + 0 ≤ mc ∧ ((0 + w_3) + w_6) + 0 ≤ ms ∧ mX0_placeOf l K [.ref a_8, .long x2] h_4 (kI (fun v_10 h_9 => ((∃ fs, h_9 a_8 = some (xO 0 fs)) ∧ ((((0 + c_2) + c_5) + 0) + 0 ≤ mc ∧ (((0 + w_3) + w_6) + 0) + 0 ≤ ms ∧ mX0_hasMember l K [.ref a_8, .int v_10, .long x2] h_9 (kI (fun v_12 h_11 => ((¬ v_12 = nI 0 → (∃ p_13, gf h_11 a_8 0 3 = some (.ref p_13) ∧ (∃ u_14, aJ K h_11 p_13 v_10 = some u_14 ∧ ((((((0 + c_2) + c_5) + 0) + 0) ≤ mc ∧ ((((0 + w_3) + w_6) + 0) + 0) ≤ ms) ∧ Post (.inl (some (.long u_14))) h_11)))) ∧ (v_12 = nI 0 → (((((0 + c_2) + c_5) + 0) + 0) + 1 ≤ mc ∧ ((((0 + w_3) + w_6) + 0) + 0) + 6 ≤ ms ∧ Post (.inr "java/util/NoSuchElementException") h_11))))))))))))))))) (fun E9 h9 => Post (.inr E9) h9))))) :
    mX3_get l K mc ms [.ref a0, .int x1, .long x2] h Post := by
  refine MX.enter htr (by decide) rfl (Nat.le_of_ble_eq_true rfl) ?_
  refine J_lveq (lv' := [(0, .ref a0), (1, .int x1), (2, .long x2)]) rfl ?_
  refine J_aload_n dX3_get_0 0 rfl ?_
  refine J_iload_n dX3_get_1 1 rfl ?_
  refine J_iconst (v := nI 2) dX3_get_2 (by decide) ?_
  refine J_iconst (v := nI 2) dX3_get_3 (by decide) ?_
  obtain ⟨b9, F⟩ := F
  obtain ⟨c_2, w_3, k9, w9, F⟩ := F
  refine J_callV (ci := 3) (n := 3) (As := [.int x1, .int (nI 2), .int (nI 2)]) (rest := []) dX3_get_4 rfl gX3_get_X3_needToRead rfl (by decide +kernel) rfl (by decide) b9 (Nat.le_of_ble_eq_true rfl) k9 w9 F (kVX_kk (fun h_1 F => ?_)) (fun _ _ q9 => kVX_x q9)
  refine J_aload_n dX3_get_7 0 rfl ?_
  refine J_iload_n dX3_get_8 1 rfl ?_
  obtain ⟨b9, F⟩ := F
  obtain ⟨c_5, w_6, k9, w9, F⟩ := F
  refine J_callV0 (ci := 3) (n := 1) (As := [.int x1]) (rest := []) dX3_get_9 rfl gX3_get_X3_entryAtHand rfl (by decide +kernel) rfl (by decide) b9 (Nat.le_of_ble_eq_true rfl) k9 w9 F kQ_no (kQ_kk (fun o_7 h_4 F => ?_))
  refine J_astoreq (lv' := [(4, va_rf o_7), (0, .ref a0), (1, .int x1), (2, .long x2)]) dX3_get_12 (by decide) rfl ?_
  refine J_aloadq dX3_get_14 0 rfl ?_
  refine J_lload_n dX3_get_16 3 rfl ?_
  obtain ⟨a_8, hq9, F⟩ := F
  rw [hq9]
  obtain ⟨b9, F⟩ := F
  obtain ⟨k9, w9, F⟩ := F
  refine J_callV0 (ci := 0) (n := 1) (As := [.long x2]) (rest := []) dX3_get_17 rfl gX3_get_X0_placeOf rfl (by decide +kernel) rfl (by decide) b9 (Nat.le_of_ble_eq_true rfl) k9 w9 F kI_no (kI_kk (fun v_10 h_9 F => ?_))
  refine J_istore (lv' := [(5, .int v_10), (4, .ref a_8), (0, .ref a0), (1, .int x1), (2, .long x2)]) dX3_get_20 (by decide) rfl ?_
  refine J_aload dX3_get_22 1 rfl ?_
  refine J_iload dX3_get_24 0 rfl ?_
  refine J_lload_n dX3_get_26 4 rfl ?_
  obtain ⟨b9, F⟩ := F
  obtain ⟨k9, w9, F⟩ := F
  refine J_callV0 (ci := 0) (n := 2) (As := [.int v_10, .long x2]) (rest := []) dX3_get_27 rfl gX3_get_X0_hasMember rfl (by decide +kernel) rfl (by decide) b9 (Nat.le_of_ble_eq_true rfl) k9 w9 F kI_no (kI_kk (fun v_12 h_11 F => ?_))
  refine J_if_ne (tgt := 43) dX3_get_30 (by decide) (fun c => ?_) (fun c => ?_)
  · replace F := F.1 c
    refine J_aload dX3_get_43 1 rfl ?_
    obtain ⟨p_13, g9, F⟩ := F
    refine J_get (ci := 0) (k := 3) dX3_get_45 rfl in_X3_get_0 (by decide) lk_X3_get_100 g9 ?_
    refine J_iload dX3_get_48 0 rfl ?_
    obtain ⟨u_14, g9, F⟩ := F
    refine J_lald dX3_get_50 g9 ?_
    obtain ⟨k9, F⟩ := F
    exact J_lret dX3_get_51 rfl k9.1 k9.2 F
  · replace F := F.2 c
    exact J_throw (text := "the member is not there") (names := ["java/lang/RuntimeException", "java/lang/Exception"]) dX3_get_33 dX3_get_36 dX3_get_37 dX3_get_39 dX3_get_42 (by decide) (by decide) wd_X3_get_k93 wd_X3_get_i_NoSuchElementException (by decide +kernel) at_X3_get_97 atn_97 (by decide +kernel) gd_93_97 (by decide) (Nat.le_of_ble_eq_true rfl) F.1 F.2.1 F.2.2

abbrev mX3_init (l : Launch) (K : Kx) (mc ms : Nat) (As : List Value) (h : Hp) (Post : Rs → Hp → Prop) : Prop := MX l K yX3_init wsX3_init 3 101 mc ms As h Post
set_option maxRecDepth 100000 in
set_option maxHeartbeats 4000000 in
theorem fX3_init {l : Launch} {K : Kx} {mc ms : Nat} {a0 : Nat} {h : Hp} {Post : Rs → Hp → Prop} (htr : l.stackTraces = false)
    (F : (∃ N_3, nI 8 = nI N_3 ∧ N_3 ≤ 60000000 ∧ 0 + 1 ≤ mc ∧ 0 + N_3 ≤ ms ∧ ∀ (q_1 : Nat) (h_2 : Hp), h q_1 = none → kB K ≤ q_1 → h_2 = va_up h q_1 (some (xI K N_3 (fun _ => 0))) → (∃ h_4, pf h_2 a0 3 0 (.ref q_1) = some h_4 ∧ ((0 + 1) + 1 ≤ mc ∧ (0 + N_3) + 5 ≤ ms ∧ ∀ (q_5 : Nat) (h_6 : Hp), h_4 q_5 = none → kB K ≤ q_5 → h_6 = va_up h_4 q_5 (some (xO 2 [.int 0, .null, .null, .null, .int 0])) → (∃ c_8 w_9, ((0 + 1) + 1) + c_8 ≤ mc ∧ ((0 + N_3) + 5) + w_9 ≤ ms ∧ mX2_init l K c_8 w_9 [.ref q_5] h_6 (kV (fun h_7 => (∃ h_10, pf h_7 a0 3 1 (.ref q_5) = some h_10 ∧ (∃ N_13, nI 6 = nI N_13 ∧ N_13 ≤ 60000000 ∧ (((0 + 1) + 1) + c_8) + 1 ≤ mc ∧ (((0 + N_3) + 5) + w_9) + N_13 ≤ ms ∧ ∀ (q_11 : Nat) (h_12 : Hp), h_10 q_11 = none → kB K ≤ q_11 → h_12 = va_up h_10 q_11 (some (xQ K 5 N_13 (fun _ => none))) → (∃ h_14, pf h_12 a0 3 2 (.ref q_11) = some h_14 ∧ (∃ N_17, nI 150 = nI N_17 ∧ N_17 ≤ 60000000 ∧ ((((0 + 1) + 1) + c_8) + 1) + 1 ≤ mc ∧ ((((0 + N_3) + 5) + w_9) + N_13) + N_17 ≤ ms ∧ ∀ (q_15 : Nat) (h_16 : Hp), h_14 q_15 = none → kB K ≤ q_15 → h_16 = va_up h_14 q_15 (some (xJ K N_17 (fun _ => 0))) → (∃ h_18, pf h_16 a0 3 3 (.ref q_15) = some h_18 ∧ (∃ h_19, pf h_18 a0 3 4 (.int (nI 0)) = some h_19 ∧ (∃ h_20, pf h_19 a0 3 5 (.int (nI 0)) = some h_20 ∧ (∃ h_21, pf h_20 a0 3 6 (.int (nI 0)) = some h_21 ∧ (∃ h_22, pf h_21 a0 3 7 (.long (lN 0)) = some h_22 ∧ (∃ h_23, pf h_22 a0 3 8 (.int (nI 0)) = some h_23 ∧ (((((((0 + 1) + 1) + c_8) + 1) + 1) ≤ mc ∧ (((((0 + N_3) + 5) + w_9) + N_13) + N_17) ≤ ms) ∧ Post (.inl none) h_23)))))))))))))))))) :
    mX3_init l K mc ms [.ref a0] h Post := by
  refine MX.enter htr (by decide) rfl (Nat.le_of_ble_eq_true rfl) ?_
  refine J_lveq (lv' := [(0, .ref a0)]) rfl ?_
  refine J_aload_n dX3_init_0 0 rfl ?_
  refine J_objInit dX3_init_1 wd_X3_init_m1 wd_X3_init_oi wd_X3_init_oc (by decide) (Nat.le_of_ble_eq_true rfl) ?_
  refine J_aload_n dX3_init_4 0 rfl ?_
  refine J_bipush (v := nI 8) dX3_init_5 (by decide) ?_
  obtain ⟨N_3, e9, b9, k9, w9, F⟩ := F
  refine J_newa (t := 0) (N' := N_3) (a0 := (N_3, .inl (fun _ => 0))) dX3_init_7 wd_X3_init_a0 rfl rfl ra_i (fun _ => rfl) e9 b9 (by decide) k9 w9 (fun q_1 h9 i9 => ?_)
  replace F := F q_1 _ h9 i9 rfl
  generalize va_up h q_1 (some (xI K N_3 (fun _ => 0))) = h_2 at F ⊢
  obtain ⟨h_4, g9, F⟩ := F
  refine J_putF (ci := 3) (k := 0) dX3_init_9 rfl in_X3_init_3 tyX3 tyX3_ok nmX3 (by decide) lk_X3_init_9 rfl rfl rfl rfl rfl rfl g9 ?_
  refine J_aload_n dX3_init_12 0 rfl ?_
  obtain ⟨k9, w9, F⟩ := F
  refine J_new (ci := 2) (fs := [.int 0, .null, .null, .null, .int 0]) dX3_init_13 rfl in_X3_init_2 tyX2 tyX2_ok wd_X3_init_k13 wd_X3_init_n2 wd_X3_init_i2 dfX2 k9 w9 (fun q_5 h9 i9 => ?_)
  replace F := F q_5 _ h9 i9 rfl
  generalize va_up h_4 q_5 (some (xO 2 [.int 0, .null, .null, .null, .int 0])) = h_6 at F ⊢
  refine J_dup dX3_init_16 (rfl) ?_
  obtain ⟨c_8, w_9, k9, w9, F⟩ := F
  refine J_callI (n := 0) (As := []) (rest := [.ref q_5, .ref a0]) dX3_init_17 gX3_init_X2_init rfl wd_X3_init_iRX2 wd_X3_init_ml15 wd_X3_init_im_X2_init rfl (by decide +kernel) rfl (by decide) (Nat.le_of_ble_eq_true rfl) k9 w9 F kV_no (kV_kk (fun h_7 F => ?_))
  obtain ⟨h_10, g9, F⟩ := F
  refine J_putF (ci := 3) (k := 1) dX3_init_20 rfl in_X3_init_3 tyX3 tyX3_ok nmX3 (by decide) lk_X3_init_16 rfl rfl rfl rfl rfl rfl g9 ?_
  refine J_aload_n dX3_init_23 0 rfl ?_
  refine J_bipush (v := nI 6) dX3_init_24 (by decide) ?_
  obtain ⟨N_13, e9, b9, k9, w9, F⟩ := F
  refine J_anew (t := 5) (N' := N_13) dX3_init_26 wd_X3_init_k13 rfl (fun U k9 => k9.2.2.2.2.2.2.2.2.2.2.2.1) e9 b9 k9 w9 (fun q_11 h9 i9 => ?_)
  replace F := F q_11 _ h9 i9 rfl
  generalize va_up h_10 q_11 (some (xQ K 5 N_13 (fun _ => none))) = h_12 at F ⊢
  obtain ⟨h_14, g9, F⟩ := F
  refine J_putF (ci := 3) (k := 2) dX3_init_29 rfl in_X3_init_3 tyX3 tyX3_ok nmX3 (by decide) lk_X3_init_20 rfl rfl rfl rfl rfl rfl g9 ?_
  refine J_aload_n dX3_init_32 0 rfl ?_
  refine J_sipush (v := nI 150) dX3_init_33 (by decide) ?_
  obtain ⟨N_17, e9, b9, k9, w9, F⟩ := F
  refine J_newa (t := 1) (N' := N_17) (a0 := (N_17, .inr (.inl (fun _ => 0)))) dX3_init_36 wd_X3_init_a1 rfl rfl ra_j (fun _ => rfl) e9 b9 (by decide) k9 w9 (fun q_15 h9 i9 => ?_)
  replace F := F q_15 _ h9 i9 rfl
  generalize va_up h_14 q_15 (some (xJ K N_17 (fun _ => 0))) = h_16 at F ⊢
  obtain ⟨h_18, g9, F⟩ := F
  refine J_putF (ci := 3) (k := 3) dX3_init_38 rfl in_X3_init_3 tyX3 tyX3_ok nmX3 (by decide) lk_X3_init_24 rfl rfl rfl rfl rfl rfl g9 ?_
  refine J_aload_n dX3_init_41 0 rfl ?_
  refine J_iconst (v := nI 0) dX3_init_42 (by decide) ?_
  obtain ⟨h_19, g9, F⟩ := F
  refine J_put (ci := 3) (k := 4) dX3_init_43 rfl in_X3_init_3 tyX3 tyX3_ok nmX3 (by decide) lk_X3_init_28 rfl rfl rfl rfl g9 ?_
  refine J_aload_n dX3_init_46 0 rfl ?_
  refine J_iconst (v := nI 0) dX3_init_47 (by decide) ?_
  obtain ⟨h_20, g9, F⟩ := F
  refine J_put (ci := 3) (k := 5) dX3_init_48 rfl in_X3_init_3 tyX3 tyX3_ok nmX3 (by decide) lk_X3_init_32 rfl rfl rfl rfl g9 ?_
  refine J_aload_n dX3_init_51 0 rfl ?_
  refine J_iconst (v := nI 0) dX3_init_52 (by decide) ?_
  obtain ⟨h_21, g9, F⟩ := F
  refine J_put (ci := 3) (k := 6) dX3_init_53 rfl in_X3_init_3 tyX3 tyX3_ok nmX3 (by decide) lk_X3_init_35 rfl rfl rfl rfl g9 ?_
  refine J_aload_n dX3_init_56 0 rfl ?_
  refine J_lconst (v := lN 0) dX3_init_57 rfl ?_
  obtain ⟨h_22, g9, F⟩ := F
  refine J_put (ci := 3) (k := 7) dX3_init_58 rfl in_X3_init_3 tyX3 tyX3_ok nmX3 (by decide) lk_X3_init_39 rfl rfl rfl rfl g9 ?_
  refine J_aload_n dX3_init_61 0 rfl ?_
  refine J_iconst (v := nI 0) dX3_init_62 (by decide) ?_
  obtain ⟨h_23, g9, F⟩ := F
  refine J_put (ci := 3) (k := 8) dX3_init_63 rfl in_X3_init_3 tyX3 tyX3_ok nmX3 (by decide) lk_X3_init_43 rfl rfl rfl rfl g9 ?_
  obtain ⟨k9, F⟩ := F
  exact J_vret dX3_init_66 rfl k9.1 k9.2 F

abbrev mX3_isKindAndType (l : Launch) (K : Kx) (As : List Value) (h : Hp) (Post : Rs → Hp → Prop) : Prop := MX l K yX3_isKindAndType wsX3_isKindAndType 0 0 0 0 As h Post
set_option maxRecDepth 100000 in
set_option maxHeartbeats 4000000 in
theorem fX3_isKindAndType {l : Launch} {K : Kx} {x1 : Int32} {x2 : Int32} {h : Hp} {Post : Rs → Hp → Prop} (htr : l.stackTraces = false)
    (F : ((x1 < nI 0 → (Post (.inl (some (.int (nI 0)))) h)) ∧ (¬ x1 < nI 0 → (((nI 4) ≤ x1 → (Post (.inl (some (.int (nI 0)))) h)) ∧ (¬ (nI 4) ≤ x1 → ((x2 < nI 0 → (Post (.inl (some (.int (nI 0)))) h)) ∧ (¬ x2 < nI 0 → (((nI 3) ≤ x2 → (Post (.inl (some (.int (nI 0)))) h)) ∧ (¬ (nI 3) ≤ x2 → (Post (.inl (some (.int (nI 1)))) h)))))))))) :
    mX3_isKindAndType l K [.int x1, .int x2] h Post := by
  refine MX.enter htr (by decide) rfl (Nat.le_of_ble_eq_true rfl) ?_
  refine J_lveq (lv' := [(0, .int x1), (1, .int x2)]) rfl ?_
  refine J_iload_n dX3_isKindAndType_0 0 rfl ?_
  refine J_if_lt (tgt := 22) dX3_isKindAndType_1 (by decide) (fun c => ?_) (fun c => ?_)
  · replace F := F.1 c
    refine J_iconst (v := nI 0) dX3_isKindAndType_22 (by decide) ?_
    exact J_zret dX3_isKindAndType_23 rfl (by decide) (Nat.le_refl _) (Nat.le_refl _) F
  · replace F := F.2 c
    refine J_iload_n dX3_isKindAndType_4 0 rfl ?_
    refine J_iconst (v := nI 4) dX3_isKindAndType_5 (by decide) ?_
    refine J_icmp_ge (tgt := 22) dX3_isKindAndType_6 (by decide) (fun c => ?_) (fun c => ?_)
    · replace F := F.1 c
      refine J_iconst (v := nI 0) dX3_isKindAndType_22 (by decide) ?_
      exact J_zret dX3_isKindAndType_23 rfl (by decide) (Nat.le_refl _) (Nat.le_refl _) F
    · replace F := F.2 c
      refine J_iload_n dX3_isKindAndType_9 1 rfl ?_
      refine J_if_lt (tgt := 22) dX3_isKindAndType_10 (by decide) (fun c => ?_) (fun c => ?_)
      · replace F := F.1 c
        refine J_iconst (v := nI 0) dX3_isKindAndType_22 (by decide) ?_
        exact J_zret dX3_isKindAndType_23 rfl (by decide) (Nat.le_refl _) (Nat.le_refl _) F
      · replace F := F.2 c
        refine J_iload_n dX3_isKindAndType_13 1 rfl ?_
        refine J_iconst (v := nI 3) dX3_isKindAndType_14 (by decide) ?_
        refine J_icmp_ge (tgt := 22) dX3_isKindAndType_15 (by decide) (fun c => ?_) (fun c => ?_)
        · replace F := F.1 c
          refine J_iconst (v := nI 0) dX3_isKindAndType_22 (by decide) ?_
          exact J_zret dX3_isKindAndType_23 rfl (by decide) (Nat.le_refl _) (Nat.le_refl _) F
        · replace F := F.2 c
          refine J_iconst (v := nI 1) dX3_isKindAndType_18 (by decide) ?_
          refine J_goto (tgt := 23) dX3_isKindAndType_19 (by decide) ?_
          exact J_zret dX3_isKindAndType_23 rfl (by decide) (Nat.le_refl _) (Nat.le_refl _) F

abbrev mX3_numberAt (l : Launch) (K : Kx) (mc ms : Nat) (As : List Value) (h : Hp) (Post : Rs → Hp → Prop) : Prop := MX l K yX3_numberAt wsX3_numberAt 6 90 mc ms As h Post
set_option maxRecDepth 100000 in
set_option maxHeartbeats 4000000 in
theorem fX3_numberAt {l : Launch} {K : Kx} {mc ms : Nat} {x1 : Nat} {x2 : Int32} {h : Hp} {Post : Rs → Hp → Prop} (htr : l.stackTraces = false)
    (F : ((x2 < nI 0 → (0 + 1 ≤ mc ∧ 0 + 6 ≤ ms ∧ Post (.inr "java/lang/IndexOutOfBoundsException") h)) ∧ (¬ x2 < nI 0 → (∃ n_1, alen K 1 h x1 = some n_1 ∧ ((x2 < n_1 → (∃ u_2, aJ K h x1 x2 = some u_2 ∧ ((0 ≤ mc ∧ 0 ≤ ms) ∧ Post (.inl (some (.long u_2))) h))) ∧ (¬ x2 < n_1 → (0 + 1 ≤ mc ∧ 0 + 6 ≤ ms ∧ Post (.inr "java/lang/IndexOutOfBoundsException") h))))))) :
    mX3_numberAt l K mc ms [.ref x1, .int x2] h Post := by
  refine MX.enter htr (by decide) rfl (Nat.le_of_ble_eq_true rfl) ?_
  refine J_lveq (lv' := [(0, .ref x1), (1, .int x2)]) rfl ?_
  refine J_iload_n dX3_numberAt_0 1 rfl ?_
  refine J_if_lt (tgt := 10) dX3_numberAt_1 (by decide) (fun c => ?_) (fun c => ?_)
  · replace F := F.1 c
    exact J_throwW (text := "none such") (names := ["java/lang/RuntimeException", "java/lang/Exception"]) dX3_numberAt_10 dX3_numberAt_13 dX3_numberAt_14 dX3_numberAt_17 dX3_numberAt_20 (by decide) (by decide) wd_X3_numberAt_k172 wd_X3_numberAt_i_IndexOutOfBoundsException (by decide +kernel) at_X3_numberAt_176 atn_176 (by decide +kernel) gd_172_176 (by decide) (Nat.le_of_ble_eq_true rfl) F.1 F.2.1 F.2.2
  · replace F := F.2 c
    refine J_iload_n dX3_numberAt_4 1 rfl ?_
    refine J_aload_n dX3_numberAt_5 0 rfl ?_
    obtain ⟨n_1, g9, F⟩ := F
    refine J_alen (t := 1) dX3_numberAt_6 rfl g9 ?_
    refine J_icmp_lt (tgt := 21) dX3_numberAt_7 (by decide) (fun c => ?_) (fun c => ?_)
    · replace F := F.1 c
      refine J_aload_n dX3_numberAt_21 0 rfl ?_
      refine J_iload_n dX3_numberAt_22 1 rfl ?_
      obtain ⟨u_2, g9, F⟩ := F
      refine J_lald dX3_numberAt_23 g9 ?_
      obtain ⟨k9, F⟩ := F
      exact J_lret dX3_numberAt_24 rfl k9.1 k9.2 F
    · replace F := F.2 c
      exact J_throwW (text := "none such") (names := ["java/lang/RuntimeException", "java/lang/Exception"]) dX3_numberAt_10 dX3_numberAt_13 dX3_numberAt_14 dX3_numberAt_17 dX3_numberAt_20 (by decide) (by decide) wd_X3_numberAt_k172 wd_X3_numberAt_i_IndexOutOfBoundsException (by decide +kernel) at_X3_numberAt_176 atn_176 (by decide +kernel) gd_172_176 (by decide) (Nat.le_of_ble_eq_true rfl) F.1 F.2.1 F.2.2

abbrev mX3_item (l : Launch) (K : Kx) (mc ms : Nat) (As : List Value) (h : Hp) (Post : Rs → Hp → Prop) : Prop := MX l K yX3_item wsX3_item 8 134 mc ms As h Post
set_option maxRecDepth 100000 in
set_option maxHeartbeats 4000000 in
theorem fX3_item {l : Launch} {K : Kx} {mc ms : Nat} {a0 : Nat} {x1 : Int32} {x2 : Int32} {h : Hp} {Post : Rs → Hp → Prop} (htr : l.stackTraces = false)
    (F : ((∃ fs, h a0 = some (xO 3 fs)) ∧ (∃ c_2 w_3, 0 + c_2 ≤ mc ∧ 0 + w_3 ≤ ms ∧ mX3_needToRead l K c_2 w_3 [.ref a0, .int x1, .int (nI 1), .int (nI 2)] h (kVX (fun h_1 => ((∃ fs, h_1 a0 = some (xO 3 fs)) ∧ (∃ c_5 w_6, (0 + c_2) + c_5 ≤ mc ∧ (0 + w_3) + w_6 ≤ ms ∧ mX3_entryAtHand l K c_5 w_6 [.ref a0, .int x1] h_1 (kQ (fun o_7 h_4 => (∃ a_8, o_7 = some a_8 ∧ (∃ p_9, gf h_4 a_8 0 3 = some (.ref p_9) ∧ (∃ c_11 w_12, ((0 + c_2) + c_5) + c_11 ≤ mc ∧ ((0 + w_3) + w_6) + w_12 ≤ ms ∧ mX3_numberAt l K c_11 w_12 [.ref p_9, .int x2] h_4 (kLX (fun u_13 h_10 => (((((0 + c_2) + c_5) + c_11) ≤ mc ∧ (((0 + w_3) + w_6) + w_12) ≤ ms) ∧ Post (.inl (some (.long u_13))) h_10)) (fun E9 h9 => Post (.inr E9) h9)))))))))) (fun E9 h9 => Post (.inr E9) h9))))) :
    mX3_item l K mc ms [.ref a0, .int x1, .int x2] h Post := by
  refine MX.enter htr (by decide) rfl (Nat.le_of_ble_eq_true rfl) ?_
  refine J_lveq (lv' := [(0, .ref a0), (1, .int x1), (2, .int x2)]) rfl ?_
  refine J_aload_n dX3_item_0 0 rfl ?_
  refine J_iload_n dX3_item_1 1 rfl ?_
  refine J_iconst (v := nI 1) dX3_item_2 (by decide) ?_
  refine J_iconst (v := nI 2) dX3_item_3 (by decide) ?_
  obtain ⟨b9, F⟩ := F
  obtain ⟨c_2, w_3, k9, w9, F⟩ := F
  refine J_callV (ci := 3) (n := 3) (As := [.int x1, .int (nI 1), .int (nI 2)]) (rest := []) dX3_item_4 rfl gX3_item_X3_needToRead rfl (by decide +kernel) rfl (by decide) b9 (Nat.le_of_ble_eq_true rfl) k9 w9 F (kVX_kk (fun h_1 F => ?_)) (fun _ _ q9 => kVX_x q9)
  refine J_aload_n dX3_item_7 0 rfl ?_
  refine J_iload_n dX3_item_8 1 rfl ?_
  obtain ⟨b9, F⟩ := F
  obtain ⟨c_5, w_6, k9, w9, F⟩ := F
  refine J_callV0 (ci := 3) (n := 1) (As := [.int x1]) (rest := []) dX3_item_9 rfl gX3_item_X3_entryAtHand rfl (by decide +kernel) rfl (by decide) b9 (Nat.le_of_ble_eq_true rfl) k9 w9 F kQ_no (kQ_kk (fun o_7 h_4 F => ?_))
  obtain ⟨a_8, hq9, F⟩ := F
  rw [hq9]
  obtain ⟨p_9, g9, F⟩ := F
  refine J_get (ci := 0) (k := 3) dX3_item_12 rfl in_X3_item_0 (by decide) lk_X3_item_100 g9 ?_
  refine J_iload_n dX3_item_15 2 rfl ?_
  obtain ⟨c_11, w_12, k9, w9, F⟩ := F
  refine J_callS (n := 2) (As := [.ref p_9, .int x2]) (rest := []) dX3_item_16 gX3_item_X3_numberAt rfl (by decide +kernel) rfl (by decide) (Nat.le_of_ble_eq_true rfl) k9 w9 F (kLX_kk (fun u_13 h_10 F => ?_)) (fun _ _ q9 => kLX_x q9)
  obtain ⟨k9, F⟩ := F
  exact J_lret dX3_item_19 rfl k9.1 k9.2 F

abbrev mX3_key (l : Launch) (K : Kx) (As : List Value) (h : Hp) (Post : Rs → Hp → Prop) : Prop := MX l K yX3_key wsX3_key 0 0 0 0 As h Post
set_option maxRecDepth 100000 in
set_option maxHeartbeats 4000000 in
theorem fX3_key {l : Launch} {K : Kx} {a0 : Nat} {x1 : Int64} {h : Hp} {Post : Rs → Hp → Prop} (htr : l.stackTraces = false)
    (F : (∃ h_1, pf h a0 3 6 (.int (nI 1)) = some h_1 ∧ (∃ h_2, pf h_1 a0 3 7 (.long x1) = some h_2 ∧ (Post (.inl none) h_2)))) :
    mX3_key l K [.ref a0, .long x1] h Post := by
  refine MX.enter htr (by decide) rfl (Nat.le_of_ble_eq_true rfl) ?_
  refine J_lveq (lv' := [(0, .ref a0), (1, .long x1)]) rfl ?_
  refine J_aload_n dX3_key_0 0 rfl ?_
  refine J_iconst (v := nI 1) dX3_key_1 (by decide) ?_
  obtain ⟨h_1, g9, F⟩ := F
  refine J_put (ci := 3) (k := 6) dX3_key_2 rfl in_X3_key_3 tyX3 tyX3_ok nmX3 (by decide) lk_X3_key_35 rfl rfl rfl rfl g9 ?_
  refine J_aload_n dX3_key_5 0 rfl ?_
  refine J_lload_n dX3_key_6 1 rfl ?_
  obtain ⟨h_2, g9, F⟩ := F
  refine J_put (ci := 3) (k := 7) dX3_key_7 rfl in_X3_key_3 tyX3 tyX3_ok nmX3 (by decide) lk_X3_key_39 rfl rfl rfl rfl g9 ?_
  exact J_vret dX3_key_10 rfl (Nat.le_refl _) (Nat.le_refl _) F

abbrev mX3_sortKeys (l : Launch) (K : Kx) (As : List Value) (h : Hp) (Post : Rs → Hp → Prop) : Prop := MX l K yX3_sortKeys wsX3_sortKeys 2 87 0 0 As h Post
set_option maxRecDepth 100000 in
set_option maxHeartbeats 4000000 in
theorem fX3_sortKeys {l : Launch} {K : Kx} {a0 : Nat} {x1 : Int32} {h : Hp} {Post : Rs → Hp → Prop} (htr : l.stackTraces = false)
    (F : (∀ X_4 : Int32 → Int32 → Hp → Prop, (∀ (i_1 : Int32) (i_2 : Int32) (h_3 : Hp), ((((nI 16) ≤ i_2 → (Post (.inl (some (.int i_1))) h_3)) ∧ (¬ (nI 16) ≤ i_2 → (∃ p_5, gf h_3 a0 3 1 = some (.ref p_5) ∧ (∃ p_6, gf h_3 p_5 2 1 = some (.ref p_6) ∧ (∃ o_7, aQ K 4 h_3 p_6 i_2 = some o_7 ∧ (∃ p_8, gf h_3 a0 3 3 = some (.ref p_8) ∧ (∃ v_9, gf h_3 a0 3 8 = some (.int v_9) ∧ (∃ a_10, o_7 = some a_10 ∧ ((∃ fs, h_3 a_10 = some (xO 1 fs)) ∧ mX1_sortKeysInto l K [.ref a_10, .ref p_8, .int i_1, .int x1, .int v_9] h_3 (kI (fun v_12 h_11 => X_4 v_12 (i_2 + nI 1) h_11)))))))))))) → X_4 i_1 i_2 h_3) → X_4 (nI 0) (nI 0) h)) :
    mX3_sortKeys l K [.ref a0, .int x1] h Post := by
  refine MX.enter htr (by decide) rfl (Nat.le_of_ble_eq_true rfl) ?_
  refine J_lveq (lv' := [(0, .ref a0), (1, .int x1)]) rfl ?_
  refine J_iconst (v := nI 0) dX3_sortKeys_0 (by decide) ?_
  refine J_istore_n (lv' := [(2, .int (nI 0)), (0, .ref a0), (1, .int x1)]) dX3_sortKeys_1 rfl (by decide) rfl ?_
  refine J_iconst (v := nI 0) dX3_sortKeys_2 (by decide) ?_
  refine J_istore_n (lv' := [(3, .int (nI 0)), (2, .int (nI 0)), (0, .ref a0), (1, .int x1)]) dX3_sortKeys_3 rfl (by decide) rfl ?_
  refine J_sub [2, 3, 1, 0] rfl ?_
  refine F (fun (i_1 : Int32) (i_2 : Int32) (h_3 : Hp) => J l K yX3_sortKeys.cls cX3_sortKeys 4 (some .int) wsX3_sortKeys [] yX3_sortKeys.name 2 87 0 0 (QM K 0 0 Post) 4 [] [(0, .ref a0), (1, .int x1), (2, .int i_1), (3, .int i_2)] h_3 0 0) ?_
  intro i_1 i_2 h_3 F
  refine J_iload_n dX3_sortKeys_4 3 rfl ?_
  refine J_bipush (v := nI 16) dX3_sortKeys_5 (by decide) ?_
  refine J_icmp_ge (tgt := 39) dX3_sortKeys_7 (by decide) (fun c => ?_) (fun c => ?_)
  · replace F := F.1 c
    refine J_iload_n dX3_sortKeys_39 2 rfl ?_
    exact J_iret dX3_sortKeys_40 rfl (Nat.le_refl _) (Nat.le_refl _) F
  · replace F := F.2 c
    refine J_aload_n dX3_sortKeys_10 0 rfl ?_
    obtain ⟨p_5, g9, F⟩ := F
    refine J_get (ci := 3) (k := 1) dX3_sortKeys_11 rfl in_X3_sortKeys_3 (by decide) lk_X3_sortKeys_16 g9 ?_
    obtain ⟨p_6, g9, F⟩ := F
    refine J_get (ci := 2) (k := 1) dX3_sortKeys_14 rfl in_X3_sortKeys_2 (by decide) lk_X3_sortKeys_151 g9 ?_
    refine J_iload_n dX3_sortKeys_17 3 rfl ?_
    obtain ⟨o_7, g9, F⟩ := F
    refine J_aald (t := 4) dX3_sortKeys_18 rfl g9 ?_
    refine J_aload_n dX3_sortKeys_19 0 rfl ?_
    obtain ⟨p_8, g9, F⟩ := F
    refine J_get (ci := 3) (k := 3) dX3_sortKeys_20 rfl in_X3_sortKeys_3 (by decide) lk_X3_sortKeys_24 g9 ?_
    refine J_iload_n dX3_sortKeys_23 2 rfl ?_
    refine J_iload_n dX3_sortKeys_24 1 rfl ?_
    refine J_aload_n dX3_sortKeys_25 0 rfl ?_
    obtain ⟨v_9, g9, F⟩ := F
    refine J_get (ci := 3) (k := 8) dX3_sortKeys_26 rfl in_X3_sortKeys_3 (by decide) lk_X3_sortKeys_43 g9 ?_
    obtain ⟨a_10, hq9, F⟩ := F
    rw [hq9]
    obtain ⟨b9, F⟩ := F
    refine J_callV0 (ci := 1) (n := 4) (As := [.ref p_8, .int i_1, .int x1, .int v_9]) (rest := []) dX3_sortKeys_29 rfl gX3_sortKeys_X1_sortKeysInto rfl (by decide +kernel) rfl (by decide) b9 (Nat.le_of_ble_eq_true rfl) (Nat.le_refl _) (Nat.le_refl _) F kI_no (kI_kk (fun v_12 h_11 F => ?_))
    refine J_istore_n (lv' := [(2, .int v_12), (0, .ref a0), (1, .int x1), (3, .int i_2)]) dX3_sortKeys_32 rfl (by decide) rfl ?_
    refine J_iinc (v := i_2 + nI 1) (lv' := [(3, .int (i_2 + nI 1)), (2, .int v_12), (0, .ref a0), (1, .int x1)]) dX3_sortKeys_33 3 rfl rfl (by decide) rfl ?_
    refine J_goto (tgt := 4) dX3_sortKeys_36 (by decide) ?_
    exact J_sub [2, 3, 1, 0] rfl F

abbrev mX3_keyAt (l : Launch) (K : Kx) (mc ms : Nat) (As : List Value) (h : Hp) (Post : Rs → Hp → Prop) : Prop := MX l K yX3_keyAt wsX3_keyAt 7 111 mc ms As h Post
set_option maxRecDepth 100000 in
set_option maxHeartbeats 4000000 in
theorem fX3_keyAt {l : Launch} {K : Kx} {mc ms : Nat} {a0 : Nat} {x1 : Int32} {x2 : Int32} {h : Hp} {Post : Rs → Hp → Prop} (htr : l.stackTraces = false)
    (F : ((∃ fs, h a0 = some (xO 3 fs)) ∧ (∃ c_2 w_3, 0 + c_2 ≤ mc ∧ 0 + w_3 ≤ ms ∧ mX3_needState l K c_2 w_3 [.ref a0, .int x1] h (kVX (fun h_1 => ((∃ fs, h_1 a0 = some (xO 3 fs)) ∧ ((0 + c_2) + 0 ≤ mc ∧ (0 + w_3) + 0 ≤ ms ∧ mX3_sortKeys l K [.ref a0, .int x1] h_1 (kI (fun v_5 h_4 => ((x2 < nI 0 → (((0 + c_2) + 0) + 1 ≤ mc ∧ ((0 + w_3) + 0) + 6 ≤ ms ∧ Post (.inr "java/lang/IndexOutOfBoundsException") h_4)) ∧ (¬ x2 < nI 0 → ((x2 < v_5 → (∃ p_6, gf h_4 a0 3 3 = some (.ref p_6) ∧ (∃ u_7, aJ K h_4 p_6 x2 = some u_7 ∧ ((((0 + c_2) + 0) ≤ mc ∧ ((0 + w_3) + 0) ≤ ms) ∧ Post (.inl (some (.long u_7))) h_4)))) ∧ (¬ x2 < v_5 → (((0 + c_2) + 0) + 1 ≤ mc ∧ ((0 + w_3) + 0) + 6 ≤ ms ∧ Post (.inr "java/lang/IndexOutOfBoundsException") h_4)))))))))) (fun E9 h9 => Post (.inr E9) h9))))) :
    mX3_keyAt l K mc ms [.ref a0, .int x1, .int x2] h Post := by
  refine MX.enter htr (by decide) rfl (Nat.le_of_ble_eq_true rfl) ?_
  refine J_lveq (lv' := [(0, .ref a0), (1, .int x1), (2, .int x2)]) rfl ?_
  refine J_aload_n dX3_keyAt_0 0 rfl ?_
  refine J_iload_n dX3_keyAt_1 1 rfl ?_
  obtain ⟨b9, F⟩ := F
  obtain ⟨c_2, w_3, k9, w9, F⟩ := F
  refine J_callV (ci := 3) (n := 1) (As := [.int x1]) (rest := []) dX3_keyAt_2 rfl gX3_keyAt_X3_needState rfl (by decide +kernel) rfl (by decide) b9 (Nat.le_of_ble_eq_true rfl) k9 w9 F (kVX_kk (fun h_1 F => ?_)) (fun _ _ q9 => kVX_x q9)
  refine J_aload_n dX3_keyAt_5 0 rfl ?_
  refine J_iload_n dX3_keyAt_6 1 rfl ?_
  obtain ⟨b9, F⟩ := F
  obtain ⟨k9, w9, F⟩ := F
  refine J_callV0 (ci := 3) (n := 1) (As := [.int x1]) (rest := []) dX3_keyAt_7 rfl gX3_keyAt_X3_sortKeys rfl (by decide +kernel) rfl (by decide) b9 (Nat.le_of_ble_eq_true rfl) k9 w9 F kI_no (kI_kk (fun v_5 h_4 F => ?_))
  refine J_istore_n (lv' := [(3, .int v_5), (0, .ref a0), (1, .int x1), (2, .int x2)]) dX3_keyAt_10 rfl (by decide) rfl ?_
  refine J_iload_n dX3_keyAt_11 3 rfl ?_
  refine J_if_lt (tgt := 20) dX3_keyAt_12 (by decide) (fun c => ?_) (fun c => ?_)
  · replace F := F.1 c
    exact J_throw (text := "no such key") (names := ["java/lang/RuntimeException", "java/lang/Exception"]) dX3_keyAt_20 dX3_keyAt_23 dX3_keyAt_24 dX3_keyAt_26 dX3_keyAt_29 (by decide) (by decide) wd_X3_keyAt_k172 wd_X3_keyAt_i_IndexOutOfBoundsException (by decide +kernel) at_X3_keyAt_176 atn_176 (by decide +kernel) gd_172_176 (by decide) (Nat.le_of_ble_eq_true rfl) F.1 F.2.1 F.2.2
  · replace F := F.2 c
    refine J_iload_n dX3_keyAt_15 3 rfl ?_
    refine J_iload_n dX3_keyAt_16 0 rfl ?_
    refine J_icmp_lt (tgt := 30) dX3_keyAt_17 (by decide) (fun c => ?_) (fun c => ?_)
    · replace F := F.1 c
      refine J_aload_n dX3_keyAt_30 1 rfl ?_
      obtain ⟨p_6, g9, F⟩ := F
      refine J_get (ci := 3) (k := 3) dX3_keyAt_31 rfl in_X3_keyAt_3 (by decide) lk_X3_keyAt_24 g9 ?_
      refine J_iload_n dX3_keyAt_34 3 rfl ?_
      obtain ⟨u_7, g9, F⟩ := F
      refine J_lald dX3_keyAt_35 g9 ?_
      obtain ⟨k9, F⟩ := F
      exact J_lret dX3_keyAt_36 rfl k9.1 k9.2 F
    · replace F := F.2 c
      exact J_throw (text := "no such key") (names := ["java/lang/RuntimeException", "java/lang/Exception"]) dX3_keyAt_20 dX3_keyAt_23 dX3_keyAt_24 dX3_keyAt_26 dX3_keyAt_29 (by decide) (by decide) wd_X3_keyAt_k172 wd_X3_keyAt_i_IndexOutOfBoundsException (by decide +kernel) at_X3_keyAt_176 atn_176 (by decide +kernel) gd_172_176 (by decide) (Nat.le_of_ble_eq_true rfl) F.1 F.2.1 F.2.2

abbrev mX3_keys (l : Launch) (K : Kx) (mc ms : Nat) (As : List Value) (h : Hp) (Post : Rs → Hp → Prop) : Prop := MX l K yX3_keys wsX3_keys 7 111 mc ms As h Post
set_option maxRecDepth 100000 in
set_option maxHeartbeats 4000000 in
theorem fX3_keys {l : Launch} {K : Kx} {mc ms : Nat} {a0 : Nat} {x1 : Int32} {h : Hp} {Post : Rs → Hp → Prop} (htr : l.stackTraces = false)
    (F : ((∃ fs, h a0 = some (xO 3 fs)) ∧ (∃ c_2 w_3, 0 + c_2 ≤ mc ∧ 0 + w_3 ≤ ms ∧ mX3_needState l K c_2 w_3 [.ref a0, .int x1] h (kVX (fun h_1 => ((∃ fs, h_1 a0 = some (xO 3 fs)) ∧ ((0 + c_2) + 0 ≤ mc ∧ (0 + w_3) + 0 ≤ ms ∧ mX3_sortKeys l K [.ref a0, .int x1] h_1 (kI (fun v_5 h_4 => ((((0 + c_2) + 0) ≤ mc ∧ ((0 + w_3) + 0) ≤ ms) ∧ Post (.inl (some (.int v_5))) h_4)))))) (fun E9 h9 => Post (.inr E9) h9))))) :
    mX3_keys l K mc ms [.ref a0, .int x1] h Post := by
  refine MX.enter htr (by decide) rfl (Nat.le_of_ble_eq_true rfl) ?_
  refine J_lveq (lv' := [(0, .ref a0), (1, .int x1)]) rfl ?_
  refine J_aload_n dX3_keys_0 0 rfl ?_
  refine J_iload_n dX3_keys_1 1 rfl ?_
  obtain ⟨b9, F⟩ := F
  obtain ⟨c_2, w_3, k9, w9, F⟩ := F
  refine J_callV (ci := 3) (n := 1) (As := [.int x1]) (rest := []) dX3_keys_2 rfl gX3_keys_X3_needState rfl (by decide +kernel) rfl (by decide) b9 (Nat.le_of_ble_eq_true rfl) k9 w9 F (kVX_kk (fun h_1 F => ?_)) (fun _ _ q9 => kVX_x q9)
  refine J_aload_n dX3_keys_5 0 rfl ?_
  refine J_iload_n dX3_keys_6 1 rfl ?_
  obtain ⟨b9, F⟩ := F
  obtain ⟨k9, w9, F⟩ := F
  refine J_callV0 (ci := 3) (n := 1) (As := [.int x1]) (rest := []) dX3_keys_7 rfl gX3_keys_X3_sortKeys rfl (by decide +kernel) rfl (by decide) b9 (Nat.le_of_ble_eq_true rfl) k9 w9 F kI_no (kI_kk (fun v_5 h_4 F => ?_))
  obtain ⟨k9, F⟩ := F
  exact J_iret dX3_keys_10 rfl k9.1 k9.2 F

abbrev mX3_leave (l : Launch) (K : Kx) (As : List Value) (h : Hp) (Post : Rs → Hp → Prop) : Prop := MX l K yX3_leave wsX3_leave 0 0 0 0 As h Post
set_option maxRecDepth 100000 in
set_option maxHeartbeats 4000000 in
theorem fX3_leave {l : Launch} {K : Kx} {a0 : Nat} {h : Hp} {Post : Rs → Hp → Prop} (htr : l.stackTraces = false)
    (F : (∃ v_1, gf h a0 3 6 = some (.int v_1) ∧ (∃ h_2, pf h a0 3 6 (.int (nI 0)) = some h_2 ∧ ((v_1 = nI 0 ∨ v_1 = nI 1) ∧ Post (.inl (some (.int v_1))) h_2)))) :
    mX3_leave l K [.ref a0] h Post := by
  refine MX.enter htr (by decide) rfl (Nat.le_of_ble_eq_true rfl) ?_
  refine J_lveq (lv' := [(0, .ref a0)]) rfl ?_
  refine J_aload_n dX3_leave_0 0 rfl ?_
  obtain ⟨v_1, g9, F⟩ := F
  refine J_get (ci := 3) (k := 6) dX3_leave_1 rfl in_X3_leave_3 (by decide) lk_X3_leave_35 g9 ?_
  refine J_istore_n (lv' := [(1, .int v_1), (0, .ref a0)]) dX3_leave_4 rfl (by decide) rfl ?_
  refine J_aload_n dX3_leave_5 1 rfl ?_
  refine J_iconst (v := nI 0) dX3_leave_6 (by decide) ?_
  obtain ⟨h_2, g9, F⟩ := F
  refine J_put (ci := 3) (k := 6) dX3_leave_7 rfl in_X3_leave_3 tyX3 tyX3_ok nmX3 (by decide) lk_X3_leave_35 rfl rfl rfl rfl g9 ?_
  refine J_iload_n dX3_leave_10 0 rfl ?_
  exact J_zret dX3_leave_11 rfl F.1 (Nat.le_refl _) (Nat.le_refl _) F.2

abbrev mX3_member (l : Launch) (K : Kx) (mc ms : Nat) (As : List Value) (h : Hp) (Post : Rs → Hp → Prop) : Prop := MX l K yX3_member wsX3_member 8 134 mc ms As h Post
set_option maxRecDepth 100000 in
set_option maxHeartbeats 4000000 in
theorem fX3_member {l : Launch} {K : Kx} {mc ms : Nat} {a0 : Nat} {x1 : Int32} {x2 : Int32} {h : Hp} {Post : Rs → Hp → Prop} (htr : l.stackTraces = false)
    (F : ((∃ fs, h a0 = some (xO 3 fs)) ∧ (∃ c_2 w_3, 0 + c_2 ≤ mc ∧ 0 + w_3 ≤ ms ∧ mX3_needToRead l K c_2 w_3 [.ref a0, .int x1, .int (nI 2), .int (nI 2)] h (kVX (fun h_1 => ((∃ fs, h_1 a0 = some (xO 3 fs)) ∧ (∃ c_5 w_6, (0 + c_2) + c_5 ≤ mc ∧ (0 + w_3) + w_6 ≤ ms ∧ mX3_entryAtHand l K c_5 w_6 [.ref a0, .int x1] h_1 (kQ (fun o_7 h_4 => (∃ a_8, o_7 = some a_8 ∧ (∃ p_9, gf h_4 a_8 0 4 = some (.ref p_9) ∧ (∃ c_11 w_12, ((0 + c_2) + c_5) + c_11 ≤ mc ∧ ((0 + w_3) + w_6) + w_12 ≤ ms ∧ mX3_numberAt l K c_11 w_12 [.ref p_9, .int x2] h_4 (kLX (fun u_13 h_10 => (((((0 + c_2) + c_5) + c_11) ≤ mc ∧ (((0 + w_3) + w_6) + w_12) ≤ ms) ∧ Post (.inl (some (.long u_13))) h_10)) (fun E9 h9 => Post (.inr E9) h9)))))))))) (fun E9 h9 => Post (.inr E9) h9))))) :
    mX3_member l K mc ms [.ref a0, .int x1, .int x2] h Post := by
  refine MX.enter htr (by decide) rfl (Nat.le_of_ble_eq_true rfl) ?_
  refine J_lveq (lv' := [(0, .ref a0), (1, .int x1), (2, .int x2)]) rfl ?_
  refine J_aload_n dX3_member_0 0 rfl ?_
  refine J_iload_n dX3_member_1 1 rfl ?_
  refine J_iconst (v := nI 2) dX3_member_2 (by decide) ?_
  refine J_iconst (v := nI 2) dX3_member_3 (by decide) ?_
  obtain ⟨b9, F⟩ := F
  obtain ⟨c_2, w_3, k9, w9, F⟩ := F
  refine J_callV (ci := 3) (n := 3) (As := [.int x1, .int (nI 2), .int (nI 2)]) (rest := []) dX3_member_4 rfl gX3_member_X3_needToRead rfl (by decide +kernel) rfl (by decide) b9 (Nat.le_of_ble_eq_true rfl) k9 w9 F (kVX_kk (fun h_1 F => ?_)) (fun _ _ q9 => kVX_x q9)
  refine J_aload_n dX3_member_7 0 rfl ?_
  refine J_iload_n dX3_member_8 1 rfl ?_
  obtain ⟨b9, F⟩ := F
  obtain ⟨c_5, w_6, k9, w9, F⟩ := F
  refine J_callV0 (ci := 3) (n := 1) (As := [.int x1]) (rest := []) dX3_member_9 rfl gX3_member_X3_entryAtHand rfl (by decide +kernel) rfl (by decide) b9 (Nat.le_of_ble_eq_true rfl) k9 w9 F kQ_no (kQ_kk (fun o_7 h_4 F => ?_))
  obtain ⟨a_8, hq9, F⟩ := F
  rw [hq9]
  obtain ⟨p_9, g9, F⟩ := F
  refine J_get (ci := 0) (k := 4) dX3_member_12 rfl in_X3_member_0 (by decide) lk_X3_member_122 g9 ?_
  refine J_iload_n dX3_member_15 2 rfl ?_
  obtain ⟨c_11, w_12, k9, w9, F⟩ := F
  refine J_callS (n := 2) (As := [.ref p_9, .int x2]) (rest := []) dX3_member_16 gX3_member_X3_numberAt rfl (by decide +kernel) rfl (by decide) (Nat.le_of_ble_eq_true rfl) k9 w9 F (kLX_kk (fun u_13 h_10 F => ?_)) (fun _ _ q9 => kLX_x q9)
  obtain ⟨k9, F⟩ := F
  exact J_lret dX3_member_19 rfl k9.1 k9.2 F

abbrev mX3_move (l : Launch) (K : Kx) (mc ms : Nat) (As : List Value) (h : Hp) (Post : Rs → Hp → Prop) : Prop := MX l K yX3_move wsX3_move 7 155 mc ms As h Post
set_option maxRecDepth 100000 in
set_option maxHeartbeats 4000000 in
theorem fX3_move {l : Launch} {K : Kx} {mc ms : Nat} {a0 : Nat} {x1 : Int32} {x2 : Int32} {x3 : Int32} {h : Hp} {Post : Rs → Hp → Prop} (htr : l.stackTraces = false)
    (F : ((∃ fs, h a0 = some (xO 3 fs)) ∧ (∃ c_2 w_3, 0 + c_2 ≤ mc ∧ 0 + w_3 ≤ ms ∧ mX3_needState l K c_2 w_3 [.ref a0, .int x1] h (kVX (fun h_1 => ((0 + c_2) + 0 ≤ mc ∧ (0 + w_3) + 0 ≤ ms ∧ mX3_isKindAndType l K [.int x2, .int x3] h_1 (kI (fun v_5 h_4 => ((¬ v_5 = nI 0 → (∃ p_6, gf h_4 a0 3 1 = some (.ref p_6) ∧ (∃ p_7, gf h_4 p_6 2 2 = some (.ref p_7) ∧ (∃ v_8, aI K h_4 p_7 x1 = some v_8 ∧ (((0 + c_2) + 0) + 0 ≤ mc ∧ ((0 + w_3) + 0) + 0 ≤ ms ∧ mX3_canMove l K [.int v_8, .int x2] h_4 (kI (fun v_10 h_9 => ((v_10 = nI 0 → (((((0 + c_2) + 0) + 0) ≤ mc ∧ (((0 + w_3) + 0) + 0) ≤ ms) ∧ Post (.inl (some (.int (-nI 3)))) h_9)) ∧ (¬ v_10 = nI 0 → (∃ p_11, gf h_9 a0 3 1 = some (.ref p_11) ∧ ((∃ fs, h_9 p_11 = some (xO 2 fs)) ∧ ((((0 + c_2) + 0) + 0) + 0 ≤ mc ∧ (((0 + w_3) + 0) + 0) + 0 ≤ ms ∧ mX2_allFit l K [.ref p_11, .int x1, .int x2, .int x3] h_9 (kI (fun v_13 h_12 => ((¬ v_13 = nI 0 → (∀ X_19 : Int32 → Int32 → Hp → Nat → Nat → Prop, (∀ (i_14 : Int32) (i_15 : Int32) (h_16 : Hp) (kc_17 : Nat) (ks_18 : Nat), ((((nI 16) ≤ i_15 → (∃ p_20, gf h_16 a0 3 1 = some (.ref p_20) ∧ (∃ p_21, gf h_16 p_20 2 2 = some (.ref p_21) ∧ (∃ h_22, wI K h_16 p_21 x1 x2 = some h_22 ∧ (∃ p_23, gf h_22 a0 3 1 = some (.ref p_23) ∧ (∃ p_24, gf h_22 p_23 2 3 = some (.ref p_24) ∧ (∃ h_25, wI K h_22 p_24 x1 x3 = some h_25 ∧ ((kc_17 ≤ mc ∧ ks_18 ≤ ms) ∧ Post (.inl (some (.int i_14))) h_25)))))))) ∧ (¬ (nI 16) ≤ i_15 → (∃ p_26, gf h_16 a0 3 1 = some (.ref p_26) ∧ (∃ p_27, gf h_16 p_26 2 1 = some (.ref p_27) ∧ (∃ o_28, aQ K 4 h_16 p_27 i_15 = some o_28 ∧ (∃ a_29, o_28 = some a_29 ∧ ((∃ fs, h_16 a_29 = some (xO 1 fs)) ∧ (kc_17 + 0 ≤ mc ∧ ks_18 + 0 ≤ ms ∧ mX1_countEntriesOf l K [.ref a_29, .int x1] h_16 (kI (fun v_31 h_30 => ((v_31 ≤ nI 0 → X_19 i_14 (i_15 + nI 1) h_30 (kc_17 + 0) (ks_18 + 0)) ∧ (¬ v_31 ≤ nI 0 → ((∃ fs, h_30 a0 = some (xO 3 fs)) ∧ (∃ c_33 w_34, (kc_17 + 0) + c_33 ≤ mc ∧ (ks_18 + 0) + w_34 ≤ ms ∧ mX3_pageToChange l K c_33 w_34 [.ref a0, .int i_15] h_30 (kQ (fun o_35 h_32 => (∃ a_36, o_35 = some a_36 ∧ ((∃ fs, h_32 a_36 = some (xO 1 fs)) ∧ (∃ c_38 w_39, ((kc_17 + 0) + c_33) + c_38 ≤ mc ∧ ((ks_18 + 0) + w_34) + w_39 ≤ ms ∧ mX1_moveEntries l K c_38 w_39 [.ref a_36, .int x1, .int x2, .int x3] h_32 (kI (fun v_40 h_37 => X_19 (i_14 + v_40) (i_15 + nI 1) h_37 (((kc_17 + 0) + c_33) + c_38) (((ks_18 + 0) + w_34) + w_39))))))))))))))))))))))) → X_19 i_14 i_15 h_16 kc_17 ks_18) → X_19 (nI 0) (nI 0) h_12 ((((0 + c_2) + 0) + 0) + 0) ((((0 + w_3) + 0) + 0) + 0))) ∧ (v_13 = nI 0 → ((((((0 + c_2) + 0) + 0) + 0) ≤ mc ∧ ((((0 + w_3) + 0) + 0) + 0) ≤ ms) ∧ Post (.inl (some (.int (-nI 3)))) h_12))))))))))))))))) ∧ (v_5 = nI 0 → ((((0 + c_2) + 0) ≤ mc ∧ ((0 + w_3) + 0) ≤ ms) ∧ Post (.inl (some (.int (-nI 1)))) h_4))))))) (fun E9 h9 => Post (.inr E9) h9))))) :
    mX3_move l K mc ms [.ref a0, .int x1, .int x2, .int x3] h Post := by
  refine MX.enter htr (by decide) rfl (Nat.le_of_ble_eq_true rfl) ?_
  refine J_lveq (lv' := [(0, .ref a0), (1, .int x1), (2, .int x2), (3, .int x3)]) rfl ?_
  refine J_aload_n dX3_move_0 0 rfl ?_
  refine J_iload_n dX3_move_1 1 rfl ?_
  obtain ⟨b9, F⟩ := F
  obtain ⟨c_2, w_3, k9, w9, F⟩ := F
  refine J_callV (ci := 3) (n := 1) (As := [.int x1]) (rest := []) dX3_move_2 rfl gX3_move_X3_needState rfl (by decide +kernel) rfl (by decide) b9 (Nat.le_of_ble_eq_true rfl) k9 w9 F (kVX_kk (fun h_1 F => ?_)) (fun _ _ q9 => kVX_x q9)
  refine J_iload_n dX3_move_5 2 rfl ?_
  refine J_iload_n dX3_move_6 3 rfl ?_
  obtain ⟨k9, w9, F⟩ := F
  refine J_callS0 (n := 2) (As := [.int x2, .int x3]) (rest := []) dX3_move_7 gX3_move_X3_isKindAndType rfl (by decide +kernel) rfl (by decide) (Nat.le_of_ble_eq_true rfl) k9 w9 F kI_no (kI_kk (fun v_5 h_4 F => ?_))
  refine J_if_ne (tgt := 15) dX3_move_10 (by decide) (fun c => ?_) (fun c => ?_)
  · replace F := F.1 c
    refine J_aload_n dX3_move_15 0 rfl ?_
    obtain ⟨p_6, g9, F⟩ := F
    refine J_get (ci := 3) (k := 1) dX3_move_16 rfl in_X3_move_3 (by decide) lk_X3_move_16 g9 ?_
    obtain ⟨p_7, g9, F⟩ := F
    refine J_get (ci := 2) (k := 2) dX3_move_19 rfl in_X3_move_2 (by decide) lk_X3_move_53 g9 ?_
    refine J_iload_n dX3_move_22 1 rfl ?_
    obtain ⟨v_8, g9, F⟩ := F
    refine J_iald dX3_move_23 g9 ?_
    refine J_iload_n dX3_move_24 2 rfl ?_
    obtain ⟨k9, w9, F⟩ := F
    refine J_callS0 (n := 2) (As := [.int v_8, .int x2]) (rest := []) dX3_move_25 gX3_move_X3_canMove rfl (by decide +kernel) rfl (by decide) (Nat.le_of_ble_eq_true rfl) k9 w9 F kI_no (kI_kk (fun v_10 h_9 F => ?_))
    refine J_if_eq (tgt := 44) dX3_move_28 (by decide) (fun c => ?_) (fun c => ?_)
    · replace F := F.1 c
      refine J_bipush (v := -nI 3) dX3_move_44 (by decide) ?_
      obtain ⟨k9, F⟩ := F
      exact J_iret dX3_move_46 rfl k9.1 k9.2 F
    · replace F := F.2 c
      refine J_aload_n dX3_move_31 0 rfl ?_
      obtain ⟨p_11, g9, F⟩ := F
      refine J_get (ci := 3) (k := 1) dX3_move_32 rfl in_X3_move_3 (by decide) lk_X3_move_16 g9 ?_
      refine J_iload_n dX3_move_35 1 rfl ?_
      refine J_iload_n dX3_move_36 2 rfl ?_
      refine J_iload_n dX3_move_37 3 rfl ?_
      obtain ⟨b9, F⟩ := F
      obtain ⟨k9, w9, F⟩ := F
      refine J_callV0 (ci := 2) (n := 3) (As := [.int x1, .int x2, .int x3]) (rest := []) dX3_move_38 rfl gX3_move_X2_allFit rfl (by decide +kernel) rfl (by decide) b9 (Nat.le_of_ble_eq_true rfl) k9 w9 F kI_no (kI_kk (fun v_13 h_12 F => ?_))
      refine J_if_ne (tgt := 47) dX3_move_41 (by decide) (fun c => ?_) (fun c => ?_)
      · replace F := F.1 c
        refine J_iconst (v := nI 0) dX3_move_47 (by decide) ?_
        refine J_istore (lv' := [(4, .int (nI 0)), (0, .ref a0), (1, .int x1), (2, .int x2), (3, .int x3)]) dX3_move_48 (by decide) rfl ?_
        refine J_iconst (v := nI 0) dX3_move_50 (by decide) ?_
        refine J_istore (lv' := [(5, .int (nI 0)), (4, .int (nI 0)), (0, .ref a0), (1, .int x1), (2, .int x2), (3, .int x3)]) dX3_move_51 (by decide) rfl ?_
        refine J_sub [2, 3, 4, 5, 1, 0] rfl ?_
        refine F (fun (i_14 : Int32) (i_15 : Int32) (h_16 : Hp) (kc_17 : Nat) (ks_18 : Nat) => J l K yX3_move.cls cX3_move 6 (some .int) wsX3_move [] yX3_move.name 7 155 mc ms (QM K mc ms Post) 53 [] [(0, .ref a0), (1, .int x1), (2, .int x2), (3, .int x3), (4, .int i_14), (5, .int i_15)] h_16 kc_17 ks_18) ?_
        intro i_14 i_15 h_16 kc_17 ks_18 F
        refine J_iload dX3_move_53 5 rfl ?_
        refine J_bipush (v := nI 16) dX3_move_55 (by decide) ?_
        refine J_icmp_ge (tgt := 100) dX3_move_57 (by decide) (fun c => ?_) (fun c => ?_)
        · replace F := F.1 c
          refine J_aload_n dX3_move_100 0 rfl ?_
          obtain ⟨p_20, g9, F⟩ := F
          refine J_get (ci := 3) (k := 1) dX3_move_101 rfl in_X3_move_3 (by decide) lk_X3_move_16 g9 ?_
          obtain ⟨p_21, g9, F⟩ := F
          refine J_get (ci := 2) (k := 2) dX3_move_104 rfl in_X3_move_2 (by decide) lk_X3_move_53 g9 ?_
          refine J_iload_n dX3_move_107 1 rfl ?_
          refine J_iload_n dX3_move_108 2 rfl ?_
          obtain ⟨h_22, g9, F⟩ := F
          refine J_iast dX3_move_109 g9 ?_
          refine J_aload_n dX3_move_110 0 rfl ?_
          obtain ⟨p_23, g9, F⟩ := F
          refine J_get (ci := 3) (k := 1) dX3_move_111 rfl in_X3_move_3 (by decide) lk_X3_move_16 g9 ?_
          obtain ⟨p_24, g9, F⟩ := F
          refine J_get (ci := 2) (k := 3) dX3_move_114 rfl in_X3_move_2 (by decide) lk_X3_move_56 g9 ?_
          refine J_iload_n dX3_move_117 1 rfl ?_
          refine J_iload_n dX3_move_118 3 rfl ?_
          obtain ⟨h_25, g9, F⟩ := F
          refine J_iast dX3_move_119 g9 ?_
          refine J_iload dX3_move_120 4 rfl ?_
          obtain ⟨k9, F⟩ := F
          exact J_iret dX3_move_122 rfl k9.1 k9.2 F
        · replace F := F.2 c
          refine J_aload_n dX3_move_60 0 rfl ?_
          obtain ⟨p_26, g9, F⟩ := F
          refine J_get (ci := 3) (k := 1) dX3_move_61 rfl in_X3_move_3 (by decide) lk_X3_move_16 g9 ?_
          obtain ⟨p_27, g9, F⟩ := F
          refine J_get (ci := 2) (k := 1) dX3_move_64 rfl in_X3_move_2 (by decide) lk_X3_move_151 g9 ?_
          refine J_iload dX3_move_67 5 rfl ?_
          obtain ⟨o_28, g9, F⟩ := F
          refine J_aald (t := 4) dX3_move_69 rfl g9 ?_
          refine J_iload_n dX3_move_70 1 rfl ?_
          obtain ⟨a_29, hq9, F⟩ := F
          rw [hq9]
          obtain ⟨b9, F⟩ := F
          obtain ⟨k9, w9, F⟩ := F
          refine J_callV0 (ci := 1) (n := 1) (As := [.int x1]) (rest := []) dX3_move_71 rfl gX3_move_X1_countEntriesOf rfl (by decide +kernel) rfl (by decide) b9 (Nat.le_of_ble_eq_true rfl) k9 w9 F kI_no (kI_kk (fun v_31 h_30 F => ?_))
          refine J_if_le (tgt := 94) dX3_move_74 (by decide) (fun c => ?_) (fun c => ?_)
          · replace F := F.1 c
            refine J_iinc (v := i_15 + nI 1) (lv' := [(5, .int (i_15 + nI 1)), (0, .ref a0), (1, .int x1), (2, .int x2), (3, .int x3), (4, .int i_14)]) dX3_move_94 5 rfl rfl (by decide) rfl ?_
            refine J_goto (tgt := 53) dX3_move_97 (by decide) ?_
            exact J_sub [1, 2, 3, 4, 5, 0] rfl F
          · replace F := F.2 c
            refine J_iload dX3_move_77 4 rfl ?_
            refine J_aload_n dX3_move_79 0 rfl ?_
            refine J_iload dX3_move_80 5 rfl ?_
            obtain ⟨b9, F⟩ := F
            obtain ⟨c_33, w_34, k9, w9, F⟩ := F
            refine J_callV0 (ci := 3) (n := 1) (As := [.int i_15]) (rest := [.int i_14]) dX3_move_82 rfl gX3_move_X3_pageToChange rfl (by decide +kernel) rfl (by decide) b9 (Nat.le_of_ble_eq_true rfl) k9 w9 F kQ_no (kQ_kk (fun o_35 h_32 F => ?_))
            refine J_iload_n dX3_move_85 1 rfl ?_
            refine J_iload_n dX3_move_86 2 rfl ?_
            refine J_iload_n dX3_move_87 3 rfl ?_
            obtain ⟨a_36, hq9, F⟩ := F
            rw [hq9]
            obtain ⟨b9, F⟩ := F
            obtain ⟨c_38, w_39, k9, w9, F⟩ := F
            refine J_callV0 (ci := 1) (n := 3) (As := [.int x1, .int x2, .int x3]) (rest := [.int i_14]) dX3_move_88 rfl gX3_move_X1_moveEntries rfl (by decide +kernel) rfl (by decide) b9 (Nat.le_of_ble_eq_true rfl) k9 w9 F kI_no (kI_kk (fun v_40 h_37 F => ?_))
            refine J_iadd dX3_move_91 ?_
            refine J_istore (lv' := [(4, .int (i_14 + v_40)), (0, .ref a0), (1, .int x1), (2, .int x2), (3, .int x3), (5, .int i_15)]) dX3_move_92 (by decide) rfl ?_
            refine J_iinc (v := i_15 + nI 1) (lv' := [(5, .int (i_15 + nI 1)), (4, .int (i_14 + v_40)), (0, .ref a0), (1, .int x1), (2, .int x2), (3, .int x3)]) dX3_move_94 5 rfl rfl (by decide) rfl ?_
            refine J_goto (tgt := 53) dX3_move_97 (by decide) ?_
            exact J_sub [2, 3, 4, 5, 1, 0] rfl F
      · replace F := F.2 c
        refine J_bipush (v := -nI 3) dX3_move_44 (by decide) ?_
        obtain ⟨k9, F⟩ := F
        exact J_iret dX3_move_46 rfl k9.1 k9.2 F
  · replace F := F.2 c
    refine J_iconst (v := -nI 1) dX3_move_13 (by decide) ?_
    obtain ⟨k9, F⟩ := F
    exact J_iret dX3_move_14 rfl k9.1 k9.2 F

abbrev mX3_of (l : Launch) (K : Kx) (mc ms : Nat) (As : List Value) (h : Hp) (Post : Rs → Hp → Prop) : Prop := MX l K yX3_of wsX3_of 7 111 mc ms As h Post
set_option maxRecDepth 100000 in
set_option maxHeartbeats 4000000 in
theorem fX3_of {l : Launch} {K : Kx} {mc ms : Nat} {a0 : Nat} {x1 : Int32} {x2 : Int32} {h : Hp} {Post : Rs → Hp → Prop} (htr : l.stackTraces = false)
    (F : ((∃ fs, h a0 = some (xO 3 fs)) ∧ (∃ c_2 w_3, 0 + c_2 ≤ mc ∧ 0 + w_3 ≤ ms ∧ mX3_needState l K c_2 w_3 [.ref a0, .int x1] h (kVX (fun h_1 => (((x2.toInt < 0 ∨ 2 < x2.toInt) → ((0 + c_2) + 1 ≤ mc ∧ (0 + w_3) + 6 ≤ ms ∧ Post (.inr "java/lang/IndexOutOfBoundsException") h_1)) ∧ (x2 = nI 0 → (∃ p_4, gf h_1 a0 3 0 = some (.ref p_4) ∧ (∃ v_5, aI K h_1 p_4 x1 = some v_5 ∧ (((0 + c_2) ≤ mc ∧ (0 + w_3) ≤ ms) ∧ Post (.inl (some (.int v_5))) h_1)))) ∧ (x2 = nI 1 → (∃ p_6, gf h_1 a0 3 1 = some (.ref p_6) ∧ (∃ p_7, gf h_1 p_6 2 2 = some (.ref p_7) ∧ (∃ v_8, aI K h_1 p_7 x1 = some v_8 ∧ (((0 + c_2) ≤ mc ∧ (0 + w_3) ≤ ms) ∧ Post (.inl (some (.int v_8))) h_1))))) ∧ (x2 = nI 2 → (∃ p_9, gf h_1 a0 3 1 = some (.ref p_9) ∧ (∃ p_10, gf h_1 p_9 2 3 = some (.ref p_10) ∧ (∃ v_11, aI K h_1 p_10 x1 = some v_11 ∧ (((0 + c_2) ≤ mc ∧ (0 + w_3) ≤ ms) ∧ Post (.inl (some (.int v_11))) h_1))))))) (fun E9 h9 => Post (.inr E9) h9))))) :
    mX3_of l K mc ms [.ref a0, .int x1, .int x2] h Post := by
  refine MX.enter htr (by decide) rfl (Nat.le_of_ble_eq_true rfl) ?_
  refine J_lveq (lv' := [(0, .ref a0), (1, .int x1), (2, .int x2)]) rfl ?_
  refine J_aload_n dX3_of_0 0 rfl ?_
  refine J_iload_n dX3_of_1 1 rfl ?_
  obtain ⟨b9, F⟩ := F
  obtain ⟨c_2, w_3, k9, w9, F⟩ := F
  refine J_callV (ci := 3) (n := 1) (As := [.int x1]) (rest := []) dX3_of_2 rfl gX3_of_X3_needState rfl (by decide +kernel) rfl (by decide) b9 (Nat.le_of_ble_eq_true rfl) k9 w9 F (kVX_kk (fun h_1 F => ?_)) (fun _ _ q9 => kVX_x q9)
  refine J_iload_n dX3_of_5 2 rfl ?_
  rcases sw_cases 2 x2 with c | ⟨j9, hj9, e9⟩
  · replace F := F.1 c
    refine J_tableOut (tgt := 59) dX3_of_6 c (by decide) ?_
    exact J_throw (text := "no such thing of a state") (names := ["java/lang/RuntimeException", "java/lang/Exception"]) dX3_of_59 dX3_of_62 dX3_of_63 dX3_of_65 dX3_of_68 (by decide) (by decide) wd_X3_of_k172 wd_X3_of_i_IndexOutOfBoundsException (by decide +kernel) at_X3_of_176 atn_176 (by decide +kernel) gd_172_176 (by decide) (Nat.le_of_ble_eq_true rfl) F.1 F.2.1 F.2.2
  · match j9, hj9, e9 with
    | 0, _, e9 =>
      replace F := F.2.1 e9
      refine J_tableIn (tgt := 32) (off := 26) dX3_of_6 (by rw [e9]; decide) (by rw [e9]; decide) (by rw [e9]; rfl) (by decide) ?_
      refine J_aload_n dX3_of_32 0 rfl ?_
      obtain ⟨p_4, g9, F⟩ := F
      refine J_get (ci := 3) (k := 0) dX3_of_33 rfl in_X3_of_3 (by decide) lk_X3_of_9 g9 ?_
      refine J_iload_n dX3_of_36 1 rfl ?_
      obtain ⟨v_5, g9, F⟩ := F
      refine J_iald dX3_of_37 g9 ?_
      obtain ⟨k9, F⟩ := F
      exact J_iret dX3_of_38 rfl k9.1 k9.2 F
    | 1, _, e9 =>
      replace F := F.2.2.1 e9
      refine J_tableIn (tgt := 39) (off := 33) dX3_of_6 (by rw [e9]; decide) (by rw [e9]; decide) (by rw [e9]; rfl) (by decide) ?_
      refine J_aload_n dX3_of_39 0 rfl ?_
      obtain ⟨p_6, g9, F⟩ := F
      refine J_get (ci := 3) (k := 1) dX3_of_40 rfl in_X3_of_3 (by decide) lk_X3_of_16 g9 ?_
      obtain ⟨p_7, g9, F⟩ := F
      refine J_get (ci := 2) (k := 2) dX3_of_43 rfl in_X3_of_2 (by decide) lk_X3_of_53 g9 ?_
      refine J_iload_n dX3_of_46 1 rfl ?_
      obtain ⟨v_8, g9, F⟩ := F
      refine J_iald dX3_of_47 g9 ?_
      obtain ⟨k9, F⟩ := F
      exact J_iret dX3_of_48 rfl k9.1 k9.2 F
    | 2, _, e9 =>
      replace F := F.2.2.2 e9
      refine J_tableIn (tgt := 49) (off := 43) dX3_of_6 (by rw [e9]; decide) (by rw [e9]; decide) (by rw [e9]; rfl) (by decide) ?_
      refine J_aload_n dX3_of_49 0 rfl ?_
      obtain ⟨p_9, g9, F⟩ := F
      refine J_get (ci := 3) (k := 1) dX3_of_50 rfl in_X3_of_3 (by decide) lk_X3_of_16 g9 ?_
      obtain ⟨p_10, g9, F⟩ := F
      refine J_get (ci := 2) (k := 3) dX3_of_53 rfl in_X3_of_2 (by decide) lk_X3_of_56 g9 ?_
      refine J_iload_n dX3_of_56 1 rfl ?_
      obtain ⟨v_11, g9, F⟩ := F
      refine J_iald dX3_of_57 g9 ?_
      obtain ⟨k9, F⟩ := F
      exact J_iret dX3_of_58 rfl k9.1 k9.2 F
    | n9 + 3, h9, _ => exact absurd h9 (by omega)

abbrev mX3_put (l : Launch) (K : Kx) (mc ms : Nat) (As : List Value) (h : Hp) (Post : Rs → Hp → Prop) : Prop := MX l K yX3_put wsX3_put 8 144 mc ms As h Post
set_option maxRecDepth 100000 in
set_option maxHeartbeats 4000000 in
theorem fX3_put {l : Launch} {K : Kx} {mc ms : Nat} {a0 : Nat} {x1 : Int32} {x2 : Int64} {h : Hp} {Post : Rs → Hp → Prop} (htr : l.stackTraces = false)
    (F : ((∃ fs, h a0 = some (xO 3 fs)) ∧ (∃ c_2 w_3, 0 + c_2 ≤ mc ∧ 0 + w_3 ≤ ms ∧ mX3_needToWrite l K c_2 w_3 [.ref a0, .int x1, .int (nI 0), .long x2] h (kVX (fun h_1 => ((∃ fs, h_1 a0 = some (xO 3 fs)) ∧ (∃ c_5 w_6, (0 + c_2) + c_5 ≤ mc ∧ (0 + w_3) + w_6 ≤ ms ∧ mX3_entryAtHand l K c_5 w_6 [.ref a0, .int x1] h_1 (kQ (fun o_7 h_4 => ((∃ fs, h_4 a0 = some (xO 3 fs)) ∧ (((0 + c_2) + c_5) + 0 ≤ mc ∧ ((0 + w_3) + w_6) + 0 ≤ ms ∧ mX3_hasNoRoomFor l K [.ref a0, va_rf o_7] h_4 (kI (fun v_9 h_8 => ((v_9 = nI 0 → (∃ a_10, o_7 = some a_10 ∧ ((∃ fs, h_8 a_10 = some (xO 0 fs)) ∧ (∃ c_12 w_13, (((0 + c_2) + c_5) + 0) + c_12 ≤ mc ∧ (((0 + w_3) + w_6) + 0) + w_13 ≤ ms ∧ mX0_withOnly l K c_12 w_13 [.ref a_10, .long x2] h_8 (kQ (fun o_14 h_11 => ((∃ fs, h_11 a0 = some (xO 3 fs)) ∧ (∃ c_16 w_17, ((((0 + c_2) + c_5) + 0) + c_12) + c_16 ≤ mc ∧ ((((0 + w_3) + w_6) + 0) + w_13) + w_17 ≤ ms ∧ mX3_keep l K c_16 w_17 [.ref a0, va_rf o_14] h_11 (kV (fun h_15 => ((∃ fs, h_15 a_10 = some (xO 0 fs)) ∧ ((((((0 + c_2) + c_5) + 0) + c_12) + c_16) + 0 ≤ mc ∧ (((((0 + w_3) + w_6) + 0) + w_13) + w_17) + 0 ≤ ms ∧ mX0_isNone l K [.ref a_10] h_15 (kI (fun v_19 h_18 => ((v_19 = nI 0 → ((((((((0 + c_2) + c_5) + 0) + c_12) + c_16) + 0) ≤ mc ∧ ((((((0 + w_3) + w_6) + 0) + w_13) + w_17) + 0) ≤ ms) ∧ Post (.inl (some (.int (nI 0)))) h_18)) ∧ (¬ v_19 = nI 0 → ((((((((0 + c_2) + c_5) + 0) + c_12) + c_16) + 0) ≤ mc ∧ ((((((0 + w_3) + w_6) + 0) + w_13) + w_17) + 0) ≤ ms) ∧ Post (.inl (some (.int (nI 1)))) h_18))))))))))))))))) ∧ (¬ v_9 = nI 0 → (((((0 + c_2) + c_5) + 0) ≤ mc ∧ (((0 + w_3) + w_6) + 0) ≤ ms) ∧ Post (.inl (some (.int (-nI 4)))) h_8)))))))))))) (fun E9 h9 => Post (.inr E9) h9))))) :
    mX3_put l K mc ms [.ref a0, .int x1, .long x2] h Post := by
  refine MX.enter htr (by decide) rfl (Nat.le_of_ble_eq_true rfl) ?_
  refine J_lveq (lv' := [(0, .ref a0), (1, .int x1), (2, .long x2)]) rfl ?_
  refine J_aload_n dX3_put_0 0 rfl ?_
  refine J_iload_n dX3_put_1 1 rfl ?_
  refine J_iconst (v := nI 0) dX3_put_2 (by decide) ?_
  refine J_lload_n dX3_put_3 2 rfl ?_
  obtain ⟨b9, F⟩ := F
  obtain ⟨c_2, w_3, k9, w9, F⟩ := F
  refine J_callV (ci := 3) (n := 3) (As := [.int x1, .int (nI 0), .long x2]) (rest := []) dX3_put_4 rfl gX3_put_X3_needToWrite rfl (by decide +kernel) rfl (by decide) b9 (Nat.le_of_ble_eq_true rfl) k9 w9 F (kVX_kk (fun h_1 F => ?_)) (fun _ _ q9 => kVX_x q9)
  refine J_aload_n dX3_put_7 0 rfl ?_
  refine J_iload_n dX3_put_8 1 rfl ?_
  obtain ⟨b9, F⟩ := F
  obtain ⟨c_5, w_6, k9, w9, F⟩ := F
  refine J_callV0 (ci := 3) (n := 1) (As := [.int x1]) (rest := []) dX3_put_9 rfl gX3_put_X3_entryAtHand rfl (by decide +kernel) rfl (by decide) b9 (Nat.le_of_ble_eq_true rfl) k9 w9 F kQ_no (kQ_kk (fun o_7 h_4 F => ?_))
  refine J_astoreq (lv' := [(4, va_rf o_7), (0, .ref a0), (1, .int x1), (2, .long x2)]) dX3_put_12 (by decide) rfl ?_
  refine J_aload_n dX3_put_14 1 rfl ?_
  refine J_aloadq dX3_put_15 0 rfl ?_
  obtain ⟨b9, F⟩ := F
  obtain ⟨k9, w9, F⟩ := F
  refine J_callV0 (ci := 3) (n := 1) (As := [va_rf o_7]) (rest := []) dX3_put_17 rfl gX3_put_X3_hasNoRoomFor rfl (by decide +kernel) rfl (by decide) b9 (Nat.le_of_ble_eq_true rfl) k9 w9 F kI_no (kI_kk (fun v_9 h_8 F => ?_))
  refine J_if_eq (tgt := 26) dX3_put_20 (by decide) (fun c => ?_) (fun c => ?_)
  · replace F := F.1 c
    refine J_aload_n dX3_put_26 1 rfl ?_
    refine J_aloadq dX3_put_27 0 rfl ?_
    refine J_lload_n dX3_put_29 3 rfl ?_
    obtain ⟨a_10, hq9, F⟩ := F
    rw [hq9]
    obtain ⟨b9, F⟩ := F
    obtain ⟨c_12, w_13, k9, w9, F⟩ := F
    refine J_callV0 (ci := 0) (n := 1) (As := [.long x2]) (rest := [.ref a0]) dX3_put_30 rfl gX3_put_X0_withOnly rfl (by decide +kernel) rfl (by decide) b9 (Nat.le_of_ble_eq_true rfl) k9 w9 F kQ_no (kQ_kk (fun o_14 h_11 F => ?_))
    obtain ⟨b9, F⟩ := F
    obtain ⟨c_16, w_17, k9, w9, F⟩ := F
    refine J_callV0 (ci := 3) (n := 1) (As := [va_rf o_14]) (rest := []) dX3_put_33 rfl gX3_put_X3_keep rfl (by decide +kernel) rfl (by decide) b9 (Nat.le_of_ble_eq_true rfl) k9 w9 F kV_no (kV_kk (fun h_15 F => ?_))
    refine J_aload dX3_put_36 0 rfl ?_
    obtain ⟨b9, F⟩ := F
    obtain ⟨k9, w9, F⟩ := F
    refine J_callV0 (ci := 0) (n := 0) (As := []) (rest := []) dX3_put_38 rfl gX3_put_X0_isNone rfl (by decide +kernel) rfl (by decide) b9 (Nat.le_of_ble_eq_true rfl) k9 w9 F kI_no (kI_kk (fun v_19 h_18 F => ?_))
    refine J_if_eq (tgt := 48) dX3_put_41 (by decide) (fun c => ?_) (fun c => ?_)
    · replace F := F.1 c
      refine J_iconst (v := nI 0) dX3_put_48 (by decide) ?_
      obtain ⟨k9, F⟩ := F
      exact J_iret dX3_put_49 rfl k9.1 k9.2 F
    · replace F := F.2 c
      refine J_iconst (v := nI 1) dX3_put_44 (by decide) ?_
      refine J_goto (tgt := 49) dX3_put_45 (by decide) ?_
      obtain ⟨k9, F⟩ := F
      exact J_iret dX3_put_49 rfl k9.1 k9.2 F
  · replace F := F.2 c
    refine J_bipush (v := -nI 4) dX3_put_23 (by decide) ?_
    obtain ⟨k9, F⟩ := F
    exact J_iret dX3_put_25 rfl k9.1 k9.2 F

abbrev mX3_remove (l : Launch) (K : Kx) (mc ms : Nat) (As : List Value) (h : Hp) (Post : Rs → Hp → Prop) : Prop := MX l K yX3_remove wsX3_remove 8 144 mc ms As h Post
set_option maxRecDepth 100000 in
set_option maxHeartbeats 4000000 in
theorem fX3_remove {l : Launch} {K : Kx} {mc ms : Nat} {a0 : Nat} {x1 : Int32} {x2 : Int64} {h : Hp} {Post : Rs → Hp → Prop} (htr : l.stackTraces = false)
    (F : ((∃ fs, h a0 = some (xO 3 fs)) ∧ (∃ c_2 w_3, 0 + c_2 ≤ mc ∧ 0 + w_3 ≤ ms ∧ mX3_needToRead l K c_2 w_3 [.ref a0, .int x1, .int (nI 2), .int (nI 2)] h (kVX (fun h_1 => ((∃ fs, h_1 a0 = some (xO 3 fs)) ∧ (∃ c_5 w_6, (0 + c_2) + c_5 ≤ mc ∧ (0 + w_3) + w_6 ≤ ms ∧ mX3_entryAtHand l K c_5 w_6 [.ref a0, .int x1] h_1 (kQ (fun o_7 h_4 => (∃ a_8, o_7 = some a_8 ∧ ((∃ fs, h_4 a_8 = some (xO 0 fs)) ∧ (((0 + c_2) + c_5) + 0 ≤ mc ∧ ((0 + w_3) + w_6) + 0 ≤ ms ∧ mX0_placeOf l K [.ref a_8, .long x2] h_4 (kI (fun v_10 h_9 => ((∃ fs, h_9 a_8 = some (xO 0 fs)) ∧ ((((0 + c_2) + c_5) + 0) + 0 ≤ mc ∧ (((0 + w_3) + w_6) + 0) + 0 ≤ ms ∧ mX0_hasMember l K [.ref a_8, .int v_10, .long x2] h_9 (kI (fun v_12 h_11 => ((¬ v_12 = nI 0 → ((∃ fs, h_11 a_8 = some (xO 0 fs)) ∧ (∃ c_14 w_15, ((((0 + c_2) + c_5) + 0) + 0) + c_14 ≤ mc ∧ ((((0 + w_3) + w_6) + 0) + 0) + w_15 ≤ ms ∧ mX0_withoutMember l K c_14 w_15 [.ref a_8, .int v_10] h_11 (kQ (fun o_16 h_13 => ((∃ fs, h_13 a0 = some (xO 3 fs)) ∧ (∃ c_18 w_19, (((((0 + c_2) + c_5) + 0) + 0) + c_14) + c_18 ≤ mc ∧ (((((0 + w_3) + w_6) + 0) + 0) + w_15) + w_19 ≤ ms ∧ mX3_keep l K c_18 w_19 [.ref a0, va_rf o_16] h_13 (kV (fun h_17 => ((((((((0 + c_2) + c_5) + 0) + 0) + c_14) + c_18) ≤ mc ∧ ((((((0 + w_3) + w_6) + 0) + 0) + w_15) + w_19) ≤ ms) ∧ Post (.inl (some (.int (nI 1)))) h_17)))))))))) ∧ (v_12 = nI 0 → ((((((0 + c_2) + c_5) + 0) + 0) ≤ mc ∧ ((((0 + w_3) + w_6) + 0) + 0) ≤ ms) ∧ Post (.inl (some (.int (nI 0)))) h_11))))))))))))))))) (fun E9 h9 => Post (.inr E9) h9))))) :
    mX3_remove l K mc ms [.ref a0, .int x1, .long x2] h Post := by
  refine MX.enter htr (by decide) rfl (Nat.le_of_ble_eq_true rfl) ?_
  refine J_lveq (lv' := [(0, .ref a0), (1, .int x1), (2, .long x2)]) rfl ?_
  refine J_aload_n dX3_remove_0 0 rfl ?_
  refine J_iload_n dX3_remove_1 1 rfl ?_
  refine J_iconst (v := nI 2) dX3_remove_2 (by decide) ?_
  refine J_iconst (v := nI 2) dX3_remove_3 (by decide) ?_
  obtain ⟨b9, F⟩ := F
  obtain ⟨c_2, w_3, k9, w9, F⟩ := F
  refine J_callV (ci := 3) (n := 3) (As := [.int x1, .int (nI 2), .int (nI 2)]) (rest := []) dX3_remove_4 rfl gX3_remove_X3_needToRead rfl (by decide +kernel) rfl (by decide) b9 (Nat.le_of_ble_eq_true rfl) k9 w9 F (kVX_kk (fun h_1 F => ?_)) (fun _ _ q9 => kVX_x q9)
  refine J_aload_n dX3_remove_7 0 rfl ?_
  refine J_iload_n dX3_remove_8 1 rfl ?_
  obtain ⟨b9, F⟩ := F
  obtain ⟨c_5, w_6, k9, w9, F⟩ := F
  refine J_callV0 (ci := 3) (n := 1) (As := [.int x1]) (rest := []) dX3_remove_9 rfl gX3_remove_X3_entryAtHand rfl (by decide +kernel) rfl (by decide) b9 (Nat.le_of_ble_eq_true rfl) k9 w9 F kQ_no (kQ_kk (fun o_7 h_4 F => ?_))
  refine J_astoreq (lv' := [(4, va_rf o_7), (0, .ref a0), (1, .int x1), (2, .long x2)]) dX3_remove_12 (by decide) rfl ?_
  refine J_aloadq dX3_remove_14 0 rfl ?_
  refine J_lload_n dX3_remove_16 3 rfl ?_
  obtain ⟨a_8, hq9, F⟩ := F
  rw [hq9]
  obtain ⟨b9, F⟩ := F
  obtain ⟨k9, w9, F⟩ := F
  refine J_callV0 (ci := 0) (n := 1) (As := [.long x2]) (rest := []) dX3_remove_17 rfl gX3_remove_X0_placeOf rfl (by decide +kernel) rfl (by decide) b9 (Nat.le_of_ble_eq_true rfl) k9 w9 F kI_no (kI_kk (fun v_10 h_9 F => ?_))
  refine J_istore (lv' := [(5, .int v_10), (4, .ref a_8), (0, .ref a0), (1, .int x1), (2, .long x2)]) dX3_remove_20 (by decide) rfl ?_
  refine J_aload dX3_remove_22 1 rfl ?_
  refine J_iload dX3_remove_24 0 rfl ?_
  refine J_lload_n dX3_remove_26 4 rfl ?_
  obtain ⟨b9, F⟩ := F
  obtain ⟨k9, w9, F⟩ := F
  refine J_callV0 (ci := 0) (n := 2) (As := [.int v_10, .long x2]) (rest := []) dX3_remove_27 rfl gX3_remove_X0_hasMember rfl (by decide +kernel) rfl (by decide) b9 (Nat.le_of_ble_eq_true rfl) k9 w9 F kI_no (kI_kk (fun v_12 h_11 F => ?_))
  refine J_if_ne (tgt := 35) dX3_remove_30 (by decide) (fun c => ?_) (fun c => ?_)
  · replace F := F.1 c
    refine J_aload_n dX3_remove_35 2 rfl ?_
    refine J_aload dX3_remove_36 1 rfl ?_
    refine J_iload dX3_remove_38 0 rfl ?_
    obtain ⟨b9, F⟩ := F
    obtain ⟨c_14, w_15, k9, w9, F⟩ := F
    refine J_callV0 (ci := 0) (n := 1) (As := [.int v_10]) (rest := [.ref a0]) dX3_remove_40 rfl gX3_remove_X0_withoutMember rfl (by decide +kernel) rfl (by decide) b9 (Nat.le_of_ble_eq_true rfl) k9 w9 F kQ_no (kQ_kk (fun o_16 h_13 F => ?_))
    obtain ⟨b9, F⟩ := F
    obtain ⟨c_18, w_19, k9, w9, F⟩ := F
    refine J_callV0 (ci := 3) (n := 1) (As := [va_rf o_16]) (rest := []) dX3_remove_43 rfl gX3_remove_X3_keep rfl (by decide +kernel) rfl (by decide) b9 (Nat.le_of_ble_eq_true rfl) k9 w9 F kV_no (kV_kk (fun h_17 F => ?_))
    refine J_iconst (v := nI 1) dX3_remove_46 (by decide) ?_
    obtain ⟨k9, F⟩ := F
    exact J_zret dX3_remove_47 rfl (by decide) k9.1 k9.2 F
  · replace F := F.2 c
    refine J_iconst (v := nI 0) dX3_remove_33 (by decide) ?_
    obtain ⟨k9, F⟩ := F
    exact J_zret dX3_remove_34 rfl (by decide) k9.1 k9.2 F

abbrev mX3_restore (l : Launch) (K : Kx) (mc ms : Nat) (As : List Value) (h : Hp) (Post : Rs → Hp → Prop) : Prop := MX l K yX3_restore wsX3_restore 7 112 mc ms As h Post
set_option maxRecDepth 100000 in
set_option maxHeartbeats 4000000 in
theorem fX3_restore {l : Launch} {K : Kx} {mc ms : Nat} {a0 : Nat} {x1 : Int32} {h : Hp} {Post : Rs → Hp → Prop} (htr : l.stackTraces = false)
    (F : (∃ p_1, gf h a0 3 1 = some (.ref p_1) ∧ ((∃ fs, h a0 = some (xO 3 fs)) ∧ (0 + 0 ≤ mc ∧ 0 + 0 ≤ ms ∧ mX3_slotOf l K [.ref a0, .int x1] h (kI (fun v_3 h_2 => ((∃ fs, h_2 a0 = some (xO 3 fs)) ∧ (∃ c_5 w_6, (0 + 0) + c_5 ≤ mc ∧ (0 + 0) + w_6 ≤ ms ∧ mX3_snapshotIn l K c_5 w_6 [.ref a0, .int v_3] h_2 (kQX (fun o_7 h_4 => ((∃ fs, h_4 p_1 = some (xO 2 fs)) ∧ (((0 + 0) + c_5) + 0 ≤ mc ∧ ((0 + 0) + w_6) + 0 ≤ ms ∧ mX2_becomeLike l K [.ref p_1, va_rf o_7] h_4 (kV (fun h_8 => (∃ p_9, gf h_8 a0 3 1 = some (.ref p_9) ∧ ((∃ fs, h_8 p_9 = some (xO 2 fs)) ∧ ((((0 + 0) + c_5) + 0) + 0 ≤ mc ∧ (((0 + 0) + w_6) + 0) + 0 ≤ ms ∧ mX2_countEntries l K [.ref p_9] h_8 (kI (fun v_11 h_10 => ((((((0 + 0) + c_5) + 0) + 0) ≤ mc ∧ ((((0 + 0) + w_6) + 0) + 0) ≤ ms) ∧ Post (.inl (some (.int v_11))) h_10))))))))))) (fun E9 h9 => Post (.inr E9) h9)))))))))) :
    mX3_restore l K mc ms [.ref a0, .int x1] h Post := by
  refine MX.enter htr (by decide) rfl (Nat.le_of_ble_eq_true rfl) ?_
  refine J_lveq (lv' := [(0, .ref a0), (1, .int x1)]) rfl ?_
  refine J_aload_n dX3_restore_0 0 rfl ?_
  obtain ⟨p_1, g9, F⟩ := F
  refine J_get (ci := 3) (k := 1) dX3_restore_1 rfl in_X3_restore_3 (by decide) lk_X3_restore_16 g9 ?_
  refine J_aload_n dX3_restore_4 0 rfl ?_
  refine J_aload_n dX3_restore_5 0 rfl ?_
  refine J_iload_n dX3_restore_6 1 rfl ?_
  obtain ⟨b9, F⟩ := F
  obtain ⟨k9, w9, F⟩ := F
  refine J_callV0 (ci := 3) (n := 1) (As := [.int x1]) (rest := [.ref a0, .ref p_1]) dX3_restore_7 rfl gX3_restore_X3_slotOf rfl (by decide +kernel) rfl (by decide) b9 (Nat.le_of_ble_eq_true rfl) k9 w9 F kI_no (kI_kk (fun v_3 h_2 F => ?_))
  obtain ⟨b9, F⟩ := F
  obtain ⟨c_5, w_6, k9, w9, F⟩ := F
  refine J_callV (ci := 3) (n := 1) (As := [.int v_3]) (rest := [.ref p_1]) dX3_restore_10 rfl gX3_restore_X3_snapshotIn rfl (by decide +kernel) rfl (by decide) b9 (Nat.le_of_ble_eq_true rfl) k9 w9 F (kQX_kk (fun o_7 h_4 F => ?_)) (fun _ _ q9 => kQX_x q9)
  obtain ⟨b9, F⟩ := F
  obtain ⟨k9, w9, F⟩ := F
  refine J_callV0 (ci := 2) (n := 1) (As := [va_rf o_7]) (rest := []) dX3_restore_13 rfl gX3_restore_X2_becomeLike rfl (by decide +kernel) rfl (by decide) b9 (Nat.le_of_ble_eq_true rfl) k9 w9 F kV_no (kV_kk (fun h_8 F => ?_))
  refine J_aload_n dX3_restore_16 0 rfl ?_
  obtain ⟨p_9, g9, F⟩ := F
  refine J_get (ci := 3) (k := 1) dX3_restore_17 rfl in_X3_restore_3 (by decide) lk_X3_restore_16 g9 ?_
  obtain ⟨b9, F⟩ := F
  obtain ⟨k9, w9, F⟩ := F
  refine J_callV0 (ci := 2) (n := 0) (As := []) (rest := []) dX3_restore_20 rfl gX3_restore_X2_countEntries rfl (by decide +kernel) rfl (by decide) b9 (Nat.le_of_ble_eq_true rfl) k9 w9 F kI_no (kI_kk (fun v_11 h_10 F => ?_))
  obtain ⟨k9, F⟩ := F
  exact J_iret dX3_restore_23 rfl k9.1 k9.2 F

abbrev mX3_set (l : Launch) (K : Kx) (mc ms : Nat) (As : List Value) (h : Hp) (Post : Rs → Hp → Prop) : Prop := MX l K yX3_set wsX3_set 8 144 mc ms As h Post
set_option maxRecDepth 100000 in
set_option maxHeartbeats 4000000 in
theorem fX3_set {l : Launch} {K : Kx} {mc ms : Nat} {a0 : Nat} {x1 : Int32} {x2 : Int64} {x3 : Int64} {h : Hp} {Post : Rs → Hp → Prop} (htr : l.stackTraces = false)
    (F : ((∃ fs, h a0 = some (xO 3 fs)) ∧ (∃ c_2 w_3, 0 + c_2 ≤ mc ∧ 0 + w_3 ≤ ms ∧ mX3_needToWrite l K c_2 w_3 [.ref a0, .int x1, .int (nI 2), .long x3] h (kVX (fun h_1 => ((∃ fs, h_1 a0 = some (xO 3 fs)) ∧ (∃ c_5 w_6, (0 + c_2) + c_5 ≤ mc ∧ (0 + w_3) + w_6 ≤ ms ∧ mX3_entryAtHand l K c_5 w_6 [.ref a0, .int x1] h_1 (kQ (fun o_7 h_4 => (∃ a_8, o_7 = some a_8 ∧ ((∃ fs, h_4 a_8 = some (xO 0 fs)) ∧ (((0 + c_2) + c_5) + 0 ≤ mc ∧ ((0 + w_3) + w_6) + 0 ≤ ms ∧ mX0_placeOf l K [.ref a_8, .long x2] h_4 (kI (fun v_10 h_9 => ((∃ fs, h_9 a_8 = some (xO 0 fs)) ∧ ((((0 + c_2) + c_5) + 0) + 0 ≤ mc ∧ (((0 + w_3) + w_6) + 0) + 0 ≤ ms ∧ mX0_hasMember l K [.ref a_8, .int v_10, .long x2] h_9 (kI (fun v_12 h_11 => ((v_12 = nI 0 → (∃ p_13, gf h_11 a_8 0 4 = some (.ref p_13) ∧ (∃ n_14, alen K 1 h_11 p_13 = some n_14 ∧ (((nI 10) ≤ n_14 → ((((((0 + c_2) + c_5) + 0) + 0) ≤ mc ∧ ((((0 + w_3) + w_6) + 0) + 0) ≤ ms) ∧ Post (.inl (some (.int (-nI 4)))) h_11)) ∧ (¬ (nI 10) ≤ n_14 → ((∃ fs, h_11 a0 = some (xO 3 fs)) ∧ (((((0 + c_2) + c_5) + 0) + 0) + 0 ≤ mc ∧ ((((0 + w_3) + w_6) + 0) + 0) + 0 ≤ ms ∧ mX3_hasNoRoomFor l K [.ref a0, .ref a_8] h_11 (kI (fun v_16 h_15 => ((v_16 = nI 0 → ((∃ fs, h_15 a_8 = some (xO 0 fs)) ∧ (∃ c_18 w_19, (((((0 + c_2) + c_5) + 0) + 0) + 0) + c_18 ≤ mc ∧ (((((0 + w_3) + w_6) + 0) + 0) + 0) + w_19 ≤ ms ∧ mX0_withMember l K c_18 w_19 [.ref a_8, .int v_10, .long x2, .long x3] h_15 (kQ (fun o_20 h_17 => ((∃ fs, h_17 a0 = some (xO 3 fs)) ∧ (∃ c_22 w_23, ((((((0 + c_2) + c_5) + 0) + 0) + 0) + c_18) + c_22 ≤ mc ∧ ((((((0 + w_3) + w_6) + 0) + 0) + 0) + w_19) + w_23 ≤ ms ∧ mX3_keep l K c_22 w_23 [.ref a0, va_rf o_20] h_17 (kV (fun h_21 => (((((((((0 + c_2) + c_5) + 0) + 0) + 0) + c_18) + c_22) ≤ mc ∧ (((((((0 + w_3) + w_6) + 0) + 0) + 0) + w_19) + w_23) ≤ ms) ∧ Post (.inl (some (.int (nI 1)))) h_21)))))))))) ∧ (¬ v_16 = nI 0 → (((((((0 + c_2) + c_5) + 0) + 0) + 0) ≤ mc ∧ (((((0 + w_3) + w_6) + 0) + 0) + 0) ≤ ms) ∧ Post (.inl (some (.int (-nI 4)))) h_15)))))))))))) ∧ (¬ v_12 = nI 0 → ((∃ fs, h_11 a_8 = some (xO 0 fs)) ∧ (∃ c_25 w_26, ((((0 + c_2) + c_5) + 0) + 0) + c_25 ≤ mc ∧ ((((0 + w_3) + w_6) + 0) + 0) + w_26 ≤ ms ∧ mX0_withNumberAt l K c_25 w_26 [.ref a_8, .int v_10, .long x3] h_11 (kQ (fun o_27 h_24 => ((∃ fs, h_24 a0 = some (xO 3 fs)) ∧ (∃ c_29 w_30, (((((0 + c_2) + c_5) + 0) + 0) + c_25) + c_29 ≤ mc ∧ (((((0 + w_3) + w_6) + 0) + 0) + w_26) + w_30 ≤ ms ∧ mX3_keep l K c_29 w_30 [.ref a0, va_rf o_27] h_24 (kV (fun h_28 => ((((((((0 + c_2) + c_5) + 0) + 0) + c_25) + c_29) ≤ mc ∧ ((((((0 + w_3) + w_6) + 0) + 0) + w_26) + w_30) ≤ ms) ∧ Post (.inl (some (.int (nI 0)))) h_28))))))))))))))))))))))))) (fun E9 h9 => Post (.inr E9) h9))))) :
    mX3_set l K mc ms [.ref a0, .int x1, .long x2, .long x3] h Post := by
  refine MX.enter htr (by decide) rfl (Nat.le_of_ble_eq_true rfl) ?_
  refine J_lveq (lv' := [(0, .ref a0), (1, .int x1), (2, .long x2), (4, .long x3)]) rfl ?_
  refine J_aload_n dX3_set_0 0 rfl ?_
  refine J_iload_n dX3_set_1 1 rfl ?_
  refine J_iconst (v := nI 2) dX3_set_2 (by decide) ?_
  refine J_lload dX3_set_3 3 rfl ?_
  obtain ⟨b9, F⟩ := F
  obtain ⟨c_2, w_3, k9, w9, F⟩ := F
  refine J_callV (ci := 3) (n := 3) (As := [.int x1, .int (nI 2), .long x3]) (rest := []) dX3_set_5 rfl gX3_set_X3_needToWrite rfl (by decide +kernel) rfl (by decide) b9 (Nat.le_of_ble_eq_true rfl) k9 w9 F (kVX_kk (fun h_1 F => ?_)) (fun _ _ q9 => kVX_x q9)
  refine J_aload_n dX3_set_8 0 rfl ?_
  refine J_iload_n dX3_set_9 1 rfl ?_
  obtain ⟨b9, F⟩ := F
  obtain ⟨c_5, w_6, k9, w9, F⟩ := F
  refine J_callV0 (ci := 3) (n := 1) (As := [.int x1]) (rest := []) dX3_set_10 rfl gX3_set_X3_entryAtHand rfl (by decide +kernel) rfl (by decide) b9 (Nat.le_of_ble_eq_true rfl) k9 w9 F kQ_no (kQ_kk (fun o_7 h_4 F => ?_))
  refine J_astoreq (lv' := [(6, va_rf o_7), (0, .ref a0), (1, .int x1), (2, .long x2), (4, .long x3)]) dX3_set_13 (by decide) rfl ?_
  refine J_aloadq dX3_set_15 0 rfl ?_
  refine J_lload_n dX3_set_17 3 rfl ?_
  obtain ⟨a_8, hq9, F⟩ := F
  rw [hq9]
  obtain ⟨b9, F⟩ := F
  obtain ⟨k9, w9, F⟩ := F
  refine J_callV0 (ci := 0) (n := 1) (As := [.long x2]) (rest := []) dX3_set_18 rfl gX3_set_X0_placeOf rfl (by decide +kernel) rfl (by decide) b9 (Nat.le_of_ble_eq_true rfl) k9 w9 F kI_no (kI_kk (fun v_10 h_9 F => ?_))
  refine J_istore (lv' := [(7, .int v_10), (6, .ref a_8), (0, .ref a0), (1, .int x1), (2, .long x2), (4, .long x3)]) dX3_set_21 (by decide) rfl ?_
  refine J_aload dX3_set_23 1 rfl ?_
  refine J_iload dX3_set_25 0 rfl ?_
  refine J_lload_n dX3_set_27 4 rfl ?_
  obtain ⟨b9, F⟩ := F
  obtain ⟨k9, w9, F⟩ := F
  refine J_callV0 (ci := 0) (n := 2) (As := [.int v_10, .long x2]) (rest := []) dX3_set_28 rfl gX3_set_X0_hasMember rfl (by decide +kernel) rfl (by decide) b9 (Nat.le_of_ble_eq_true rfl) k9 w9 F kI_no (kI_kk (fun v_12 h_11 F => ?_))
  refine J_if_eq (tgt := 49) dX3_set_31 (by decide) (fun c => ?_) (fun c => ?_)
  · replace F := F.1 c
    refine J_aload dX3_set_49 1 rfl ?_
    obtain ⟨p_13, g9, F⟩ := F
    refine J_get (ci := 0) (k := 4) dX3_set_51 rfl in_X3_set_0 (by decide) lk_X3_set_122 g9 ?_
    obtain ⟨n_14, g9, F⟩ := F
    refine J_alen (t := 1) dX3_set_54 rfl g9 ?_
    refine J_bipush (v := nI 10) dX3_set_55 (by decide) ?_
    refine J_icmp_ge (tgt := 69) dX3_set_57 (by decide) (fun c => ?_) (fun c => ?_)
    · replace F := F.1 c
      refine J_bipush (v := -nI 4) dX3_set_69 (by decide) ?_
      obtain ⟨k9, F⟩ := F
      exact J_iret dX3_set_71 rfl k9.1 k9.2 F
    · replace F := F.2 c
      refine J_aload_n dX3_set_60 2 rfl ?_
      refine J_aload dX3_set_61 1 rfl ?_
      obtain ⟨b9, F⟩ := F
      obtain ⟨k9, w9, F⟩ := F
      refine J_callV0 (ci := 3) (n := 1) (As := [.ref a_8]) (rest := []) dX3_set_63 rfl gX3_set_X3_hasNoRoomFor rfl (by decide +kernel) rfl (by decide) b9 (Nat.le_of_ble_eq_true rfl) k9 w9 F kI_no (kI_kk (fun v_16 h_15 F => ?_))
      refine J_if_eq (tgt := 72) dX3_set_66 (by decide) (fun c => ?_) (fun c => ?_)
      · replace F := F.1 c
        refine J_aload_n dX3_set_72 2 rfl ?_
        refine J_aload dX3_set_73 1 rfl ?_
        refine J_iload dX3_set_75 0 rfl ?_
        refine J_lload_n dX3_set_77 4 rfl ?_
        refine J_lload dX3_set_78 5 rfl ?_
        obtain ⟨b9, F⟩ := F
        obtain ⟨c_18, w_19, k9, w9, F⟩ := F
        refine J_callV0 (ci := 0) (n := 3) (As := [.int v_10, .long x2, .long x3]) (rest := [.ref a0]) dX3_set_80 rfl gX3_set_X0_withMember rfl (by decide +kernel) rfl (by decide) b9 (Nat.le_of_ble_eq_true rfl) k9 w9 F kQ_no (kQ_kk (fun o_20 h_17 F => ?_))
        obtain ⟨b9, F⟩ := F
        obtain ⟨c_22, w_23, k9, w9, F⟩ := F
        refine J_callV0 (ci := 3) (n := 1) (As := [va_rf o_20]) (rest := []) dX3_set_83 rfl gX3_set_X3_keep rfl (by decide +kernel) rfl (by decide) b9 (Nat.le_of_ble_eq_true rfl) k9 w9 F kV_no (kV_kk (fun h_21 F => ?_))
        refine J_iconst (v := nI 1) dX3_set_86 (by decide) ?_
        obtain ⟨k9, F⟩ := F
        exact J_iret dX3_set_87 rfl k9.1 k9.2 F
      · replace F := F.2 c
        refine J_bipush (v := -nI 4) dX3_set_69 (by decide) ?_
        obtain ⟨k9, F⟩ := F
        exact J_iret dX3_set_71 rfl k9.1 k9.2 F
  · replace F := F.2 c
    refine J_aload_n dX3_set_34 2 rfl ?_
    refine J_aload dX3_set_35 1 rfl ?_
    refine J_iload dX3_set_37 0 rfl ?_
    refine J_lload dX3_set_39 5 rfl ?_
    obtain ⟨b9, F⟩ := F
    obtain ⟨c_25, w_26, k9, w9, F⟩ := F
    refine J_callV0 (ci := 0) (n := 2) (As := [.int v_10, .long x3]) (rest := [.ref a0]) dX3_set_41 rfl gX3_set_X0_withNumberAt rfl (by decide +kernel) rfl (by decide) b9 (Nat.le_of_ble_eq_true rfl) k9 w9 F kQ_no (kQ_kk (fun o_27 h_24 F => ?_))
    obtain ⟨b9, F⟩ := F
    obtain ⟨c_29, w_30, k9, w9, F⟩ := F
    refine J_callV0 (ci := 3) (n := 1) (As := [va_rf o_27]) (rest := []) dX3_set_44 rfl gX3_set_X3_keep rfl (by decide +kernel) rfl (by decide) b9 (Nat.le_of_ble_eq_true rfl) k9 w9 F kV_no (kV_kk (fun h_28 F => ?_))
    refine J_iconst (v := nI 0) dX3_set_47 (by decide) ?_
    obtain ⟨k9, F⟩ := F
    exact J_iret dX3_set_48 rfl k9.1 k9.2 F

abbrev mX3_size (l : Launch) (K : Kx) (mc ms : Nat) (As : List Value) (h : Hp) (Post : Rs → Hp → Prop) : Prop := MX l K yX3_size wsX3_size 7 131 mc ms As h Post
set_option maxRecDepth 100000 in
set_option maxHeartbeats 4000000 in
theorem fX3_size {l : Launch} {K : Kx} {mc ms : Nat} {a0 : Nat} {x1 : Int32} {h : Hp} {Post : Rs → Hp → Prop} (htr : l.stackTraces = false)
    (F : ((∃ fs, h a0 = some (xO 3 fs)) ∧ (∃ c_2 w_3, 0 + c_2 ≤ mc ∧ 0 + w_3 ≤ ms ∧ mX3_needState l K c_2 w_3 [.ref a0, .int x1] h (kVX (fun h_1 => ((∃ fs, h_1 a0 = some (xO 3 fs)) ∧ (∃ c_5 w_6, (0 + c_2) + c_5 ≤ mc ∧ (0 + w_3) + w_6 ≤ ms ∧ mX3_needKey l K c_5 w_6 [.ref a0] h_1 (kVX (fun h_4 => ((∃ fs, h_4 a0 = some (xO 3 fs)) ∧ (∃ c_8 w_9, ((0 + c_2) + c_5) + c_8 ≤ mc ∧ ((0 + w_3) + w_6) + w_9 ≤ ms ∧ mX3_entryAtHand l K c_8 w_9 [.ref a0, .int x1] h_4 (kQ (fun o_10 h_7 => (∃ p_11, gf h_7 a0 3 1 = some (.ref p_11) ∧ (∃ p_12, gf h_7 p_11 2 2 = some (.ref p_12) ∧ (∃ v_13, aI K h_7 p_12 x1 = some v_13 ∧ ((¬ v_13 = (nI 3) → (∃ a_14, o_10 = some a_14 ∧ (∃ p_15, gf h_7 a_14 0 3 = some (.ref p_15) ∧ (∃ n_16, alen K 1 h_7 p_15 = some n_16 ∧ (((((0 + c_2) + c_5) + c_8) ≤ mc ∧ (((0 + w_3) + w_6) + w_9) ≤ ms) ∧ Post (.inl (some (.int n_16))) h_7))))) ∧ (v_13 = (nI 3) → (∃ a_17, o_10 = some a_17 ∧ (∃ v_18, gf h_7 a_17 0 5 = some (.int v_18) ∧ (((((0 + c_2) + c_5) + c_8) ≤ mc ∧ (((0 + w_3) + w_6) + w_9) ≤ ms) ∧ Post (.inl (some (.int v_18))) h_7))))))))))))) (fun E9 h9 => Post (.inr E9) h9))))) (fun E9 h9 => Post (.inr E9) h9))))) :
    mX3_size l K mc ms [.ref a0, .int x1] h Post := by
  refine MX.enter htr (by decide) rfl (Nat.le_of_ble_eq_true rfl) ?_
  refine J_lveq (lv' := [(0, .ref a0), (1, .int x1)]) rfl ?_
  refine J_aload_n dX3_size_0 0 rfl ?_
  refine J_iload_n dX3_size_1 1 rfl ?_
  obtain ⟨b9, F⟩ := F
  obtain ⟨c_2, w_3, k9, w9, F⟩ := F
  refine J_callV (ci := 3) (n := 1) (As := [.int x1]) (rest := []) dX3_size_2 rfl gX3_size_X3_needState rfl (by decide +kernel) rfl (by decide) b9 (Nat.le_of_ble_eq_true rfl) k9 w9 F (kVX_kk (fun h_1 F => ?_)) (fun _ _ q9 => kVX_x q9)
  refine J_aload_n dX3_size_5 0 rfl ?_
  obtain ⟨b9, F⟩ := F
  obtain ⟨c_5, w_6, k9, w9, F⟩ := F
  refine J_callV (ci := 3) (n := 0) (As := []) (rest := []) dX3_size_6 rfl gX3_size_X3_needKey rfl (by decide +kernel) rfl (by decide) b9 (Nat.le_of_ble_eq_true rfl) k9 w9 F (kVX_kk (fun h_4 F => ?_)) (fun _ _ q9 => kVX_x q9)
  refine J_aload_n dX3_size_9 0 rfl ?_
  refine J_iload_n dX3_size_10 1 rfl ?_
  obtain ⟨b9, F⟩ := F
  obtain ⟨c_8, w_9, k9, w9, F⟩ := F
  refine J_callV0 (ci := 3) (n := 1) (As := [.int x1]) (rest := []) dX3_size_11 rfl gX3_size_X3_entryAtHand rfl (by decide +kernel) rfl (by decide) b9 (Nat.le_of_ble_eq_true rfl) k9 w9 F kQ_no (kQ_kk (fun o_10 h_7 F => ?_))
  refine J_astore_nq (lv' := [(2, va_rf o_10), (0, .ref a0), (1, .int x1)]) dX3_size_14 rfl (by decide) rfl ?_
  refine J_aload_n dX3_size_15 1 rfl ?_
  obtain ⟨p_11, g9, F⟩ := F
  refine J_get (ci := 3) (k := 1) dX3_size_16 rfl in_X3_size_3 (by decide) lk_X3_size_16 g9 ?_
  obtain ⟨p_12, g9, F⟩ := F
  refine J_get (ci := 2) (k := 2) dX3_size_19 rfl in_X3_size_2 (by decide) lk_X3_size_53 g9 ?_
  refine J_iload_n dX3_size_22 2 rfl ?_
  obtain ⟨v_13, g9, F⟩ := F
  refine J_iald dX3_size_23 g9 ?_
  refine J_iconst (v := nI 3) dX3_size_24 (by decide) ?_
  refine J_icmp_ne (tgt := 35) dX3_size_25 (by decide) (fun c => ?_) (fun c => ?_)
  · replace F := F.1 c
    refine J_aload_nq dX3_size_35 0 rfl ?_
    obtain ⟨a_14, hq9, F⟩ := F
    rw [hq9]
    obtain ⟨p_15, g9, F⟩ := F
    refine J_get (ci := 0) (k := 3) dX3_size_36 rfl in_X3_size_0 (by decide) lk_X3_size_100 g9 ?_
    obtain ⟨n_16, g9, F⟩ := F
    refine J_alen (t := 1) dX3_size_39 rfl g9 ?_
    obtain ⟨k9, F⟩ := F
    exact J_iret dX3_size_40 rfl k9.1 k9.2 F
  · replace F := F.2 c
    refine J_aload_nq dX3_size_28 0 rfl ?_
    obtain ⟨a_17, hq9, F⟩ := F
    rw [hq9]
    obtain ⟨v_18, g9, F⟩ := F
    refine J_get (ci := 0) (k := 5) dX3_size_29 rfl in_X3_size_0 (by decide) lk_X3_size_137 g9 ?_
    refine J_goto (tgt := 40) dX3_size_32 (by decide) ?_
    obtain ⟨k9, F⟩ := F
    exact J_iret dX3_size_40 rfl k9.1 k9.2 F

abbrev mX3_snapshot (l : Launch) (K : Kx) (mc ms : Nat) (As : List Value) (h : Hp) (Post : Rs → Hp → Prop) : Prop := MX l K yX3_snapshot wsX3_snapshot 3 106 mc ms As h Post
set_option maxRecDepth 100000 in
set_option maxHeartbeats 4000000 in
theorem fX3_snapshot {l : Launch} {K : Kx} {mc ms : Nat} {a0 : Nat} {h : Hp} {Post : Rs → Hp → Prop} (htr : l.stackTraces = false)
    (F : (∀ X_5 : Int32 → Hp → Nat → Nat → Prop, (∀ (i_1 : Int32) (h_2 : Hp) (kc_3 : Nat) (ks_4 : Nat), ((((nI 6) ≤ i_1 → ((kc_3 ≤ mc ∧ ks_4 ≤ ms) ∧ Post (.inl (some (.int (-nI 4)))) h_2)) ∧ (¬ (nI 6) ≤ i_1 → (∃ p_6, gf h_2 a0 3 2 = some (.ref p_6) ∧ (∃ o_7, aQ K 5 h_2 p_6 i_1 = some o_7 ∧ ((o_7 = none → (∃ p_9, gf h_2 a0 3 1 = some (.ref p_9) ∧ (∃ v_10, gf h_2 a0 3 4 = some (.int v_10) ∧ ((∃ fs, h_2 p_9 = some (xO 2 fs)) ∧ (∃ c_12 w_13, kc_3 + c_12 ≤ mc ∧ ks_4 + w_13 ≤ ms ∧ mX2_taken l K c_12 w_13 [.ref p_9, .int v_10] h_2 (kQ (fun o_14 h_11 => (∃ p_15, gf h_11 a0 3 2 = some (.ref p_15) ∧ ((∀ v9, o_14 = some v9 → ∃ fs, h_11 v9 = some (xO 2 fs)) ∧ ∃ h_16, wQ K 5 h_11 p_15 i_1 o_14 = some h_16 ∧ (∃ v_17, gf h_16 a0 3 4 = some (.int v_17) ∧ (∃ h_18, pf h_16 a0 3 4 (.int (v_17 + (nI 1))) = some h_18 ∧ (∃ a_19, o_14 = some a_19 ∧ (∃ v_20, gf h_18 a_19 2 0 = some (.int v_20) ∧ (((kc_3 + c_12) ≤ mc ∧ (ks_4 + w_13) ≤ ms) ∧ Post (.inl (some (.int v_20))) h_18)))))))))))))) ∧ (∀ a_8, o_7 = some a_8 → X_5 (i_1 + nI 1) h_2 kc_3 ks_4))))))) → X_5 i_1 h_2 kc_3 ks_4) → X_5 (nI 0) h 0 0)) :
    mX3_snapshot l K mc ms [.ref a0] h Post := by
  refine MX.enter htr (by decide) rfl (Nat.le_of_ble_eq_true rfl) ?_
  refine J_lveq (lv' := [(0, .ref a0)]) rfl ?_
  refine J_iconst (v := nI 0) dX3_snapshot_0 (by decide) ?_
  refine J_istore_n (lv' := [(1, .int (nI 0)), (0, .ref a0)]) dX3_snapshot_1 rfl (by decide) rfl ?_
  refine J_sub [1, 0] rfl ?_
  refine F (fun (i_1 : Int32) (h_2 : Hp) (kc_3 : Nat) (ks_4 : Nat) => J l K yX3_snapshot.cls cX3_snapshot 3 (some .int) wsX3_snapshot [] yX3_snapshot.name 3 106 mc ms (QM K mc ms Post) 2 [] [(0, .ref a0), (1, .int i_1)] h_2 kc_3 ks_4) ?_
  intro i_1 h_2 kc_3 ks_4 F
  refine J_iload_n dX3_snapshot_2 1 rfl ?_
  refine J_bipush (v := nI 6) dX3_snapshot_3 (by decide) ?_
  refine J_icmp_ge (tgt := 57) dX3_snapshot_5 (by decide) (fun c => ?_) (fun c => ?_)
  · replace F := F.1 c
    refine J_bipush (v := -nI 4) dX3_snapshot_57 (by decide) ?_
    obtain ⟨k9, F⟩ := F
    exact J_iret dX3_snapshot_59 rfl k9.1 k9.2 F
  · replace F := F.2 c
    refine J_aload_n dX3_snapshot_8 0 rfl ?_
    obtain ⟨p_6, g9, F⟩ := F
    refine J_get (ci := 3) (k := 2) dX3_snapshot_9 rfl in_X3_snapshot_3 (by decide) lk_X3_snapshot_20 g9 ?_
    refine J_iload_n dX3_snapshot_12 1 rfl ?_
    obtain ⟨o_7, g9, F⟩ := F
    refine J_aald (t := 5) dX3_snapshot_13 rfl g9 ?_
    refine J_ifnonnull (tgt := 51) dX3_snapshot_14 (by decide) ?_ ?_
    · intro a_8 c
      replace F := F.2 a_8 c
      try rw [c]
      refine J_iinc (v := i_1 + nI 1) (lv' := [(1, .int (i_1 + nI 1)), (0, .ref a0)]) dX3_snapshot_51 1 rfl rfl (by decide) rfl ?_
      refine J_goto (tgt := 2) dX3_snapshot_54 (by decide) ?_
      exact J_sub [1, 0] rfl F
    · intro c
      replace F := F.1 c
      try rw [c]
      refine J_aload_n dX3_snapshot_17 0 rfl ?_
      obtain ⟨p_9, g9, F⟩ := F
      refine J_get (ci := 3) (k := 1) dX3_snapshot_18 rfl in_X3_snapshot_3 (by decide) lk_X3_snapshot_16 g9 ?_
      refine J_aload_n dX3_snapshot_21 0 rfl ?_
      obtain ⟨v_10, g9, F⟩ := F
      refine J_get (ci := 3) (k := 4) dX3_snapshot_22 rfl in_X3_snapshot_3 (by decide) lk_X3_snapshot_28 g9 ?_
      obtain ⟨b9, F⟩ := F
      obtain ⟨c_12, w_13, k9, w9, F⟩ := F
      refine J_callV0 (ci := 2) (n := 1) (As := [.int v_10]) (rest := []) dX3_snapshot_25 rfl gX3_snapshot_X2_taken rfl (by decide +kernel) rfl (by decide) b9 (Nat.le_of_ble_eq_true rfl) k9 w9 F kQ_no (kQ_kk (fun o_14 h_11 F => ?_))
      refine J_astore_nq (lv' := [(2, va_rf o_14), (0, .ref a0), (1, .int i_1)]) dX3_snapshot_28 rfl (by decide) rfl ?_
      refine J_aload_n dX3_snapshot_29 1 rfl ?_
      obtain ⟨p_15, g9, F⟩ := F
      refine J_get (ci := 3) (k := 2) dX3_snapshot_30 rfl in_X3_snapshot_3 (by decide) lk_X3_snapshot_20 g9 ?_
      refine J_iload_n dX3_snapshot_33 2 rfl ?_
      refine J_aload_nq dX3_snapshot_34 0 rfl ?_
      obtain ⟨z9, F⟩ := F
      obtain ⟨h_16, g9, F⟩ := F
      refine J_aastq (t := 5) (ci := 2) dX3_snapshot_35 rfl rfl z9 g9 ?_
      refine J_aload_n dX3_snapshot_36 1 rfl ?_
      refine J_dup dX3_snapshot_37 (rfl) ?_
      obtain ⟨v_17, g9, F⟩ := F
      refine J_get (ci := 3) (k := 4) dX3_snapshot_38 rfl in_X3_snapshot_3 (by decide) lk_X3_snapshot_28 g9 ?_
      refine J_iconst (v := nI 1) dX3_snapshot_41 (by decide) ?_
      refine J_iadd dX3_snapshot_42 ?_
      obtain ⟨h_18, g9, F⟩ := F
      refine J_put (ci := 3) (k := 4) dX3_snapshot_43 rfl in_X3_snapshot_3 tyX3 tyX3_ok nmX3 (by decide) lk_X3_snapshot_28 rfl rfl rfl rfl g9 ?_
      refine J_aload_nq dX3_snapshot_46 0 rfl ?_
      obtain ⟨a_19, hq9, F⟩ := F
      rw [hq9]
      obtain ⟨v_20, g9, F⟩ := F
      refine J_get (ci := 2) (k := 0) dX3_snapshot_47 rfl in_X3_snapshot_2 (by decide) lk_X3_snapshot_181 g9 ?_
      obtain ⟨k9, F⟩ := F
      exact J_iret dX3_snapshot_50 rfl k9.1 k9.2 F

abbrev mX3_span (l : Launch) (K : Kx) (As : List Value) (h : Hp) (Post : Rs → Hp → Prop) : Prop := MX l K yX3_span wsX3_span 0 0 0 0 As h Post
set_option maxRecDepth 100000 in
set_option maxHeartbeats 4000000 in
theorem fX3_span {l : Launch} {K : Kx} {a0 : Nat} {x1 : Int32} {h : Hp} {Post : Rs → Hp → Prop} (htr : l.stackTraces = false)
    (F : (∃ v_1, gf h a0 3 8 = some (.int v_1) ∧ (∃ h_2, pf h a0 3 8 (.int x1) = some h_2 ∧ (Post (.inl (some (.int v_1))) h_2)))) :
    mX3_span l K [.ref a0, .int x1] h Post := by
  refine MX.enter htr (by decide) rfl (Nat.le_of_ble_eq_true rfl) ?_
  refine J_lveq (lv' := [(0, .ref a0), (1, .int x1)]) rfl ?_
  refine J_aload_n dX3_span_0 0 rfl ?_
  obtain ⟨v_1, g9, F⟩ := F
  refine J_get (ci := 3) (k := 8) dX3_span_1 rfl in_X3_span_3 (by decide) lk_X3_span_43 g9 ?_
  refine J_istore_n (lv' := [(2, .int v_1), (0, .ref a0), (1, .int x1)]) dX3_span_4 rfl (by decide) rfl ?_
  refine J_aload_n dX3_span_5 1 rfl ?_
  refine J_iload_n dX3_span_6 2 rfl ?_
  obtain ⟨h_2, g9, F⟩ := F
  refine J_put (ci := 3) (k := 8) dX3_span_7 rfl in_X3_span_3 tyX3 tyX3_ok nmX3 (by decide) lk_X3_span_43 rfl rfl rfl rfl g9 ?_
  refine J_iload_n dX3_span_10 0 rfl ?_
  exact J_iret dX3_span_11 rfl (Nat.le_refl _) (Nat.le_refl _) F

abbrev mX3_state (l : Launch) (K : Kx) (As : List Value) (h : Hp) (Post : Rs → Hp → Prop) : Prop := MX l K yX3_state wsX3_state 1 23 0 0 As h Post
set_option maxRecDepth 100000 in
set_option maxHeartbeats 4000000 in
theorem fX3_state {l : Launch} {K : Kx} {a0 : Nat} {x1 : Int32} {x2 : Int32} {x3 : Int32} {h : Hp} {Post : Rs → Hp → Prop} (htr : l.stackTraces = false)
    (F : mX3_isKindAndType l K [.int x2, .int x3] h (kI (fun v_2 h_1 => ((¬ v_2 = nI 0 → (∀ X_4 : Int32 → Prop, (∀ (i_3 : Int32), ((∃ p_5, gf h_1 a0 3 1 = some (.ref p_5) ∧ (∃ v_6, gf h_1 p_5 2 4 = some (.int v_6) ∧ ((v_6 ≤ i_3 → (∃ p_7, gf h_1 a0 3 1 = some (.ref p_7) ∧ (∃ v_8, gf h_1 p_7 2 4 = some (.int v_8) ∧ ((v_8 < (nI 8) → (∃ p_9, gf h_1 a0 3 0 = some (.ref p_9) ∧ (∃ p_10, gf h_1 a0 3 1 = some (.ref p_10) ∧ (∃ v_11, gf h_1 p_10 2 4 = some (.int v_11) ∧ (∃ h_12, wI K h_1 p_9 v_11 x1 = some h_12 ∧ (∃ p_13, gf h_12 a0 3 1 = some (.ref p_13) ∧ ((∃ fs, h_12 p_13 = some (xO 2 fs)) ∧ mX2_tellState l K [.ref p_13, .int x2, .int x3] h_12 (kI (fun v_15 h_14 => (Post (.inl (some (.int v_15))) h_14)))))))))) ∧ (¬ v_8 < (nI 8) → (Post (.inl (some (.int (-nI 4)))) h_1)))))) ∧ (¬ v_6 ≤ i_3 → (∃ p_16, gf h_1 a0 3 0 = some (.ref p_16) ∧ (∃ v_17, aI K h_1 p_16 i_3 = some v_17 ∧ ((¬ v_17 = x1 → X_4 (i_3 + nI 1)) ∧ (v_17 = x1 → (∃ p_18, gf h_1 a0 3 1 = some (.ref p_18) ∧ (∃ p_19, gf h_1 p_18 2 2 = some (.ref p_19) ∧ (∃ v_20, aI K h_1 p_19 i_3 = some v_20 ∧ ((¬ v_20 = x2 → (Post (.inl (some (.int (-nI 3)))) h_1)) ∧ (v_20 = x2 → (∃ p_21, gf h_1 a0 3 1 = some (.ref p_21) ∧ (∃ p_22, gf h_1 p_21 2 3 = some (.ref p_22) ∧ (∃ v_23, aI K h_1 p_22 i_3 = some v_23 ∧ ((¬ v_23 = x3 → (Post (.inl (some (.int (-nI 3)))) h_1)) ∧ (v_23 = x3 → (Post (.inl (some (.int i_3))) h_1)))))))))))))))))))) → X_4 i_3) → X_4 (nI 0))) ∧ (v_2 = nI 0 → (Post (.inl (some (.int (-nI 1)))) h_1)))))) :
    mX3_state l K [.ref a0, .int x1, .int x2, .int x3] h Post := by
  refine MX.enter htr (by decide) rfl (Nat.le_of_ble_eq_true rfl) ?_
  refine J_lveq (lv' := [(0, .ref a0), (1, .int x1), (2, .int x2), (3, .int x3)]) rfl ?_
  refine J_iload_n dX3_state_0 2 rfl ?_
  refine J_iload_n dX3_state_1 3 rfl ?_
  refine J_callS0 (n := 2) (As := [.int x2, .int x3]) (rest := []) dX3_state_2 gX3_state_X3_isKindAndType rfl (by decide +kernel) rfl (by decide) (Nat.le_of_ble_eq_true rfl) (Nat.le_refl _) (Nat.le_refl _) F kI_no (kI_kk (fun v_2 h_1 F => ?_))
  refine J_if_ne (tgt := 10) dX3_state_5 (by decide) (fun c => ?_) (fun c => ?_)
  · replace F := F.1 c
    refine J_iconst (v := nI 0) dX3_state_10 (by decide) ?_
    refine J_istore (lv' := [(4, .int (nI 0)), (0, .ref a0), (1, .int x1), (2, .int x2), (3, .int x3)]) dX3_state_11 (by decide) rfl ?_
    refine J_sub [1, 2, 3, 4, 0] rfl ?_
    refine F (fun (i_3 : Int32) => J l K yX3_state.cls cX3_state 5 (some .int) wsX3_state [] yX3_state.name 1 23 0 0 (QM K 0 0 Post) 13 [] [(0, .ref a0), (1, .int x1), (2, .int x2), (3, .int x3), (4, .int i_3)] h_1 (0 + 0) (0 + 0)) ?_
    intro i_3 F
    refine J_iload dX3_state_13 4 rfl ?_
    refine J_aload_n dX3_state_15 0 rfl ?_
    obtain ⟨p_5, g9, F⟩ := F
    refine J_get (ci := 3) (k := 1) dX3_state_16 rfl in_X3_state_3 (by decide) lk_X3_state_16 g9 ?_
    obtain ⟨v_6, g9, F⟩ := F
    refine J_get (ci := 2) (k := 4) dX3_state_19 rfl in_X3_state_2 (by decide) lk_X3_state_50 g9 ?_
    refine J_icmp_ge (tgt := 78) dX3_state_22 (by decide) (fun c => ?_) (fun c => ?_)
    · replace F := F.1 c
      refine J_aload_n dX3_state_78 0 rfl ?_
      obtain ⟨p_7, g9, F⟩ := F
      refine J_get (ci := 3) (k := 1) dX3_state_79 rfl in_X3_state_3 (by decide) lk_X3_state_16 g9 ?_
      obtain ⟨v_8, g9, F⟩ := F
      refine J_get (ci := 2) (k := 4) dX3_state_82 rfl in_X3_state_2 (by decide) lk_X3_state_50 g9 ?_
      refine J_bipush (v := nI 8) dX3_state_85 (by decide) ?_
      refine J_icmp_lt (tgt := 93) dX3_state_87 (by decide) (fun c => ?_) (fun c => ?_)
      · replace F := F.1 c
        refine J_aload_n dX3_state_93 0 rfl ?_
        obtain ⟨p_9, g9, F⟩ := F
        refine J_get (ci := 3) (k := 0) dX3_state_94 rfl in_X3_state_3 (by decide) lk_X3_state_9 g9 ?_
        refine J_aload_n dX3_state_97 0 rfl ?_
        obtain ⟨p_10, g9, F⟩ := F
        refine J_get (ci := 3) (k := 1) dX3_state_98 rfl in_X3_state_3 (by decide) lk_X3_state_16 g9 ?_
        obtain ⟨v_11, g9, F⟩ := F
        refine J_get (ci := 2) (k := 4) dX3_state_101 rfl in_X3_state_2 (by decide) lk_X3_state_50 g9 ?_
        refine J_iload_n dX3_state_104 1 rfl ?_
        obtain ⟨h_12, g9, F⟩ := F
        refine J_iast dX3_state_105 g9 ?_
        refine J_aload_n dX3_state_106 0 rfl ?_
        obtain ⟨p_13, g9, F⟩ := F
        refine J_get (ci := 3) (k := 1) dX3_state_107 rfl in_X3_state_3 (by decide) lk_X3_state_16 g9 ?_
        refine J_iload_n dX3_state_110 2 rfl ?_
        refine J_iload_n dX3_state_111 3 rfl ?_
        obtain ⟨b9, F⟩ := F
        refine J_callV0 (ci := 2) (n := 2) (As := [.int x2, .int x3]) (rest := []) dX3_state_112 rfl gX3_state_X2_tellState rfl (by decide +kernel) rfl (by decide) b9 (Nat.le_of_ble_eq_true rfl) (Nat.le_refl _) (Nat.le_refl _) F kI_no (kI_kk (fun v_15 h_14 F => ?_))
        exact J_iret dX3_state_115 rfl (Nat.le_refl _) (Nat.le_refl _) F
      · replace F := F.2 c
        refine J_bipush (v := -nI 4) dX3_state_90 (by decide) ?_
        exact J_iret dX3_state_92 rfl (Nat.le_refl _) (Nat.le_refl _) F
    · replace F := F.2 c
      refine J_aload_n dX3_state_25 0 rfl ?_
      obtain ⟨p_16, g9, F⟩ := F
      refine J_get (ci := 3) (k := 0) dX3_state_26 rfl in_X3_state_3 (by decide) lk_X3_state_9 g9 ?_
      refine J_iload dX3_state_29 4 rfl ?_
      obtain ⟨v_17, g9, F⟩ := F
      refine J_iald dX3_state_31 g9 ?_
      refine J_iload_n dX3_state_32 1 rfl ?_
      refine J_icmp_ne (tgt := 72) dX3_state_33 (by decide) (fun c => ?_) (fun c => ?_)
      · replace F := F.1 c
        refine J_iinc (v := i_3 + nI 1) (lv' := [(4, .int (i_3 + nI 1)), (0, .ref a0), (1, .int x1), (2, .int x2), (3, .int x3)]) dX3_state_72 4 rfl rfl (by decide) rfl ?_
        refine J_goto (tgt := 13) dX3_state_75 (by decide) ?_
        exact J_sub [1, 2, 3, 4, 0] rfl F
      · replace F := F.2 c
        refine J_aload_n dX3_state_36 0 rfl ?_
        obtain ⟨p_18, g9, F⟩ := F
        refine J_get (ci := 3) (k := 1) dX3_state_37 rfl in_X3_state_3 (by decide) lk_X3_state_16 g9 ?_
        obtain ⟨p_19, g9, F⟩ := F
        refine J_get (ci := 2) (k := 2) dX3_state_40 rfl in_X3_state_2 (by decide) lk_X3_state_53 g9 ?_
        refine J_iload dX3_state_43 4 rfl ?_
        obtain ⟨v_20, g9, F⟩ := F
        refine J_iald dX3_state_45 g9 ?_
        refine J_iload_n dX3_state_46 2 rfl ?_
        refine J_icmp_ne (tgt := 69) dX3_state_47 (by decide) (fun c => ?_) (fun c => ?_)
        · replace F := F.1 c
          refine J_bipush (v := -nI 3) dX3_state_69 (by decide) ?_
          exact J_iret dX3_state_71 rfl (Nat.le_refl _) (Nat.le_refl _) F
        · replace F := F.2 c
          refine J_aload_n dX3_state_50 0 rfl ?_
          obtain ⟨p_21, g9, F⟩ := F
          refine J_get (ci := 3) (k := 1) dX3_state_51 rfl in_X3_state_3 (by decide) lk_X3_state_16 g9 ?_
          obtain ⟨p_22, g9, F⟩ := F
          refine J_get (ci := 2) (k := 3) dX3_state_54 rfl in_X3_state_2 (by decide) lk_X3_state_56 g9 ?_
          refine J_iload dX3_state_57 4 rfl ?_
          obtain ⟨v_23, g9, F⟩ := F
          refine J_iald dX3_state_59 g9 ?_
          refine J_iload_n dX3_state_60 3 rfl ?_
          refine J_icmp_ne (tgt := 69) dX3_state_61 (by decide) (fun c => ?_) (fun c => ?_)
          · replace F := F.1 c
            refine J_bipush (v := -nI 3) dX3_state_69 (by decide) ?_
            exact J_iret dX3_state_71 rfl (Nat.le_refl _) (Nat.le_refl _) F
          · replace F := F.2 c
            refine J_iload dX3_state_64 4 rfl ?_
            refine J_goto (tgt := 71) dX3_state_66 (by decide) ?_
            exact J_iret dX3_state_71 rfl (Nat.le_refl _) (Nat.le_refl _) F
  · replace F := F.2 c
    refine J_iconst (v := -nI 1) dX3_state_8 (by decide) ?_
    exact J_iret dX3_state_9 rfl (Nat.le_refl _) (Nat.le_refl _) F

abbrev mX3_told (l : Launch) (K : Kx) (As : List Value) (h : Hp) (Post : Rs → Hp → Prop) : Prop := MX l K yX3_told wsX3_told 2 44 0 0 As h Post
set_option maxRecDepth 100000 in
set_option maxHeartbeats 4000000 in
theorem fX3_told {l : Launch} {K : Kx} {a0 : Nat} {x1 : Int32} {h : Hp} {Post : Rs → Hp → Prop} (htr : l.stackTraces = false)
    (F : (((x1.toInt < 0 ∨ 6 < x1.toInt) → (Post (.inl (some (.int (-nI 1)))) h)) ∧ (x1 = nI 0 → (∃ p_1, gf h a0 3 1 = some (.ref p_1) ∧ (∃ v_2, gf h p_1 2 4 = some (.int v_2) ∧ (Post (.inl (some (.int v_2))) h)))) ∧ (x1 = nI 1 → (∃ p_3, gf h a0 3 1 = some (.ref p_3) ∧ ((∃ fs, h p_3 = some (xO 2 fs)) ∧ mX2_countEntries l K [.ref p_3] h (kI (fun v_5 h_4 => (Post (.inl (some (.int v_5))) h_4)))))) ∧ (x1 = nI 2 → ((∃ fs, h a0 = some (xO 3 fs)) ∧ mX3_countSnapshots l K [.ref a0] h (kI (fun v_7 h_6 => (Post (.inl (some (.int v_7))) h_6))))) ∧ (x1 = nI 3 → (∃ p_8, gf h a0 3 1 = some (.ref p_8) ∧ ((∃ fs, h p_8 = some (xO 2 fs)) ∧ mX2_countShared l K [.ref p_8] h (kI (fun v_10 h_9 => (Post (.inl (some (.int v_10))) h_9)))))) ∧ (x1 = nI 4 → (∃ v_11, gf h a0 3 5 = some (.int v_11) ∧ (Post (.inl (some (.int v_11))) h))) ∧ (x1 = nI 5 → (∃ p_12, gf h a0 3 1 = some (.ref p_12) ∧ ((∃ fs, h p_12 = some (xO 2 fs)) ∧ mX2_countPagesInUse l K [.ref p_12] h (kI (fun v_14 h_13 => (Post (.inl (some (.int v_14))) h_13)))))) ∧ (x1 = nI 6 → (∃ p_15, gf h a0 3 1 = some (.ref p_15) ∧ ((∃ fs, h p_15 = some (xO 2 fs)) ∧ mX2_countNumbers l K [.ref p_15] h (kI (fun v_17 h_16 => (Post (.inl (some (.int v_17))) h_16)))))))) :
    mX3_told l K [.ref a0, .int x1] h Post := by
  refine MX.enter htr (by decide) rfl (Nat.le_of_ble_eq_true rfl) ?_
  refine J_lveq (lv' := [(0, .ref a0), (1, .int x1)]) rfl ?_
  refine J_iload_n dX3_told_0 1 rfl ?_
  rcases sw_cases 6 x1 with c | ⟨j9, hj9, e9⟩
  · replace F := F.1 c
    refine J_tableOut (tgt := 94) dX3_told_1 c (by decide) ?_
    refine J_iconst (v := -nI 1) dX3_told_94 (by decide) ?_
    exact J_iret dX3_told_95 rfl (Nat.le_refl _) (Nat.le_refl _) F
  · match j9, hj9, e9 with
    | 0, _, e9 =>
      replace F := F.2.1 e9
      refine J_tableIn (tgt := 44) (off := 43) dX3_told_1 (by rw [e9]; decide) (by rw [e9]; decide) (by rw [e9]; rfl) (by decide) ?_
      refine J_aload_n dX3_told_44 0 rfl ?_
      obtain ⟨p_1, g9, F⟩ := F
      refine J_get (ci := 3) (k := 1) dX3_told_45 rfl in_X3_told_3 (by decide) lk_X3_told_16 g9 ?_
      obtain ⟨v_2, g9, F⟩ := F
      refine J_get (ci := 2) (k := 4) dX3_told_48 rfl in_X3_told_2 (by decide) lk_X3_told_50 g9 ?_
      exact J_iret dX3_told_51 rfl (Nat.le_refl _) (Nat.le_refl _) F
    | 1, _, e9 =>
      replace F := F.2.2.1 e9
      refine J_tableIn (tgt := 52) (off := 51) dX3_told_1 (by rw [e9]; decide) (by rw [e9]; decide) (by rw [e9]; rfl) (by decide) ?_
      refine J_aload_n dX3_told_52 0 rfl ?_
      obtain ⟨p_3, g9, F⟩ := F
      refine J_get (ci := 3) (k := 1) dX3_told_53 rfl in_X3_told_3 (by decide) lk_X3_told_16 g9 ?_
      obtain ⟨b9, F⟩ := F
      refine J_callV0 (ci := 2) (n := 0) (As := []) (rest := []) dX3_told_56 rfl gX3_told_X2_countEntries rfl (by decide +kernel) rfl (by decide) b9 (Nat.le_of_ble_eq_true rfl) (Nat.le_refl _) (Nat.le_refl _) F kI_no (kI_kk (fun v_5 h_4 F => ?_))
      exact J_iret dX3_told_59 rfl (Nat.le_refl _) (Nat.le_refl _) F
    | 2, _, e9 =>
      replace F := F.2.2.2.1 e9
      refine J_tableIn (tgt := 60) (off := 59) dX3_told_1 (by rw [e9]; decide) (by rw [e9]; decide) (by rw [e9]; rfl) (by decide) ?_
      refine J_aload_n dX3_told_60 0 rfl ?_
      obtain ⟨b9, F⟩ := F
      refine J_callV0 (ci := 3) (n := 0) (As := []) (rest := []) dX3_told_61 rfl gX3_told_X3_countSnapshots rfl (by decide +kernel) rfl (by decide) b9 (Nat.le_of_ble_eq_true rfl) (Nat.le_refl _) (Nat.le_refl _) F kI_no (kI_kk (fun v_7 h_6 F => ?_))
      exact J_iret dX3_told_64 rfl (Nat.le_refl _) (Nat.le_refl _) F
    | 3, _, e9 =>
      replace F := F.2.2.2.2.1 e9
      refine J_tableIn (tgt := 65) (off := 64) dX3_told_1 (by rw [e9]; decide) (by rw [e9]; decide) (by rw [e9]; rfl) (by decide) ?_
      refine J_aload_n dX3_told_65 0 rfl ?_
      obtain ⟨p_8, g9, F⟩ := F
      refine J_get (ci := 3) (k := 1) dX3_told_66 rfl in_X3_told_3 (by decide) lk_X3_told_16 g9 ?_
      obtain ⟨b9, F⟩ := F
      refine J_callV0 (ci := 2) (n := 0) (As := []) (rest := []) dX3_told_69 rfl gX3_told_X2_countShared rfl (by decide +kernel) rfl (by decide) b9 (Nat.le_of_ble_eq_true rfl) (Nat.le_refl _) (Nat.le_refl _) F kI_no (kI_kk (fun v_10 h_9 F => ?_))
      exact J_iret dX3_told_72 rfl (Nat.le_refl _) (Nat.le_refl _) F
    | 4, _, e9 =>
      replace F := F.2.2.2.2.2.1 e9
      refine J_tableIn (tgt := 73) (off := 72) dX3_told_1 (by rw [e9]; decide) (by rw [e9]; decide) (by rw [e9]; rfl) (by decide) ?_
      refine J_aload_n dX3_told_73 0 rfl ?_
      obtain ⟨v_11, g9, F⟩ := F
      refine J_get (ci := 3) (k := 5) dX3_told_74 rfl in_X3_told_3 (by decide) lk_X3_told_32 g9 ?_
      exact J_iret dX3_told_77 rfl (Nat.le_refl _) (Nat.le_refl _) F
    | 5, _, e9 =>
      replace F := F.2.2.2.2.2.2.1 e9
      refine J_tableIn (tgt := 78) (off := 77) dX3_told_1 (by rw [e9]; decide) (by rw [e9]; decide) (by rw [e9]; rfl) (by decide) ?_
      refine J_aload_n dX3_told_78 0 rfl ?_
      obtain ⟨p_12, g9, F⟩ := F
      refine J_get (ci := 3) (k := 1) dX3_told_79 rfl in_X3_told_3 (by decide) lk_X3_told_16 g9 ?_
      obtain ⟨b9, F⟩ := F
      refine J_callV0 (ci := 2) (n := 0) (As := []) (rest := []) dX3_told_82 rfl gX3_told_X2_countPagesInUse rfl (by decide +kernel) rfl (by decide) b9 (Nat.le_of_ble_eq_true rfl) (Nat.le_refl _) (Nat.le_refl _) F kI_no (kI_kk (fun v_14 h_13 F => ?_))
      exact J_iret dX3_told_85 rfl (Nat.le_refl _) (Nat.le_refl _) F
    | 6, _, e9 =>
      replace F := F.2.2.2.2.2.2.2 e9
      refine J_tableIn (tgt := 86) (off := 85) dX3_told_1 (by rw [e9]; decide) (by rw [e9]; decide) (by rw [e9]; rfl) (by decide) ?_
      refine J_aload_n dX3_told_86 0 rfl ?_
      obtain ⟨p_15, g9, F⟩ := F
      refine J_get (ci := 3) (k := 1) dX3_told_87 rfl in_X3_told_3 (by decide) lk_X3_told_16 g9 ?_
      obtain ⟨b9, F⟩ := F
      refine J_callV0 (ci := 2) (n := 0) (As := []) (rest := []) dX3_told_90 rfl gX3_told_X2_countNumbers rfl (by decide +kernel) rfl (by decide) b9 (Nat.le_of_ble_eq_true rfl) (Nat.le_refl _) (Nat.le_refl _) F kI_no (kI_kk (fun v_17 h_16 F => ?_))
      exact J_iret dX3_told_93 rfl (Nat.le_refl _) (Nat.le_refl _) F
    | n9 + 7, h9, _ => exact absurd h9 (by omega)

abbrev mX3_value (l : Launch) (K : Kx) (mc ms : Nat) (As : List Value) (h : Hp) (Post : Rs → Hp → Prop) : Prop := MX l K yX3_value wsX3_value 8 134 mc ms As h Post
set_option maxRecDepth 100000 in
set_option maxHeartbeats 4000000 in
theorem fX3_value {l : Launch} {K : Kx} {mc ms : Nat} {a0 : Nat} {x1 : Int32} {h : Hp} {Post : Rs → Hp → Prop} (htr : l.stackTraces = false)
    (F : ((∃ fs, h a0 = some (xO 3 fs)) ∧ (∃ c_2 w_3, 0 + c_2 ≤ mc ∧ 0 + w_3 ≤ ms ∧ mX3_needToRead l K c_2 w_3 [.ref a0, .int x1, .int (nI 0), .int (nI 3)] h (kVX (fun h_1 => ((∃ fs, h_1 a0 = some (xO 3 fs)) ∧ (∃ c_5 w_6, (0 + c_2) + c_5 ≤ mc ∧ (0 + w_3) + w_6 ≤ ms ∧ mX3_entryAtHand l K c_5 w_6 [.ref a0, .int x1] h_1 (kQ (fun o_7 h_4 => (∃ a_8, o_7 = some a_8 ∧ ((∃ fs, h_4 a_8 = some (xO 0 fs)) ∧ (((0 + c_2) + c_5) + 0 ≤ mc ∧ ((0 + w_3) + w_6) + 0 ≤ ms ∧ mX0_isNone l K [.ref a_8] h_4 (kI (fun v_10 h_9 => ((v_10 = nI 0 → (∃ p_11, gf h_9 a_8 0 3 = some (.ref p_11) ∧ (∃ u_12, aJ K h_9 p_11 (nI 0) = some u_12 ∧ (((((0 + c_2) + c_5) + 0) ≤ mc ∧ (((0 + w_3) + w_6) + 0) ≤ ms) ∧ Post (.inl (some (.long u_12))) h_9)))) ∧ (¬ v_10 = nI 0 → ((((0 + c_2) + c_5) + 0) + 1 ≤ mc ∧ (((0 + w_3) + w_6) + 0) + 6 ≤ ms ∧ Post (.inr "java/util/NoSuchElementException") h_9))))))))))))) (fun E9 h9 => Post (.inr E9) h9))))) :
    mX3_value l K mc ms [.ref a0, .int x1] h Post := by
  refine MX.enter htr (by decide) rfl (Nat.le_of_ble_eq_true rfl) ?_
  refine J_lveq (lv' := [(0, .ref a0), (1, .int x1)]) rfl ?_
  refine J_aload_n dX3_value_0 0 rfl ?_
  refine J_iload_n dX3_value_1 1 rfl ?_
  refine J_iconst (v := nI 0) dX3_value_2 (by decide) ?_
  refine J_iconst (v := nI 3) dX3_value_3 (by decide) ?_
  obtain ⟨b9, F⟩ := F
  obtain ⟨c_2, w_3, k9, w9, F⟩ := F
  refine J_callV (ci := 3) (n := 3) (As := [.int x1, .int (nI 0), .int (nI 3)]) (rest := []) dX3_value_4 rfl gX3_value_X3_needToRead rfl (by decide +kernel) rfl (by decide) b9 (Nat.le_of_ble_eq_true rfl) k9 w9 F (kVX_kk (fun h_1 F => ?_)) (fun _ _ q9 => kVX_x q9)
  refine J_aload_n dX3_value_7 0 rfl ?_
  refine J_iload_n dX3_value_8 1 rfl ?_
  obtain ⟨b9, F⟩ := F
  obtain ⟨c_5, w_6, k9, w9, F⟩ := F
  refine J_callV0 (ci := 3) (n := 1) (As := [.int x1]) (rest := []) dX3_value_9 rfl gX3_value_X3_entryAtHand rfl (by decide +kernel) rfl (by decide) b9 (Nat.le_of_ble_eq_true rfl) k9 w9 F kQ_no (kQ_kk (fun o_7 h_4 F => ?_))
  refine J_astore_nq (lv' := [(2, va_rf o_7), (0, .ref a0), (1, .int x1)]) dX3_value_12 rfl (by decide) rfl ?_
  refine J_aload_nq dX3_value_13 0 rfl ?_
  obtain ⟨a_8, hq9, F⟩ := F
  rw [hq9]
  obtain ⟨b9, F⟩ := F
  obtain ⟨k9, w9, F⟩ := F
  refine J_callV0 (ci := 0) (n := 0) (As := []) (rest := []) dX3_value_14 rfl gX3_value_X0_isNone rfl (by decide +kernel) rfl (by decide) b9 (Nat.le_of_ble_eq_true rfl) k9 w9 F kI_no (kI_kk (fun v_10 h_9 F => ?_))
  refine J_if_eq (tgt := 30) dX3_value_17 (by decide) (fun c => ?_) (fun c => ?_)
  · replace F := F.1 c
    refine J_aload_n dX3_value_30 0 rfl ?_
    obtain ⟨p_11, g9, F⟩ := F
    refine J_get (ci := 0) (k := 3) dX3_value_31 rfl in_X3_value_0 (by decide) lk_X3_value_100 g9 ?_
    refine J_iconst (v := nI 0) dX3_value_34 (by decide) ?_
    obtain ⟨u_12, g9, F⟩ := F
    refine J_lald dX3_value_35 g9 ?_
    obtain ⟨k9, F⟩ := F
    exact J_lret dX3_value_36 rfl k9.1 k9.2 F
  · replace F := F.2 c
    exact J_throw (text := "there is no entry") (names := ["java/lang/RuntimeException", "java/lang/Exception"]) dX3_value_20 dX3_value_23 dX3_value_24 dX3_value_26 dX3_value_29 (by decide) (by decide) wd_X3_value_k93 wd_X3_value_i_NoSuchElementException (by decide +kernel) at_X3_value_97 atn_97 (by decide +kernel) gd_93_97 (by decide) (Nat.le_of_ble_eq_true rfl) F.1 F.2.1 F.2.2

