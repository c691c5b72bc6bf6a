set_option maxRecDepth 20000 in
theorem wd_X3_fits_c288 : Cond.constantLong RX3 288 (lN 1000) ∈ wsX3_fits := by decide +kernel
set_option maxRecDepth 20000 in
theorem wd_X3_fits_c286 : Cond.constantLong RX3 286 (-lN 1000) ∈ wsX3_fits := by decide +kernel
set_option maxRecDepth 20000 in
theorem wd_X0_allFit_iRX3 : Cond.initialized RX3 ∈ wsX0_allFit := by decide +kernel
set_option maxRecDepth 20000 in
theorem wd_X0_allFit_st_X3_fits : Cond.static yX3_fits ∈ wsX0_allFit := by decide +kernel
set_option maxRecDepth 20000 in
theorem in_X0_allFit_0 : ∀ w ∈ u_ws RX0 TX0 6, w ∈ wsX0_allFit := by decide +kernel
set_option maxRecDepth 20000 in
theorem lk_X0_allFit_26 : Cond.fieldLink RX0 26 (TX0 3).1 (TX0 3).2.1 (TX0 3).2.2.1 ∈ wsX0_allFit := by decide +kernel
set_option maxRecDepth 20000 in
theorem in_X0_init__0 : ∀ w ∈ u_ws RX0 TX0 6, w ∈ wsX0_init_ := by decide +kernel
set_option maxRecDepth 20000 in
theorem lk_X0_init__32 : Cond.fieldLink RX0 32 (TX0 5).1 (TX0 5).2.1 (TX0 5).2.2.1 ∈ wsX0_init_ := by decide +kernel
set_option maxRecDepth 20000 in
theorem lk_X0_init__29 : Cond.fieldLink RX0 29 (TX0 4).1 (TX0 4).2.1 (TX0 4).2.2.1 ∈ wsX0_init_ := by decide +kernel
set_option maxRecDepth 20000 in
theorem lk_X0_init__26 : Cond.fieldLink RX0 26 (TX0 3).1 (TX0 3).2.1 (TX0 3).2.2.1 ∈ wsX0_init_ := by decide +kernel
set_option maxRecDepth 20000 in
theorem lk_X0_init__19 : Cond.fieldLink RX0 19 (TX0 2).1 (TX0 2).2.1 (TX0 2).2.2.1 ∈ wsX0_init_ := by decide +kernel
set_option maxRecDepth 20000 in
theorem lk_X0_init__15 : Cond.fieldLink RX0 15 (TX0 1).1 (TX0 1).2.1 (TX0 1).2.2.1 ∈ wsX0_init_ := by decide +kernel
set_option maxRecDepth 20000 in
theorem lk_X0_init__9 : Cond.fieldLink RX0 9 (TX0 0).1 (TX0 0).2.1 (TX0 0).2.2.1 ∈ wsX0_init_ := by decide +kernel
set_option maxRecDepth 20000 in
theorem wd_X0_init__m3 : Cond.methodLink RX0 3 Lib.objectInit ∈ wsX0_init_ := by decide +kernel
set_option maxRecDepth 20000 in
theorem wd_X0_init__oi : Cond.instanceMethod Lib.objectInit ∈ wsX0_init_ := by decide +kernel
set_option maxRecDepth 20000 in
theorem wd_X0_init__oc : Cond.code Lib.objectInit ⟨#[0xb1]⟩ 1 none ∈ wsX0_init_ := by decide +kernel
set_option maxRecDepth 20000 in
theorem in_X0_isNone_0 : ∀ w ∈ u_ws RX0 TX0 6, w ∈ wsX0_isNone := by decide +kernel
set_option maxRecDepth 20000 in
theorem lk_X0_isNone_26 : Cond.fieldLink RX0 26 (TX0 3).1 (TX0 3).2.1 (TX0 3).2.2.1 ∈ wsX0_isNone := by decide +kernel
set_option maxRecDepth 20000 in
theorem wd_X3_joined_mm298 : Cond.methodLink RX3 298 Lib.MathLoose.max_long.x ∈ wsX3_joined := by decide +kernel
set_option maxRecDepth 20000 in
theorem wd_X3_joined_ms298 : Cond.static Lib.MathLoose.max_long.x ∈ wsX3_joined := by decide +kernel
set_option maxRecDepth 20000 in
theorem wd_X3_joined_mi : Cond.initialized "java/lang/Math" ∈ wsX3_joined := by decide +kernel
set_option maxRecDepth 20000 in
theorem wd_X3_joined_mc298 : Cond.code Lib.MathLoose.max_long.x Lib.MathLoose.max_long.code 4 (some .long) ∈ wsX3_joined := by decide +kernel
set_option maxRecDepth 20000 in
theorem wd_X3_joined_mm292 : Cond.methodLink RX3 292 Lib.MathLoose.min_long.x ∈ wsX3_joined := by decide +kernel
set_option maxRecDepth 20000 in
theorem wd_X3_joined_ms292 : Cond.static Lib.MathLoose.min_long.x ∈ wsX3_joined := by decide +kernel
set_option maxRecDepth 20000 in
theorem wd_X3_joined_mc292 : Cond.code Lib.MathLoose.min_long.x Lib.MathLoose.min_long.code 4 (some .long) ∈ wsX3_joined := by decide +kernel
set_option maxRecDepth 20000 in
theorem wd_X0_foldedUp_iRX0 : Cond.initialized RX0 ∈ wsX0_foldedUp := by decide +kernel
set_option maxRecDepth 20000 in
theorem wd_X0_foldedUp_ml39 : Cond.methodLink RX0 39 yX0_init_ ∈ wsX0_foldedUp := by decide +kernel
set_option maxRecDepth 20000 in
theorem wd_X0_foldedUp_im_X0_init_ : Cond.instanceMethod yX0_init_ ∈ wsX0_foldedUp := by decide +kernel
set_option maxRecDepth 20000 in
theorem in_X0_foldedUp_0 : ∀ w ∈ u_ws RX0 TX0 6, w ∈ wsX0_foldedUp := by decide +kernel
set_option maxRecDepth 20000 in
theorem lk_X0_foldedUp_26 : Cond.fieldLink RX0 26 (TX0 3).1 (TX0 3).2.1 (TX0 3).2.2.1 ∈ wsX0_foldedUp := by decide +kernel
set_option maxRecDepth 20000 in
theorem wd_X0_foldedUp_a1 : Cond.arrayClass (newarray.typeOf .long) ∈ wsX0_foldedUp := by decide +kernel
set_option maxRecDepth 20000 in
theorem wd_X0_foldedUp_k10 : Cond.classLink RX0 10 RX0 ∈ wsX0_foldedUp := by decide +kernel
set_option maxRecDepth 20000 in
theorem wd_X0_foldedUp_n0 : Cond.instantiable RX0 6 ∈ wsX0_foldedUp := by decide +kernel
set_option maxRecDepth 20000 in
theorem wd_X0_foldedUp_i0 : Cond.initialized RX0 ∈ wsX0_foldedUp := by decide +kernel
set_option maxRecDepth 20000 in
theorem wd_X0_foldedUp_iRX3 : Cond.initialized RX3 ∈ wsX0_foldedUp := by decide +kernel
set_option maxRecDepth 20000 in
theorem wd_X0_foldedUp_st_X3_joined : Cond.static yX3_joined ∈ wsX0_foldedUp := by decide +kernel
set_option maxRecDepth 20000 in
theorem in_X0_hasMember_0 : ∀ w ∈ u_ws RX0 TX0 6, w ∈ wsX0_hasMember := by decide +kernel
set_option maxRecDepth 20000 in
theorem lk_X0_hasMember_29 : Cond.fieldLink RX0 29 (TX0 4).1 (TX0 4).2.1 (TX0 4).2.2.1 ∈ wsX0_hasMember := by decide +kernel
set_option maxRecDepth 20000 in
theorem in_X0_init_0 : ∀ w ∈ u_ws RX0 TX0 6, w ∈ wsX0_init := by decide +kernel
set_option maxRecDepth 20000 in
theorem lk_X0_init_32 : Cond.fieldLink RX0 32 (TX0 5).1 (TX0 5).2.1 (TX0 5).2.2.1 ∈ wsX0_init := by decide +kernel
set_option maxRecDepth 20000 in
theorem lk_X0_init_29 : Cond.fieldLink RX0 29 (TX0 4).1 (TX0 4).2.1 (TX0 4).2.2.1 ∈ wsX0_init := by decide +kernel
set_option maxRecDepth 20000 in
theorem lk_X0_init_26 : Cond.fieldLink RX0 26 (TX0 3).1 (TX0 3).2.1 (TX0 3).2.2.1 ∈ wsX0_init := by decide +kernel
set_option maxRecDepth 20000 in
theorem lk_X0_init_19 : Cond.fieldLink RX0 19 (TX0 2).1 (TX0 2).2.1 (TX0 2).2.2.1 ∈ wsX0_init := by decide +kernel
set_option maxRecDepth 20000 in
theorem lk_X0_init_15 : Cond.fieldLink RX0 15 (TX0 1).1 (TX0 1).2.1 (TX0 1).2.2.1 ∈ wsX0_init := by decide +kernel
set_option maxRecDepth 20000 in
theorem lk_X0_init_9 : Cond.fieldLink RX0 9 (TX0 0).1 (TX0 0).2.1 (TX0 0).2.2.1 ∈ wsX0_init := by decide +kernel
set_option maxRecDepth 20000 in
theorem wd_X0_init_m3 : Cond.methodLink RX0 3 Lib.objectInit ∈ wsX0_init := by decide +kernel
set_option maxRecDepth 20000 in
theorem wd_X0_init_oi : Cond.instanceMethod Lib.objectInit ∈ wsX0_init := by decide +kernel
set_option maxRecDepth 20000 in
theorem wd_X0_init_oc : Cond.code Lib.objectInit ⟨#[0xb1]⟩ 1 none ∈ wsX0_init := by decide +kernel
set_option maxRecDepth 20000 in
theorem wd_X0_inserted_ac71 : Cond.methodLink RX0 71 arraycopyName ∈ wsX0_inserted := by decide +kernel
set_option maxRecDepth 20000 in
theorem wd_X0_inserted_acn : Cond.native arraycopyName ∈ wsX0_inserted := by decide +kernel
set_option maxRecDepth 20000 in
theorem wd_X0_inserted_acs : Cond.static arraycopyName ∈ wsX0_inserted := by decide +kernel
set_option maxRecDepth 20000 in
theorem wd_X0_inserted_aci : Cond.initialized "java/lang/System" ∈ wsX0_inserted := by decide +kernel
set_option maxRecDepth 20000 in
theorem wd_X0_inserted_a1 : Cond.arrayClass (newarray.typeOf .long) ∈ wsX0_inserted := by decide +kernel
set_option maxRecDepth 20000 in
theorem in_X0_isAt_0 : ∀ w ∈ u_ws RX0 TX0 6, w ∈ wsX0_isAt := by decide +kernel
set_option maxRecDepth 20000 in
theorem lk_X0_isAt_19 : Cond.fieldLink RX0 19 (TX0 2).1 (TX0 2).2.1 (TX0 2).2.2.1 ∈ wsX0_isAt := by decide +kernel
set_option maxRecDepth 20000 in
theorem lk_X0_isAt_15 : Cond.fieldLink RX0 15 (TX0 1).1 (TX0 1).2.1 (TX0 1).2.2.1 ∈ wsX0_isAt := by decide +kernel
set_option maxRecDepth 20000 in
theorem lk_X0_isAt_9 : Cond.fieldLink RX0 9 (TX0 0).1 (TX0 0).2.1 (TX0 0).2.2.1 ∈ wsX0_isAt := by decide +kernel
set_option maxRecDepth 20000 in
theorem wd_X0_movedTo_iRX0 : Cond.initialized RX0 ∈ wsX0_movedTo := by decide +kernel
set_option maxRecDepth 20000 in
theorem wd_X0_movedTo_ml39 : Cond.methodLink RX0 39 yX0_init_ ∈ wsX0_movedTo := by decide +kernel
set_option maxRecDepth 20000 in
theorem wd_X0_movedTo_im_X0_init_ : Cond.instanceMethod yX0_init_ ∈ wsX0_movedTo := by decide +kernel
set_option maxRecDepth 20000 in
theorem in_X0_movedTo_0 : ∀ w ∈ u_ws RX0 TX0 6, w ∈ wsX0_movedTo := by decide +kernel
set_option maxRecDepth 20000 in
theorem lk_X0_movedTo_26 : Cond.fieldLink RX0 26 (TX0 3).1 (TX0 3).2.1 (TX0 3).2.2.1 ∈ wsX0_movedTo := by decide +kernel
set_option maxRecDepth 20000 in
theorem wd_X0_movedTo_k10 : Cond.classLink RX0 10 RX0 ∈ wsX0_movedTo := by decide +kernel
set_option maxRecDepth 20000 in
theorem wd_X0_movedTo_n0 : Cond.instantiable RX0 6 ∈ wsX0_movedTo := by decide +kernel
set_option maxRecDepth 20000 in
theorem wd_X0_movedTo_i0 : Cond.initialized RX0 ∈ wsX0_movedTo := by decide +kernel
set_option maxRecDepth 20000 in
theorem lk_X0_movedTo_32 : Cond.fieldLink RX0 32 (TX0 5).1 (TX0 5).2.1 (TX0 5).2.2.1 ∈ wsX0_movedTo := by decide +kernel
set_option maxRecDepth 20000 in
theorem lk_X0_movedTo_29 : Cond.fieldLink RX0 29 (TX0 4).1 (TX0 4).2.1 (TX0 4).2.2.1 ∈ wsX0_movedTo := by decide +kernel
set_option maxRecDepth 20000 in
theorem wd_X0_placeOf_iRX3 : Cond.initialized RX3 ∈ wsX0_placeOf := by decide +kernel
set_option maxRecDepth 20000 in
theorem wd_X0_placeOf_st_X3_countBelow : Cond.static yX3_countBelow ∈ wsX0_placeOf := by decide +kernel
set_option maxRecDepth 20000 in
theorem in_X0_placeOf_0 : ∀ w ∈ u_ws RX0 TX0 6, w ∈ wsX0_placeOf := by decide +kernel
set_option maxRecDepth 20000 in
theorem lk_X0_placeOf_29 : Cond.fieldLink RX0 29 (TX0 4).1 (TX0 4).2.1 (TX0 4).2.2.1 ∈ wsX0_placeOf := by decide +kernel
set_option maxRecDepth 20000 in
theorem wd_X0_withFolded_iRX0 : Cond.initialized RX0 ∈ wsX0_withFolded := by decide +kernel
set_option maxRecDepth 20000 in
theorem wd_X0_withFolded_ml39 : Cond.methodLink RX0 39 yX0_init_ ∈ wsX0_withFolded := by decide +kernel
set_option maxRecDepth 20000 in
theorem wd_X0_withFolded_im_X0_init_ : Cond.instanceMethod yX0_init_ ∈ wsX0_withFolded := by decide +kernel
set_option maxRecDepth 20000 in
theorem in_X0_withFolded_0 : ∀ w ∈ u_ws RX0 TX0 6, w ∈ wsX0_withFolded := by decide +kernel
set_option maxRecDepth 20000 in
theorem lk_X0_withFolded_32 : Cond.fieldLink RX0 32 (TX0 5).1 (TX0 5).2.1 (TX0 5).2.2.1 ∈ wsX0_withFolded := by decide +kernel
set_option maxRecDepth 20000 in
theorem wd_X0_withFolded_a1 : Cond.arrayClass (newarray.typeOf .long) ∈ wsX0_withFolded := by decide +kernel
set_option maxRecDepth 20000 in
theorem wd_X0_withFolded_k10 : Cond.classLink RX0 10 RX0 ∈ wsX0_withFolded := by decide +kernel
set_option maxRecDepth 20000 in
theorem wd_X0_withFolded_n0 : Cond.instantiable RX0 6 ∈ wsX0_withFolded := by decide +kernel
set_option maxRecDepth 20000 in
theorem wd_X0_withFolded_i0 : Cond.initialized RX0 ∈ wsX0_withFolded := by decide +kernel
set_option maxRecDepth 20000 in
theorem wd_X0_withFolded_iRX3 : Cond.initialized RX3 ∈ wsX0_withFolded := by decide +kernel
set_option maxRecDepth 20000 in
theorem wd_X0_withFolded_st_X3_joined : Cond.static yX3_joined ∈ wsX0_withFolded := by decide +kernel
set_option maxRecDepth 20000 in
theorem lk_X0_withFolded_26 : Cond.fieldLink RX0 26 (TX0 3).1 (TX0 3).2.1 (TX0 3).2.2.1 ∈ wsX0_withFolded := by decide +kernel
set_option maxRecDepth 20000 in
theorem wd_X0_withMember_iRX0 : Cond.initialized RX0 ∈ wsX0_withMember := by decide +kernel
set_option maxRecDepth 20000 in
theorem wd_X0_withMember_ml39 : Cond.methodLink RX0 39 yX0_init_ ∈ wsX0_withMember := by decide +kernel
set_option maxRecDepth 20000 in
theorem wd_X0_withMember_im_X0_init_ : Cond.instanceMethod yX0_init_ ∈ wsX0_withMember := by decide +kernel
set_option maxRecDepth 20000 in
theorem in_X0_withMember_0 : ∀ w ∈ u_ws RX0 TX0 6, w ∈ wsX0_withMember := by decide +kernel
set_option maxRecDepth 20000 in
theorem lk_X0_withMember_29 : Cond.fieldLink RX0 29 (TX0 4).1 (TX0 4).2.1 (TX0 4).2.2.1 ∈ wsX0_withMember := by decide +kernel
set_option maxRecDepth 20000 in
theorem lk_X0_withMember_26 : Cond.fieldLink RX0 26 (TX0 3).1 (TX0 3).2.1 (TX0 3).2.2.1 ∈ wsX0_withMember := by decide +kernel
set_option maxRecDepth 20000 in
theorem wd_X0_withMember_k10 : Cond.classLink RX0 10 RX0 ∈ wsX0_withMember := by decide +kernel
set_option maxRecDepth 20000 in
theorem wd_X0_withMember_n0 : Cond.instantiable RX0 6 ∈ wsX0_withMember := by decide +kernel
set_option maxRecDepth 20000 in
theorem wd_X0_withMember_i0 : Cond.initialized RX0 ∈ wsX0_withMember := by decide +kernel
set_option maxRecDepth 20000 in
theorem wd_X0_withNothing_iRX0 : Cond.initialized RX0 ∈ wsX0_withNothing := by decide +kernel
set_option maxRecDepth 20000 in
theorem wd_X0_withNothing_ml39 : Cond.methodLink RX0 39 yX0_init_ ∈ wsX0_withNothing := by decide +kernel
set_option maxRecDepth 20000 in
theorem wd_X0_withNothing_im_X0_init_ : Cond.instanceMethod yX0_init_ ∈ wsX0_withNothing := by decide +kernel
set_option maxRecDepth 20000 in
theorem in_X0_withNothing_0 : ∀ w ∈ u_ws RX0 TX0 6, w ∈ wsX0_withNothing := by decide +kernel
set_option maxRecDepth 20000 in
theorem wd_X0_withNothing_k10 : Cond.classLink RX0 10 RX0 ∈ wsX0_withNothing := by decide +kernel
set_option maxRecDepth 20000 in
theorem wd_X0_withNothing_n0 : Cond.instantiable RX0 6 ∈ wsX0_withNothing := by decide +kernel
set_option maxRecDepth 20000 in
theorem wd_X0_withNothing_i0 : Cond.initialized RX0 ∈ wsX0_withNothing := by decide +kernel
set_option maxRecDepth 20000 in
theorem wd_J7_copyOf_c38d5_ac150 : Cond.methodLink RJ7 150 arraycopyName ∈ wsJ7_copyOf_c38d5 := by decide +kernel
set_option maxRecDepth 20000 in
theorem wd_J7_copyOf_c38d5_acn : Cond.native arraycopyName ∈ wsJ7_copyOf_c38d5 := by decide +kernel
set_option maxRecDepth 20000 in
theorem wd_J7_copyOf_c38d5_acs : Cond.static arraycopyName ∈ wsJ7_copyOf_c38d5 := by decide +kernel
set_option maxRecDepth 20000 in
theorem wd_J7_copyOf_c38d5_aci : Cond.initialized "java/lang/System" ∈ wsJ7_copyOf_c38d5 := by decide +kernel
set_option maxRecDepth 20000 in
theorem wd_J7_copyOf_c38d5_mm304 : Cond.methodLink RJ7 304 Lib.Math.min.name ∈ wsJ7_copyOf_c38d5 := by decide +kernel
set_option maxRecDepth 20000 in
theorem wd_J7_copyOf_c38d5_ms304 : Cond.static Lib.Math.min.name ∈ wsJ7_copyOf_c38d5 := by decide +kernel
set_option maxRecDepth 20000 in
theorem wd_J7_copyOf_c38d5_mi : Cond.initialized "java/lang/Math" ∈ wsJ7_copyOf_c38d5 := by decide +kernel
set_option maxRecDepth 20000 in
theorem wd_J7_copyOf_c38d5_mc304 : Cond.code Lib.Math.min.name Lib.Math.min.code 2 (some .int) ∈ wsJ7_copyOf_c38d5 := by decide +kernel
set_option maxRecDepth 20000 in
theorem wd_J7_copyOf_c38d5_a1 : Cond.arrayClass (newarray.typeOf .long) ∈ wsJ7_copyOf_c38d5 := by decide +kernel
set_option maxRecDepth 20000 in
theorem wd_J7_copyOf_c38d5_k320 : Cond.classLink RJ7 320 "[J" ∈ wsJ7_copyOf_c38d5 := by decide +kernel
set_option maxRecDepth 20000 in
theorem wd_J7_copyOf_c38d5_cl1 : Cond.methodLink RJ7 319 ⟨"[J", "clone", "()Ljava/lang/Object;"⟩ ∈ wsJ7_copyOf_c38d5 := by decide +kernel
set_option maxRecDepth 20000 in
theorem wd_J7_copyOf_c38d5_cl2 : Cond.sameMethod "[J" "java/lang/Object" "clone" "()Ljava/lang/Object;" ∈ wsJ7_copyOf_c38d5 := by decide +kernel
set_option maxRecDepth 20000 in
theorem wd_J7_copyOf_c38d5_cl3 : Cond.native ⟨"java/lang/Object", "clone", "()Ljava/lang/Object;"⟩ ∈ wsJ7_copyOf_c38d5 := by decide +kernel
set_option maxRecDepth 20000 in
theorem wd_J7_copyOf_c38d5_cl4 : Cond.instanceMethod ⟨"java/lang/Object", "clone", "()Ljava/lang/Object;"⟩ ∈ wsJ7_copyOf_c38d5 := by decide +kernel
set_option maxRecDepth 20000 in
theorem wd_J7_copyOf_c38d5_cl5 : Cond.selects "[J" ⟨"[J", "clone", "()Ljava/lang/Object;"⟩ ⟨"java/lang/Object", "clone", "()Ljava/lang/Object;"⟩ ∈ wsJ7_copyOf_c38d5 := by decide +kernel
set_option maxRecDepth 20000 in
theorem wd_X0_withNumberAt_iRX0 : Cond.initialized RX0 ∈ wsX0_withNumberAt := by decide +kernel
set_option maxRecDepth 20000 in
theorem wd_X0_withNumberAt_ml39 : Cond.methodLink RX0 39 yX0_init_ ∈ wsX0_withNumberAt := by decide +kernel
set_option maxRecDepth 20000 in
theorem wd_X0_withNumberAt_im_X0_init_ : Cond.instanceMethod yX0_init_ ∈ wsX0_withNumberAt := by decide +kernel
set_option maxRecDepth 20000 in
theorem in_X0_withNumberAt_0 : ∀ w ∈ u_ws RX0 TX0 6, w ∈ wsX0_withNumberAt := by decide +kernel
set_option maxRecDepth 20000 in
theorem lk_X0_withNumberAt_29 : Cond.fieldLink RX0 29 (TX0 4).1 (TX0 4).2.1 (TX0 4).2.2.1 ∈ wsX0_withNumberAt := by decide +kernel
set_option maxRecDepth 20000 in
theorem wd_X0_withNumberAt_k10 : Cond.classLink RX0 10 RX0 ∈ wsX0_withNumberAt := by decide +kernel
set_option maxRecDepth 20000 in
theorem wd_X0_withNumberAt_n0 : Cond.instantiable RX0 6 ∈ wsX0_withNumberAt := by decide +kernel
set_option maxRecDepth 20000 in
theorem wd_X0_withNumberAt_i0 : Cond.initialized RX0 ∈ wsX0_withNumberAt := by decide +kernel
set_option maxRecDepth 20000 in
theorem lk_X0_withNumberAt_26 : Cond.fieldLink RX0 26 (TX0 3).1 (TX0 3).2.1 (TX0 3).2.2.1 ∈ wsX0_withNumberAt := by decide +kernel
set_option maxRecDepth 20000 in
theorem wd_X0_withOneMore_iRX0 : Cond.initialized RX0 ∈ wsX0_withOneMore := by decide +kernel
set_option maxRecDepth 20000 in
theorem wd_X0_withOneMore_ml39 : Cond.methodLink RX0 39 yX0_init_ ∈ wsX0_withOneMore := by decide +kernel
set_option maxRecDepth 20000 in
theorem wd_X0_withOneMore_im_X0_init_ : Cond.instanceMethod yX0_init_ ∈ wsX0_withOneMore := by decide +kernel
set_option maxRecDepth 20000 in
theorem in_X0_withOneMore_0 : ∀ w ∈ u_ws RX0 TX0 6, w ∈ wsX0_withOneMore := by decide +kernel
set_option maxRecDepth 20000 in
theorem lk_X0_withOneMore_26 : Cond.fieldLink RX0 26 (TX0 3).1 (TX0 3).2.1 (TX0 3).2.2.1 ∈ wsX0_withOneMore := by decide +kernel
set_option maxRecDepth 20000 in
theorem wd_X0_withOneMore_k10 : Cond.classLink RX0 10 RX0 ∈ wsX0_withOneMore := by decide +kernel
set_option maxRecDepth 20000 in
theorem wd_X0_withOneMore_n0 : Cond.instantiable RX0 6 ∈ wsX0_withOneMore := by decide +kernel
set_option maxRecDepth 20000 in
theorem wd_X0_withOneMore_i0 : Cond.initialized RX0 ∈ wsX0_withOneMore := by decide +kernel
set_option maxRecDepth 20000 in
theorem wd_X0_withOnly_iRX0 : Cond.initialized RX0 ∈ wsX0_withOnly := by decide +kernel
set_option maxRecDepth 20000 in
theorem wd_X0_withOnly_ml39 : Cond.methodLink RX0 39 yX0_init_ ∈ wsX0_withOnly := by decide +kernel
set_option maxRecDepth 20000 in
theorem wd_X0_withOnly_im_X0_init_ : Cond.instanceMethod yX0_init_ ∈ wsX0_withOnly := by decide +kernel
set_option maxRecDepth 20000 in
theorem wd_X0_withOnly_a1 : Cond.arrayClass (newarray.typeOf .long) ∈ wsX0_withOnly := by decide +kernel
set_option maxRecDepth 20000 in
theorem in_X0_withOnly_0 : ∀ w ∈ u_ws RX0 TX0 6, w ∈ wsX0_withOnly := by decide +kernel
set_option maxRecDepth 20000 in
theorem wd_X0_withOnly_k10 : Cond.classLink RX0 10 RX0 ∈ wsX0_withOnly := by decide +kernel
set_option maxRecDepth 20000 in
theorem wd_X0_withOnly_n0 : Cond.instantiable RX0 6 ∈ wsX0_withOnly := by decide +kernel
set_option maxRecDepth 20000 in
theorem wd_X0_withOnly_i0 : Cond.initialized RX0 ∈ wsX0_withOnly := by decide +kernel
set_option maxRecDepth 20000 in
theorem wd_X0_without_ac71 : Cond.methodLink RX0 71 arraycopyName ∈ wsX0_without := by decide +kernel
set_option maxRecDepth 20000 in
theorem wd_X0_without_acn : Cond.native arraycopyName ∈ wsX0_without := by decide +kernel
set_option maxRecDepth 20000 in
theorem wd_X0_without_acs : Cond.static arraycopyName ∈ wsX0_without := by decide +kernel
set_option maxRecDepth 20000 in
theorem wd_X0_without_aci : Cond.initialized "java/lang/System" ∈ wsX0_without := by decide +kernel
set_option maxRecDepth 20000 in
theorem wd_X0_without_a1 : Cond.arrayClass (newarray.typeOf .long) ∈ wsX0_without := by decide +kernel
set_option maxRecDepth 20000 in
theorem wd_X0_withoutMember_iRX0 : Cond.initialized RX0 ∈ wsX0_withoutMember := by decide +kernel
set_option maxRecDepth 20000 in
theorem wd_X0_withoutMember_ml39 : Cond.methodLink RX0 39 yX0_init_ ∈ wsX0_withoutMember := by decide +kernel
set_option maxRecDepth 20000 in
theorem wd_X0_withoutMember_im_X0_init_ : Cond.instanceMethod yX0_init_ ∈ wsX0_withoutMember := by decide +kernel
set_option maxRecDepth 20000 in
theorem in_X0_withoutMember_0 : ∀ w ∈ u_ws RX0 TX0 6, w ∈ wsX0_withoutMember := by decide +kernel
set_option maxRecDepth 20000 in
theorem lk_X0_withoutMember_29 : Cond.fieldLink RX0 29 (TX0 4).1 (TX0 4).2.1 (TX0 4).2.2.1 ∈ wsX0_withoutMember := by decide +kernel
set_option maxRecDepth 20000 in
theorem lk_X0_withoutMember_26 : Cond.fieldLink RX0 26 (TX0 3).1 (TX0 3).2.1 (TX0 3).2.2.1 ∈ wsX0_withoutMember := by decide +kernel
set_option maxRecDepth 20000 in
theorem wd_X0_withoutMember_k10 : Cond.classLink RX0 10 RX0 ∈ wsX0_withoutMember := by decide +kernel
set_option maxRecDepth 20000 in
theorem wd_X0_withoutMember_n0 : Cond.instantiable RX0 6 ∈ wsX0_withoutMember := by decide +kernel
set_option maxRecDepth 20000 in
theorem wd_X0_withoutMember_i0 : Cond.initialized RX0 ∈ wsX0_withoutMember := by decide +kernel
set_option maxRecDepth 20000 in
theorem in_X1_allFit_1 : ∀ w ∈ u_ws RX1 TX1 2, w ∈ wsX1_allFit := by decide +kernel
set_option maxRecDepth 20000 in
theorem lk_X1_allFit_11 : Cond.fieldLink RX1 11 (TX1 0).1 (TX1 0).2.1 (TX1 0).2.2.1 ∈ wsX1_allFit := by decide +kernel
set_option maxRecDepth 20000 in
theorem in_X1_allFit_0 : ∀ w ∈ u_ws RX0 TX0 6, w ∈ wsX1_allFit := by decide +kernel
set_option maxRecDepth 20000 in
theorem lk_X1_allFit_31 : Cond.fieldLink RX1 31 (TX0 0).1 (TX0 0).2.1 (TX0 0).2.2.1 ∈ wsX1_allFit := by decide +kernel
set_option maxRecDepth 20000 in
theorem in_X1_init_1 : ∀ w ∈ u_ws RX1 TX1 2, w ∈ wsX1_init := by decide +kernel
set_option maxRecDepth 20000 in
theorem lk_X1_init_17 : Cond.fieldLink RX1 17 (TX1 1).1 (TX1 1).2.1 (TX1 1).2.2.1 ∈ wsX1_init := by decide +kernel
set_option maxRecDepth 20000 in
theorem lk_X1_init_11 : Cond.fieldLink RX1 11 (TX1 0).1 (TX1 0).2.1 (TX1 0).2.2.1 ∈ wsX1_init := by decide +kernel
set_option maxRecDepth 20000 in
theorem wd_X1_init_k9 : Cond.classLink RX1 9 RX0 ∈ wsX1_init := by decide +kernel
set_option maxRecDepth 20000 in
theorem wd_X1_init_m3 : Cond.methodLink RX1 3 Lib.objectInit ∈ wsX1_init := by decide +kernel
set_option maxRecDepth 20000 in
theorem wd_X1_init_oi : Cond.instanceMethod Lib.objectInit ∈ wsX1_init := by decide +kernel
set_option maxRecDepth 20000 in
theorem wd_X1_init_oc : Cond.code Lib.objectInit ⟨#[0xb1]⟩ 1 none ∈ wsX1_init := by decide +kernel
set_option maxRecDepth 20000 in
theorem in_X1_copied_1 : ∀ w ∈ u_ws RX1 TX1 2, w ∈ wsX1_copied := by decide +kernel
set_option maxRecDepth 20000 in
theorem lk_X1_copied_11 : Cond.fieldLink RX1 11 (TX1 0).1 (TX1 0).2.1 (TX1 0).2.2.1 ∈ wsX1_copied := by decide +kernel
set_option maxRecDepth 20000 in
theorem wd_X1_copied_k23 : Cond.classLink RX1 23 "[LKeyStates$Entry;" ∈ wsX1_copied := by decide +kernel
set_option maxRecDepth 20000 in
theorem wd_X1_copied_cl1 : Cond.methodLink RX1 22 ⟨"[LKeyStates$Entry;", "clone", "()Ljava/lang/Object;"⟩ ∈ wsX1_copied := by decide +kernel
set_option maxRecDepth 20000 in
theorem wd_X1_copied_cl2 : Cond.sameMethod "[LKeyStates$Entry;" "java/lang/Object" "clone" "()Ljava/lang/Object;" ∈ wsX1_copied := by decide +kernel
set_option maxRecDepth 20000 in
theorem wd_X1_copied_cl3 : Cond.native ⟨"java/lang/Object", "clone", "()Ljava/lang/Object;"⟩ ∈ wsX1_copied := by decide +kernel
set_option maxRecDepth 20000 in
theorem wd_X1_copied_cl4 : Cond.instanceMethod ⟨"java/lang/Object", "clone", "()Ljava/lang/Object;"⟩ ∈ wsX1_copied := by decide +kernel
set_option maxRecDepth 20000 in
theorem wd_X1_copied_cl5 : Cond.selects "[LKeyStates$Entry;" ⟨"[LKeyStates$Entry;", "clone", "()Ljava/lang/Object;"⟩ ⟨"java/lang/Object", "clone", "()Ljava/lang/Object;"⟩ ∈ wsX1_copied := by decide +kernel
set_option maxRecDepth 20000 in
theorem wd_X1_copied_iRX1 : Cond.initialized RX1 ∈ wsX1_copied := by decide +kernel
set_option maxRecDepth 20000 in
theorem wd_X1_copied_ml21 : Cond.methodLink RX1 21 yX1_init ∈ wsX1_copied := by decide +kernel
set_option maxRecDepth 20000 in
theorem wd_X1_copied_im_X1_init : Cond.instanceMethod yX1_init ∈ wsX1_copied := by decide +kernel
set_option maxRecDepth 20000 in
theorem wd_X1_copied_k12 : Cond.classLink RX1 12 RX1 ∈ wsX1_copied := by decide +kernel
set_option maxRecDepth 20000 in
theorem wd_X1_copied_n1 : Cond.instantiable RX1 2 ∈ wsX1_copied := by decide +kernel
set_option maxRecDepth 20000 in
theorem wd_X1_copied_i1 : Cond.initialized RX1 ∈ wsX1_copied := by decide +kernel
set_option maxRecDepth 20000 in
theorem in_X1_countEntries_1 : ∀ w ∈ u_ws RX1 TX1 2, w ∈ wsX1_countEntries := by decide +kernel
set_option maxRecDepth 20000 in
theorem lk_X1_countEntries_11 : Cond.fieldLink RX1 11 (TX1 0).1 (TX1 0).2.1 (TX1 0).2.2.1 ∈ wsX1_countEntries := by decide +kernel
set_option maxRecDepth 20000 in
theorem in_X1_countEntriesOf_0 : ∀ w ∈ u_ws RX0 TX0 6, w ∈ wsX1_countEntriesOf := by decide +kernel
set_option maxRecDepth 20000 in
theorem lk_X1_countEntriesOf_31 : Cond.fieldLink RX1 31 (TX0 0).1 (TX0 0).2.1 (TX0 0).2.2.1 ∈ wsX1_countEntriesOf := by decide +kernel
set_option maxRecDepth 20000 in
theorem in_X1_countEntriesOf_1 : ∀ w ∈ u_ws RX1 TX1 2, w ∈ wsX1_countEntriesOf := by decide +kernel
set_option maxRecDepth 20000 in
theorem lk_X1_countEntriesOf_11 : Cond.fieldLink RX1 11 (TX1 0).1 (TX1 0).2.1 (TX1 0).2.2.1 ∈ wsX1_countEntriesOf := by decide +kernel
set_option maxRecDepth 20000 in
theorem in_X1_countNumbers_0 : ∀ w ∈ u_ws RX0 TX0 6, w ∈ wsX1_countNumbers := by decide +kernel
set_option maxRecDepth 20000 in
theorem lk_X1_countNumbers_71 : Cond.fieldLink RX1 71 (TX0 3).1 (TX0 3).2.1 (TX0 3).2.2.1 ∈ wsX1_countNumbers := by decide +kernel
set_option maxRecDepth 20000 in
theorem in_X1_countNumbers_1 : ∀ w ∈ u_ws RX1 TX1 2, w ∈ wsX1_countNumbers := by decide +kernel
set_option maxRecDepth 20000 in
theorem lk_X1_countNumbers_11 : Cond.fieldLink RX1 11 (TX1 0).1 (TX1 0).2.1 (TX1 0).2.2.1 ∈ wsX1_countNumbers := by decide +kernel
set_option maxRecDepth 20000 in
theorem in_X1_freeRow_1 : ∀ w ∈ u_ws RX1 TX1 2, w ∈ wsX1_freeRow := by decide +kernel
set_option maxRecDepth 20000 in
theorem lk_X1_freeRow_11 : Cond.fieldLink RX1 11 (TX1 0).1 (TX1 0).2.1 (TX1 0).2.2.1 ∈ wsX1_freeRow := by decide +kernel
set_option maxRecDepth 20000 in
theorem wd_X1_freeRow_k9 : Cond.classLink RX1 9 RX0 ∈ wsX1_freeRow := by decide +kernel
set_option maxRecDepth 20000 in
theorem in_X1_hasSpan_0 : ∀ w ∈ u_ws RX0 TX0 6, w ∈ wsX1_hasSpan := by decide +kernel
set_option maxRecDepth 20000 in
theorem lk_X1_hasSpan_38 : Cond.fieldLink RX1 38 (TX0 2).1 (TX0 2).2.1 (TX0 2).2.2.1 ∈ wsX1_hasSpan := by decide +kernel
set_option maxRecDepth 20000 in
theorem in_X1_hasSpan_1 : ∀ w ∈ u_ws RX1 TX1 2, w ∈ wsX1_hasSpan := by decide +kernel
set_option maxRecDepth 20000 in
theorem lk_X1_hasSpan_11 : Cond.fieldLink RX1 11 (TX1 0).1 (TX1 0).2.1 (TX1 0).2.2.1 ∈ wsX1_hasSpan := by decide +kernel
set_option maxRecDepth 20000 in
theorem in_X1_isShared_1 : ∀ w ∈ u_ws RX1 TX1 2, w ∈ wsX1_isShared := by decide +kernel
set_option maxRecDepth 20000 in
theorem lk_X1_isShared_17 : Cond.fieldLink RX1 17 (TX1 1).1 (TX1 1).2.1 (TX1 1).2.2.1 ∈ wsX1_isShared := by decide +kernel
set_option maxRecDepth 20000 in
theorem in_X1_rowOf_1 : ∀ w ∈ u_ws RX1 TX1 2, w ∈ wsX1_rowOf := by decide +kernel
set_option maxRecDepth 20000 in
theorem lk_X1_rowOf_11 : Cond.fieldLink RX1 11 (TX1 0).1 (TX1 0).2.1 (TX1 0).2.2.1 ∈ wsX1_rowOf := by decide +kernel
set_option maxRecDepth 20000 in
theorem in_X1_keepEntry_1 : ∀ w ∈ u_ws RX1 TX1 2, w ∈ wsX1_keepEntry := by decide +kernel
set_option maxRecDepth 20000 in
theorem lk_X1_keepEntry_11 : Cond.fieldLink RX1 11 (TX1 0).1 (TX1 0).2.1 (TX1 0).2.2.1 ∈ wsX1_keepEntry := by decide +kernel
set_option maxRecDepth 20000 in
theorem in_X1_keepEntry_0 : ∀ w ∈ u_ws RX0 TX0 6, w ∈ wsX1_keepEntry := by decide +kernel
set_option maxRecDepth 20000 in
theorem lk_X1_keepEntry_38 : Cond.fieldLink RX1 38 (TX0 2).1 (TX0 2).2.1 (TX0 2).2.2.1 ∈ wsX1_keepEntry := by decide +kernel
set_option maxRecDepth 20000 in
theorem lk_X1_keepEntry_34 : Cond.fieldLink RX1 34 (TX0 1).1 (TX0 1).2.1 (TX0 1).2.2.1 ∈ wsX1_keepEntry := by decide +kernel
set_option maxRecDepth 20000 in
theorem lk_X1_keepEntry_31 : Cond.fieldLink RX1 31 (TX0 0).1 (TX0 0).2.1 (TX0 0).2.2.1 ∈ wsX1_keepEntry := by decide +kernel
set_option maxRecDepth 20000 in
theorem in_X1_loseSpan_1 : ∀ w ∈ u_ws RX1 TX1 2, w ∈ wsX1_loseSpan := by decide +kernel
set_option maxRecDepth 20000 in
theorem lk_X1_loseSpan_11 : Cond.fieldLink RX1 11 (TX1 0).1 (TX1 0).2.1 (TX1 0).2.2.1 ∈ wsX1_loseSpan := by decide +kernel
set_option maxRecDepth 20000 in
theorem in_X1_loseSpan_0 : ∀ w ∈ u_ws RX0 TX0 6, w ∈ wsX1_loseSpan := by decide +kernel
set_option maxRecDepth 20000 in
theorem lk_X1_loseSpan_38 : Cond.fieldLink RX1 38 (TX0 2).1 (TX0 2).2.1 (TX0 2).2.2.1 ∈ wsX1_loseSpan := by decide +kernel
set_option maxRecDepth 20000 in
theorem in_X1_moveEntries_1 : ∀ w ∈ u_ws RX1 TX1 2, w ∈ wsX1_moveEntries := by decide +kernel
set_option maxRecDepth 20000 in
theorem lk_X1_moveEntries_11 : Cond.fieldLink RX1 11 (TX1 0).1 (TX1 0).2.1 (TX1 0).2.2.1 ∈ wsX1_moveEntries := by decide +kernel
set_option maxRecDepth 20000 in
theorem in_X1_moveEntries_0 : ∀ w ∈ u_ws RX0 TX0 6, w ∈ wsX1_moveEntries := by decide +kernel
set_option maxRecDepth 20000 in
theorem lk_X1_moveEntries_31 : Cond.fieldLink RX1 31 (TX0 0).1 (TX0 0).2.1 (TX0 0).2.2.1 ∈ wsX1_moveEntries := by decide +kernel
set_option maxRecDepth 20000 in
theorem in_X1_sortKeysInto_0 : ∀ w ∈ u_ws RX0 TX0 6, w ∈ wsX1_sortKeysInto := by decide +kernel
set_option maxRecDepth 20000 in
theorem lk_X1_sortKeysInto_34 : Cond.fieldLink RX1 34 (TX0 1).1 (TX0 1).2.1 (TX0 1).2.2.1 ∈ wsX1_sortKeysInto := by decide +kernel
set_option maxRecDepth 20000 in
theorem in_X1_sortKeysInto_1 : ∀ w ∈ u_ws RX1 TX1 2, w ∈ wsX1_sortKeysInto := by decide +kernel
set_option maxRecDepth 20000 in
theorem lk_X1_sortKeysInto_11 : Cond.fieldLink RX1 11 (TX1 0).1 (TX1 0).2.1 (TX1 0).2.2.1 ∈ wsX1_sortKeysInto := by decide +kernel
set_option maxRecDepth 20000 in
theorem wd_X1_sortKeysInto_ac65 : Cond.methodLink RX1 65 arraycopyName ∈ wsX1_sortKeysInto := by decide +kernel
set_option maxRecDepth 20000 in
theorem wd_X1_sortKeysInto_acn : Cond.native arraycopyName ∈ wsX1_sortKeysInto := by decide +kernel
set_option maxRecDepth 20000 in
theorem wd_X1_sortKeysInto_acs : Cond.static arraycopyName ∈ wsX1_sortKeysInto := by decide +kernel
set_option maxRecDepth 20000 in
theorem wd_X1_sortKeysInto_aci : Cond.initialized "java/lang/System" ∈ wsX1_sortKeysInto := by decide +kernel
set_option maxRecDepth 20000 in
theorem wd_X1_sortKeysInto_iRX3 : Cond.initialized RX3 ∈ wsX1_sortKeysInto := by decide +kernel
set_option maxRecDepth 20000 in
theorem wd_X1_sortKeysInto_st_X3_countBelow : Cond.static yX3_countBelow ∈ wsX1_sortKeysInto := by decide +kernel
set_option maxRecDepth 20000 in
theorem lk_X1_sortKeysInto_38 : Cond.fieldLink RX1 38 (TX0 2).1 (TX0 2).2.1 (TX0 2).2.2.1 ∈ wsX1_sortKeysInto := by decide +kernel
set_option maxRecDepth 20000 in
theorem lk_X1_sortKeysInto_31 : Cond.fieldLink RX1 31 (TX0 0).1 (TX0 0).2.1 (TX0 0).2.2.1 ∈ wsX1_sortKeysInto := by decide +kernel
set_option maxRecDepth 20000 in
theorem in_X2_allFit_2 : ∀ w ∈ u_ws RX2 TX2 5, w ∈ wsX2_allFit := by decide +kernel
set_option maxRecDepth 20000 in
theorem lk_X2_allFit_11 : Cond.fieldLink RX2 11 (TX2 1).1 (TX2 1).2.1 (TX2 1).2.2.1 ∈ wsX2_allFit := by decide +kernel
set_option maxRecDepth 20000 in
theorem in_X2_becomeLike_2 : ∀ w ∈ u_ws RX2 TX2 5, w ∈ wsX2_becomeLike := by decide +kernel
set_option maxRecDepth 20000 in
theorem lk_X2_becomeLike_21 : Cond.fieldLink RX2 21 (TX2 3).1 (TX2 3).2.1 (TX2 3).2.2.1 ∈ wsX2_becomeLike := by decide +kernel
set_option maxRecDepth 20000 in
theorem lk_X2_becomeLike_17 : Cond.fieldLink RX2 17 (TX2 2).1 (TX2 2).2.1 (TX2 2).2.2.1 ∈ wsX2_becomeLike := by decide +kernel
set_option maxRecDepth 20000 in
theorem lk_X2_becomeLike_24 : Cond.fieldLink RX2 24 (TX2 4).1 (TX2 4).2.1 (TX2 4).2.2.1 ∈ wsX2_becomeLike := by decide +kernel
set_option maxRecDepth 20000 in
theorem lk_X2_becomeLike_11 : Cond.fieldLink RX2 11 (TX2 1).1 (TX2 1).2.1 (TX2 1).2.2.1 ∈ wsX2_becomeLike := by decide +kernel
set_option maxRecDepth 20000 in
theorem in_X2_countEntries_2 : ∀ w ∈ u_ws RX2 TX2 5, w ∈ wsX2_countEntries := by decide +kernel
set_option maxRecDepth 20000 in
theorem lk_X2_countEntries_11 : Cond.fieldLink RX2 11 (TX2 1).1 (TX2 1).2.1 (TX2 1).2.2.1 ∈ wsX2_countEntries := by decide +kernel
set_option maxRecDepth 20000 in
theorem in_X2_countEntriesOf_2 : ∀ w ∈ u_ws RX2 TX2 5, w ∈ wsX2_countEntriesOf := by decide +kernel
set_option maxRecDepth 20000 in
theorem lk_X2_countEntriesOf_11 : Cond.fieldLink RX2 11 (TX2 1).1 (TX2 1).2.1 (TX2 1).2.2.1 ∈ wsX2_countEntriesOf := by decide +kernel
set_option maxRecDepth 20000 in
theorem in_X2_countNumbers_2 : ∀ w ∈ u_ws RX2 TX2 5, w ∈ wsX2_countNumbers := by decide +kernel
set_option maxRecDepth 20000 in
theorem lk_X2_countNumbers_11 : Cond.fieldLink RX2 11 (TX2 1).1 (TX2 1).2.1 (TX2 1).2.2.1 ∈ wsX2_countNumbers := by decide +kernel
set_option maxRecDepth 20000 in
theorem in_X2_countPagesInUse_2 : ∀ w ∈ u_ws RX2 TX2 5, w ∈ wsX2_countPagesInUse := by decide +kernel
set_option maxRecDepth 20000 in
theorem lk_X2_countPagesInUse_11 : Cond.fieldLink RX2 11 (TX2 1).1 (TX2 1).2.1 (TX2 1).2.2.1 ∈ wsX2_countPagesInUse := by decide +kernel
set_option maxRecDepth 20000 in
theorem in_X2_countShared_2 : ∀ w ∈ u_ws RX2 TX2 5, w ∈ wsX2_countShared := by decide +kernel
set_option maxRecDepth 20000 in
theorem lk_X2_countShared_11 : Cond.fieldLink RX2 11 (TX2 1).1 (TX2 1).2.1 (TX2 1).2.2.1 ∈ wsX2_countShared := by decide +kernel
set_option maxRecDepth 20000 in
theorem in_X2_entryOf_1 : ∀ w ∈ u_ws RX1 TX1 2, w ∈ wsX2_entryOf := by decide +kernel
set_option maxRecDepth 20000 in
theorem lk_X2_entryOf_50 : Cond.fieldLink RX2 50 (TX1 0).1 (TX1 0).2.1 (TX1 0).2.2.1 ∈ wsX2_entryOf := by decide +kernel
set_option maxRecDepth 20000 in
theorem wd_X2_entryOf_iRX0 : Cond.initialized RX0 ∈ wsX2_entryOf := by decide +kernel
set_option maxRecDepth 20000 in
theorem wd_X2_entryOf_ml47 : Cond.methodLink RX2 47 yX0_init ∈ wsX2_entryOf := by decide +kernel
set_option maxRecDepth 20000 in
theorem wd_X2_entryOf_im_X0_init : Cond.instanceMethod yX0_init ∈ wsX2_entryOf := by decide +kernel
set_option maxRecDepth 20000 in
theorem in_X2_entryOf_0 : ∀ w ∈ u_ws RX0 TX0 6, w ∈ wsX2_entryOf := by decide +kernel
set_option maxRecDepth 20000 in
theorem wd_X2_entryOf_k45 : Cond.classLink RX2 45 RX0 ∈ wsX2_entryOf := by decide +kernel
set_option maxRecDepth 20000 in
theorem wd_X2_entryOf_n0 : Cond.instantiable RX0 6 ∈ wsX2_entryOf := by decide +kernel
set_option maxRecDepth 20000 in
theorem wd_X2_entryOf_i0 : Cond.initialized RX0 ∈ wsX2_entryOf := by decide +kernel
set_option maxRecDepth 20000 in
theorem wd_X2_entryOf_iRX3 : Cond.initialized RX3 ∈ wsX2_entryOf := by decide +kernel
set_option maxRecDepth 20000 in
theorem wd_X2_entryOf_st_X3_pageNumber : Cond.static yX3_pageNumber ∈ wsX2_entryOf := by decide +kernel
set_option maxRecDepth 20000 in
theorem in_X2_entryOf_2 : ∀ w ∈ u_ws RX2 TX2 5, w ∈ wsX2_entryOf := by decide +kernel
set_option maxRecDepth 20000 in
theorem lk_X2_entryOf_11 : Cond.fieldLink RX2 11 (TX2 1).1 (TX2 1).2.1 (TX2 1).2.2.1 ∈ wsX2_entryOf := by decide +kernel
set_option maxRecDepth 20000 in
theorem wd_X2_init_iRX1 : Cond.initialized RX1 ∈ wsX2_init := by decide +kernel
set_option maxRecDepth 20000 in
theorem wd_X2_init_im_X1_init : Cond.instanceMethod yX1_init ∈ wsX2_init := by decide +kernel
set_option maxRecDepth 20000 in
theorem in_X2_init_1 : ∀ w ∈ u_ws RX1 TX1 2, w ∈ wsX2_init := by decide +kernel
set_option maxRecDepth 20000 in
theorem wd_X2_init_k9 : Cond.classLink RX2 9 RX1 ∈ wsX2_init := by decide +kernel
set_option maxRecDepth 20000 in
theorem wd_X2_init_n1 : Cond.instantiable RX1 2 ∈ wsX2_init := by decide +kernel
set_option maxRecDepth 20000 in
theorem wd_X2_init_i1 : Cond.initialized RX1 ∈ wsX2_init := by decide +kernel
set_option maxRecDepth 20000 in
theorem in_X2_init_2 : ∀ w ∈ u_ws RX2 TX2 5, w ∈ wsX2_init := by decide +kernel
set_option maxRecDepth 20000 in
theorem lk_X2_init_11 : Cond.fieldLink RX2 11 (TX2 1).1 (TX2 1).2.1 (TX2 1).2.2.1 ∈ wsX2_init := by decide +kernel
set_option maxRecDepth 20000 in
theorem lk_X2_init_28 : Cond.fieldLink RX2 28 (TX2 0).1 (TX2 0).2.1 (TX2 0).2.2.1 ∈ wsX2_init := by decide +kernel
set_option maxRecDepth 20000 in
theorem lk_X2_init_24 : Cond.fieldLink RX2 24 (TX2 4).1 (TX2 4).2.1 (TX2 4).2.2.1 ∈ wsX2_init := by decide +kernel
set_option maxRecDepth 20000 in
theorem lk_X2_init_21 : Cond.fieldLink RX2 21 (TX2 3).1 (TX2 3).2.1 (TX2 3).2.2.1 ∈ wsX2_init := by decide +kernel
set_option maxRecDepth 20000 in
theorem wd_X2_init_a0 : Cond.arrayClass (newarray.typeOf .int) ∈ wsX2_init := by decide +kernel
set_option maxRecDepth 20000 in
theorem lk_X2_init_17 : Cond.fieldLink RX2 17 (TX2 2).1 (TX2 2).2.1 (TX2 2).2.2.1 ∈ wsX2_init := by decide +kernel
set_option maxRecDepth 20000 in
theorem wd_X2_init_m3 : Cond.methodLink RX2 3 Lib.objectInit ∈ wsX2_init := by decide +kernel
set_option maxRecDepth 20000 in
theorem wd_X2_init_oi : Cond.instanceMethod Lib.objectInit ∈ wsX2_init := by decide +kernel
set_option maxRecDepth 20000 in
theorem wd_X2_init_oc : Cond.code Lib.objectInit ⟨#[0xb1]⟩ 1 none ∈ wsX2_init := by decide +kernel
set_option maxRecDepth 20000 in
theorem in_X2_init__2 : ∀ w ∈ u_ws RX2 TX2 5, w ∈ wsX2_init_ := by decide +kernel
set_option maxRecDepth 20000 in
theorem lk_X2_init__21 : Cond.fieldLink RX2 21 (TX2 3).1 (TX2 3).2.1 (TX2 3).2.2.1 ∈ wsX2_init_ := by decide +kernel
set_option maxRecDepth 20000 in
theorem lk_X2_init__17 : Cond.fieldLink RX2 17 (TX2 2).1 (TX2 2).2.1 (TX2 2).2.2.1 ∈ wsX2_init_ := by decide +kernel
set_option maxRecDepth 20000 in
theorem lk_X2_init__11 : Cond.fieldLink RX2 11 (TX2 1).1 (TX2 1).2.1 (TX2 1).2.2.1 ∈ wsX2_init_ := by decide +kernel
set_option maxRecDepth 20000 in
theorem lk_X2_init__24 : Cond.fieldLink RX2 24 (TX2 4).1 (TX2 4).2.1 (TX2 4).2.2.1 ∈ wsX2_init_ := by decide +kernel
set_option maxRecDepth 20000 in
theorem lk_X2_init__28 : Cond.fieldLink RX2 28 (TX2 0).1 (TX2 0).2.1 (TX2 0).2.2.1 ∈ wsX2_init_ := by decide +kernel
set_option maxRecDepth 20000 in
theorem wd_X2_init__a0 : Cond.arrayClass (newarray.typeOf .int) ∈ wsX2_init_ := by decide +kernel
set_option maxRecDepth 20000 in
theorem wd_X2_init__k9 : Cond.classLink RX2 9 RX1 ∈ wsX2_init_ := by decide +kernel
set_option maxRecDepth 20000 in
theorem wd_X2_init__m3 : Cond.methodLink RX2 3 Lib.objectInit ∈ wsX2_init_ := by decide +kernel
set_option maxRecDepth 20000 in
theorem wd_X2_init__oi : Cond.instanceMethod Lib.objectInit ∈ wsX2_init_ := by decide +kernel
set_option maxRecDepth 20000 in
theorem wd_X2_init__oc : Cond.code Lib.objectInit ⟨#[0xb1]⟩ 1 none ∈ wsX2_init_ := by decide +kernel
set_option maxRecDepth 20000 in
theorem in_X2_releasePages_1 : ∀ w ∈ u_ws RX1 TX1 2, w ∈ wsX2_releasePages := by decide +kernel
set_option maxRecDepth 20000 in
theorem lk_X2_releasePages_35 : Cond.fieldLink RX2 35 (TX1 1).1 (TX1 1).2.1 (TX1 1).2.2.1 ∈ wsX2_releasePages := by decide +kernel
set_option maxRecDepth 20000 in
theorem in_X2_releasePages_2 : ∀ w ∈ u_ws RX2 TX2 5, w ∈ wsX2_releasePages := by decide +kernel
set_option maxRecDepth 20000 in
theorem lk_X2_releasePages_11 : Cond.fieldLink RX2 11 (TX2 1).1 (TX2 1).2.1 (TX2 1).2.2.1 ∈ wsX2_releasePages := by decide +kernel
set_option maxRecDepth 20000 in
theorem in_X2_taken_1 : ∀ w ∈ u_ws RX1 TX1 2, w ∈ wsX2_taken := by decide +kernel
set_option maxRecDepth 20000 in
theorem lk_X2_taken_35 : Cond.fieldLink RX2 35 (TX1 1).1 (TX1 1).2.1 (TX1 1).2.2.1 ∈ wsX2_taken := by decide +kernel
set_option maxRecDepth 20000 in
theorem in_X2_taken_2 : ∀ w ∈ u_ws RX2 TX2 5, w ∈ wsX2_taken := by decide +kernel
set_option maxRecDepth 20000 in
theorem lk_X2_taken_11 : Cond.fieldLink RX2 11 (TX2 1).1 (TX2 1).2.1 (TX2 1).2.2.1 ∈ wsX2_taken := by decide +kernel
set_option maxRecDepth 20000 in
theorem wd_X2_taken_iRX2 : Cond.initialized RX2 ∈ wsX2_taken := by decide +kernel
set_option maxRecDepth 20000 in
theorem wd_X2_taken_ml32 : Cond.methodLink RX2 32 yX2_init_ ∈ wsX2_taken := by decide +kernel
set_option maxRecDepth 20000 in
theorem wd_X2_taken_im_X2_init_ : Cond.instanceMethod yX2_init_ ∈ wsX2_taken := by decide +kernel
set_option maxRecDepth 20000 in
theorem wd_X2_taken_k12 : Cond.classLink RX2 12 RX2 ∈ wsX2_taken := by decide +kernel
set_option maxRecDepth 20000 in
theorem wd_X2_taken_n2 : Cond.instantiable RX2 5 ∈ wsX2_taken := by decide +kernel
set_option maxRecDepth 20000 in
theorem wd_X2_taken_i2 : Cond.initialized RX2 ∈ wsX2_taken := by decide +kernel
set_option maxRecDepth 20000 in
theorem in_X2_tellState_2 : ∀ w ∈ u_ws RX2 TX2 5, w ∈ wsX2_tellState := by decide +kernel
set_option maxRecDepth 20000 in
theorem lk_X2_tellState_24 : Cond.fieldLink RX2 24 (TX2 4).1 (TX2 4).2.1 (TX2 4).2.2.1 ∈ wsX2_tellState := by decide +kernel
set_option maxRecDepth 20000 in
theorem lk_X2_tellState_21 : Cond.fieldLink RX2 21 (TX2 3).1 (TX2 3).2.1 (TX2 3).2.2.1 ∈ wsX2_tellState := by decide +kernel
set_option maxRecDepth 20000 in
theorem lk_X2_tellState_17 : Cond.fieldLink RX2 17 (TX2 2).1 (TX2 2).2.1 (TX2 2).2.2.1 ∈ wsX2_tellState := by decide +kernel
abbrev mX3_fits (l : Launch) (K : Kx) (As : List Value) (h : Hp) (Post : Rs → Hp → Prop) : Prop := MX l K yX3_fits wsX3_fits 0 0 0 0 As h Post
set_option maxRecDepth 100000 in
set_option maxHeartbeats 4000000 in
theorem fX3_fits {l : Launch} {K : Kx} {x1 : Int32} {x2 : Int32} {x3 : Int64} {h : Hp} {Post : Rs → Hp → Prop} (htr : l.stackTraces = false)
    (F : ((x1 = (nI 3) → (Post (.inl (some (.int (nI 1)))) h)) ∧ (¬ x1 = (nI 3) → ((¬ x2 = nI 0 → ((¬ x2 = (nI 1) → ((x3 < (lN 0) → (Post (.inl (some (.int (nI 0)))) h)) ∧ (¬ x3 < (lN 0) → (Post (.inl (some (.int (nI 1)))) h)))) ∧ (x2 = (nI 1) → ((x3 < (-lN 1000) → (Post (.inl (some (.int (nI 0)))) h)) ∧ (¬ x3 < (-lN 1000) → (((lN 1000) < x3 → (Post (.inl (some (.int (nI 0)))) h)) ∧ (¬ (lN 1000) < x3 → (Post (.inl (some (.int (nI 1)))) h)))))))) ∧ (x2 = nI 0 → (Post (.inl (some (.int (nI 1)))) h)))))) :
    mX3_fits l K [.int x1, .int x2, .long x3] h Post := by
  refine MX.enter htr (by decide) rfl (Nat.le_of_ble_eq_true rfl) ?_
  refine J_lveq (lv' := [(0, .int x1), (1, .int x2), (2, .long x3)]) rfl ?_
  refine J_iload_n dX3_fits_0 0 rfl ?_
  refine J_iconst (v := nI 3) dX3_fits_1 (by decide) ?_
  refine J_icmp_eq (tgt := 9) dX3_fits_2 (by decide) (fun c => ?_) (fun c => ?_)
  · replace F := F.1 c
    refine J_iconst (v := nI 1) dX3_fits_9 (by decide) ?_
    exact J_zret dX3_fits_10 rfl (by decide) (Nat.le_refl _) (Nat.le_refl _) F
  · replace F := F.2 c
    refine J_iload_n dX3_fits_5 1 rfl ?_
    refine J_if_ne (tgt := 11) dX3_fits_6 (by decide) (fun c => ?_) (fun c => ?_)
    · replace F := F.1 c
      refine J_iload_n dX3_fits_11 1 rfl ?_
      refine J_iconst (v := nI 1) dX3_fits_12 (by decide) ?_
      refine J_icmp_ne (tgt := 40) dX3_fits_13 (by decide) (fun c => ?_) (fun c => ?_)
      · replace F := F.1 c
        refine J_lload_n dX3_fits_40 2 rfl ?_
        refine J_lconst (v := lN 0) dX3_fits_41 rfl ?_
        refine J_lcmp dX3_fits_42 ?_
        refine J_if_lt (tgt := 50) dX3_fits_43 (by decide) (fun c => ?_) (fun c => ?_)
        · replace F := F.1 ((lg_cmp_lt _ _).mp c)
          refine J_iconst (v := nI 0) dX3_fits_50 (by decide) ?_
          exact J_zret dX3_fits_51 rfl (by decide) (Nat.le_refl _) (Nat.le_refl _) F
        · replace F := F.2 (fun e9 => c ((lg_cmp_lt _ _).mpr e9))
          refine J_iconst (v := nI 1) dX3_fits_46 (by decide) ?_
          refine J_goto (tgt := 51) dX3_fits_47 (by decide) ?_
          exact J_zret dX3_fits_51 rfl (by decide) (Nat.le_refl _) (Nat.le_refl _) F
      · replace F := F.2 c
        refine J_lload_n dX3_fits_16 2 rfl ?_
        refine J_ldc2 (v := -lN 1000) dX3_fits_17 wd_X3_fits_c286 ?_
        refine J_lcmp dX3_fits_20 ?_
        refine J_if_lt (tgt := 36) dX3_fits_21 (by decide) (fun c => ?_) (fun c => ?_)
        · replace F := F.1 ((lg_cmp_lt _ _).mp c)
          refine J_iconst (v := nI 0) dX3_fits_36 (by decide) ?_
          refine J_goto (tgt := 51) dX3_fits_37 (by decide) ?_
          exact J_zret dX3_fits_51 rfl (by decide) (Nat.le_refl _) (Nat.le_refl _) F
        · replace F := F.2 (fun e9 => c ((lg_cmp_lt _ _).mpr e9))
          refine J_lload_n dX3_fits_24 2 rfl ?_
          refine J_ldc2 (v := lN 1000) dX3_fits_25 wd_X3_fits_c288 ?_
          refine J_lcmp dX3_fits_28 ?_
          refine J_if_gt (tgt := 36) dX3_fits_29 (by decide) (fun c => ?_) (fun c => ?_)
          · replace F := F.1 ((lg_cmp_gt _ _).mp c)
            refine J_iconst (v := nI 0) dX3_fits_36 (by decide) ?_
            refine J_goto (tgt := 51) dX3_fits_37 (by decide) ?_
            exact J_zret dX3_fits_51 rfl (by decide) (Nat.le_refl _) (Nat.le_refl _) F
          · replace F := F.2 (fun e9 => c ((lg_cmp_gt _ _).mpr e9))
            refine J_iconst (v := nI 1) dX3_fits_32 (by decide) ?_
            refine J_goto (tgt := 51) dX3_fits_33 (by decide) ?_
            exact J_zret dX3_fits_51 rfl (by decide) (Nat.le_refl _) (Nat.le_refl _) F
    · replace F := F.2 c
      refine J_iconst (v := nI 1) dX3_fits_9 (by decide) ?_
      exact J_zret dX3_fits_10 rfl (by decide) (Nat.le_refl _) (Nat.le_refl _) F

abbrev mX0_allFit (l : Launch) (K : Kx) (As : List Value) (h : Hp) (Post : Rs → Hp → Prop) : Prop := MX l K yX0_allFit wsX0_allFit 1 23 0 0 As h Post
set_option maxRecDepth 100000 in
set_option maxHeartbeats 4000000 in
theorem fX0_allFit {l : Launch} {K : Kx} {a0 : Nat} {x1 : Int32} {x2 : Int32} {h : Hp} {Post : Rs → Hp → Prop} (htr : l.stackTraces = false)
    (F : (∀ X_3 : Int32 → Hp → Prop, (∀ (i_1 : Int32) (h_2 : Hp), ((∃ p_4, gf h_2 a0 0 3 = some (.ref p_4) ∧ (∃ n_5, alen K 1 h_2 p_4 = some n_5 ∧ ((n_5 ≤ i_1 → (Post (.inl (some (.int (nI 1)))) h_2)) ∧ (¬ n_5 ≤ i_1 → (∃ p_6, gf h_2 a0 0 3 = some (.ref p_6) ∧ (∃ u_7, aJ K h_2 p_6 i_1 = some u_7 ∧ mX3_fits l K [.int x1, .int x2, .long u_7] h_2 (kI (fun v_9 h_8 => ((¬ v_9 = nI 0 → X_3 (i_1 + nI 1) h_8) ∧ (v_9 = nI 0 → (Post (.inl (some (.int (nI 0)))) h_8)))))))))))) → X_3 i_1 h_2) → X_3 (nI 0) h)) :
    mX0_allFit l K [.ref a0, .int x1, .int x2] h Post := by
  refine MX.enter htr (by decide) rfl (Nat.le_of_ble_eq_true rfl) ?_
  refine J_lveq (lv' := [(0, .ref a0), (1, .int x1), (2, .int x2)]) rfl ?_
  refine J_iconst (v := nI 0) dX0_allFit_0 (by decide) ?_
  refine J_istore_n (lv' := [(3, .int (nI 0)), (0, .ref a0), (1, .int x1), (2, .int x2)]) dX0_allFit_1 rfl (by decide) rfl ?_
  refine J_sub [1, 2, 3, 0] rfl ?_
  refine F (fun (i_1 : Int32) (h_2 : Hp) => J l K yX0_allFit.cls cX0_allFit 4 (some .boolean) wsX0_allFit [] yX0_allFit.name 1 23 0 0 (QM K 0 0 Post) 2 [] [(0, .ref a0), (1, .int x1), (2, .int x2), (3, .int i_1)] h_2 0 0) ?_
  intro i_1 h_2 F
  refine J_iload_n dX0_allFit_2 3 rfl ?_
  refine J_aload_n dX0_allFit_3 0 rfl ?_
  obtain ⟨p_4, g9, F⟩ := F
  refine J_get (ci := 0) (k := 3) dX0_allFit_4 rfl in_X0_allFit_0 (by decide) lk_X0_allFit_26 g9 ?_
  obtain ⟨n_5, g9, F⟩ := F
  refine J_alen (t := 1) dX0_allFit_7 rfl g9 ?_
  refine J_icmp_ge (tgt := 33) dX0_allFit_8 (by decide) (fun c => ?_) (fun c => ?_)
  · replace F := F.1 c
    refine J_iconst (v := nI 1) dX0_allFit_33 (by decide) ?_
    exact J_zret dX0_allFit_34 rfl (by decide) (Nat.le_refl _) (Nat.le_refl _) F
  · replace F := F.2 c
    refine J_iload_n dX0_allFit_11 1 rfl ?_
    refine J_iload_n dX0_allFit_12 2 rfl ?_
    refine J_aload_n dX0_allFit_13 0 rfl ?_
    obtain ⟨p_6, g9, F⟩ := F
    refine J_get (ci := 0) (k := 3) dX0_allFit_14 rfl in_X0_allFit_0 (by decide) lk_X0_allFit_26 g9 ?_
    refine J_iload_n dX0_allFit_17 3 rfl ?_
    obtain ⟨u_7, g9, F⟩ := F
    refine J_lald dX0_allFit_18 g9 ?_
    refine J_callSN (host := "KeyStates") (n := 3) (As := [.int x1, .int x2, .long u_7]) (rest := []) dX0_allFit_19 gX0_allFit_X3_fits_n63 rfl wd_X0_allFit_iRX3 (by decide) wd_X0_allFit_st_X3_fits (by decide +kernel) rfl (by decide) (Nat.le_of_ble_eq_true rfl) (Nat.le_refl _) (Nat.le_refl _) F kI_no (kI_kk (fun v_9 h_8 F => ?_))
    refine J_if_ne (tgt := 27) dX0_allFit_22 (by decide) (fun c => ?_) (fun c => ?_)
    · replace F := F.1 c
      refine J_iinc (v := i_1 + nI 1) (lv' := [(3, .int (i_1 + nI 1)), (0, .ref a0), (1, .int x1), (2, .int x2)]) dX0_allFit_27 3 rfl rfl (by decide) rfl ?_
      refine J_goto (tgt := 2) dX0_allFit_30 (by decide) ?_
      exact J_sub [1, 2, 3, 0] rfl F
    · replace F := F.2 c
      refine J_iconst (v := nI 0) dX0_allFit_25 (by decide) ?_
      exact J_zret dX0_allFit_26 rfl (by decide) (Nat.le_refl _) (Nat.le_refl _) F

abbrev mX0_init_ (l : Launch) (K : Kx) (As : List Value) (h : Hp) (Post : Rs → Hp → Prop) : Prop := MX l K yX0_init_ wsX0_init_ 1 60 0 0 As h Post
set_option maxRecDepth 100000 in
set_option maxHeartbeats 4000000 in
theorem fX0_init_ {l : Launch} {K : Kx} {a0 : Nat} {x1 : Nat} {x2 : Nat} {x3 : Nat} {x4 : Int32} {h : Hp} {Post : Rs → Hp → Prop} (htr : l.stackTraces = false)
    (F : (∃ v_1, gf h x1 0 0 = some (.int v_1) ∧ (∃ h_2, pf h a0 0 0 (.int v_1) = some h_2 ∧ (∃ u_3, gf h_2 x1 0 1 = some (.long u_3) ∧ (∃ h_4, pf h_2 a0 0 1 (.long u_3) = some h_4 ∧ (∃ v_5, gf h_4 x1 0 2 = some (.int v_5) ∧ (∃ h_6, pf h_4 a0 0 2 (.int v_5) = some h_6 ∧ (∃ h_7, pf h_6 a0 0 3 (.ref x2) = some h_7 ∧ (∃ h_8, pf h_7 a0 0 4 (.ref x3) = some h_8 ∧ (∃ h_9, pf h_8 a0 0 5 (.int x4) = some h_9 ∧ (Post (.inl none) h_9))))))))))) :
    mX0_init_ l K [.ref a0, .ref x1, .ref x2, .ref x3, .int x4] h Post := by
  refine MX.enter htr (by decide) rfl (Nat.le_of_ble_eq_true rfl) ?_
  refine J_lveq (lv' := [(0, .ref a0), (1, .ref x1), (2, .ref x2), (3, .ref x3), (4, .int x4)]) rfl ?_
  refine J_aload_n dX0_init__0 0 rfl ?_
  refine J_objInit dX0_init__1 wd_X0_init__m3 wd_X0_init__oi wd_X0_init__oc (by decide) (Nat.le_of_ble_eq_true rfl) ?_
  refine J_aload_n dX0_init__4 0 rfl ?_
  refine J_aload_n dX0_init__5 1 rfl ?_
  obtain ⟨v_1, g9, F⟩ := F
  refine J_get (ci := 0) (k := 0) dX0_init__6 rfl in_X0_init__0 (by decide) lk_X0_init__9 g9 ?_
  obtain ⟨h_2, g9, F⟩ := F
  refine J_putF (ci := 0) (k := 0) dX0_init__9 rfl in_X0_init__0 tyX0 tyX0_ok nmX0 (by decide) lk_X0_init__9 rfl rfl rfl rfl rfl rfl g9 ?_
  refine J_aload_n dX0_init__12 0 rfl ?_
  refine J_aload_n dX0_init__13 1 rfl ?_
  obtain ⟨u_3, g9, F⟩ := F
  refine J_get (ci := 0) (k := 1) dX0_init__14 rfl in_X0_init__0 (by decide) lk_X0_init__15 g9 ?_
  obtain ⟨h_4, g9, F⟩ := F
  refine J_putF (ci := 0) (k := 1) dX0_init__17 rfl in_X0_init__0 tyX0 tyX0_ok nmX0 (by decide) lk_X0_init__15 rfl rfl rfl rfl rfl rfl g9 ?_
  refine J_aload_n dX0_init__20 0 rfl ?_
  refine J_aload_n dX0_init__21 1 rfl ?_
  obtain ⟨v_5, g9, F⟩ := F
  refine J_get (ci := 0) (k := 2) dX0_init__22 rfl in_X0_init__0 (by decide) lk_X0_init__19 g9 ?_
  obtain ⟨h_6, g9, F⟩ := F
  refine J_putF (ci := 0) (k := 2) dX0_init__25 rfl in_X0_init__0 tyX0 tyX0_ok nmX0 (by decide) lk_X0_init__19 rfl rfl rfl rfl rfl rfl g9 ?_
  refine J_aload_n dX0_init__28 0 rfl ?_
  refine J_aload_n dX0_init__29 2 rfl ?_
  obtain ⟨h_7, g9, F⟩ := F
  refine J_putF (ci := 0) (k := 3) dX0_init__30 rfl in_X0_init__0 tyX0 tyX0_ok nmX0 (by decide) lk_X0_init__26 rfl rfl rfl rfl rfl rfl g9 ?_
  refine J_aload_n dX0_init__33 0 rfl ?_
  refine J_aload_n dX0_init__34 3 rfl ?_
  obtain ⟨h_8, g9, F⟩ := F
  refine J_putF (ci := 0) (k := 4) dX0_init__35 rfl in_X0_init__0 tyX0 tyX0_ok nmX0 (by decide) lk_X0_init__29 rfl rfl rfl rfl rfl rfl g9 ?_
  refine J_aload_n dX0_init__38 0 rfl ?_
  refine J_iload dX0_init__39 4 rfl ?_
  obtain ⟨h_9, g9, F⟩ := F
  refine J_putF (ci := 0) (k := 5) dX0_init__41 rfl in_X0_init__0 tyX0 tyX0_ok nmX0 (by decide) lk_X0_init__32 rfl rfl rfl rfl rfl rfl g9 ?_
  exact J_vret dX0_init__44 rfl (Nat.le_refl _) (Nat.le_refl _) F

abbrev mX0_isNone (l : Launch) (K : Kx) (As : List Value) (h : Hp) (Post : Rs → Hp → Prop) : Prop := MX l K yX0_isNone wsX0_isNone 0 0 0 0 As h Post
set_option maxRecDepth 100000 in
set_option maxHeartbeats 4000000 in
theorem fX0_isNone {l : Launch} {K : Kx} {a0 : Nat} {h : Hp} {Post : Rs → Hp → Prop} (htr : l.stackTraces = false)
    (F : (∃ p_1, gf h a0 0 3 = some (.ref p_1) ∧ (∃ n_2, alen K 1 h p_1 = some n_2 ∧ ((¬ n_2 = nI 0 → (Post (.inl (some (.int (nI 0)))) h)) ∧ (n_2 = nI 0 → (Post (.inl (some (.int (nI 1)))) h)))))) :
    mX0_isNone l K [.ref a0] h Post := by
  refine MX.enter htr (by decide) rfl (Nat.le_of_ble_eq_true rfl) ?_
  refine J_lveq (lv' := [(0, .ref a0)]) rfl ?_
  refine J_aload_n dX0_isNone_0 0 rfl ?_
  obtain ⟨p_1, g9, F⟩ := F
  refine J_get (ci := 0) (k := 3) dX0_isNone_1 rfl in_X0_isNone_0 (by decide) lk_X0_isNone_26 g9 ?_
  obtain ⟨n_2, g9, F⟩ := F
  refine J_alen (t := 1) dX0_isNone_4 rfl g9 ?_
  refine J_if_ne (tgt := 12) dX0_isNone_5 (by decide) (fun c => ?_) (fun c => ?_)
  · replace F := F.1 c
    refine J_iconst (v := nI 0) dX0_isNone_12 (by decide) ?_
    exact J_zret dX0_isNone_13 rfl (by decide) (Nat.le_refl _) (Nat.le_refl _) F
  · replace F := F.2 c
    refine J_iconst (v := nI 1) dX0_isNone_8 (by decide) ?_
    refine J_goto (tgt := 13) dX0_isNone_9 (by decide) ?_
    exact J_zret dX0_isNone_13 rfl (by decide) (Nat.le_refl _) (Nat.le_refl _) F

abbrev mX3_joined (l : Launch) (K : Kx) (As : List Value) (h : Hp) (Post : Rs → Hp → Prop) : Prop := MX l K yX3_joined wsX3_joined 1 60 0 0 As h Post
set_option maxRecDepth 100000 in
set_option maxHeartbeats 4000000 in
theorem fX3_joined {l : Launch} {K : Kx} {x1 : Int32} {x2 : Int64} {x3 : Int64} {h : Hp} {Post : Rs → Hp → Prop} (htr : l.stackTraces = false)
    (F : ((¬ x1 = nI 0 → ((¬ x1 = (nI 1) → ((Post (.inl (some (.long (if x3 < x2 then x2 else x3)))) h))) ∧ (x1 = (nI 1) → ((Post (.inl (some (.long (if x3 < x2 then x3 else x2)))) h))))) ∧ (x1 = nI 0 → (Post (.inl (some (.long (x2 + x3)))) h)))) :
    mX3_joined l K [.int x1, .long x2, .long x3] h Post := by
  refine MX.enter htr (by decide) rfl (Nat.le_of_ble_eq_true rfl) ?_
  refine J_lveq (lv' := [(0, .int x1), (1, .long x2), (3, .long x3)]) rfl ?_
  refine J_iload_n dX3_joined_0 0 rfl ?_
  refine J_if_ne (tgt := 8) dX3_joined_1 (by decide) (fun c => ?_) (fun c => ?_)
  · replace F := F.1 c
    refine J_iload_n dX3_joined_8 0 rfl ?_
    refine J_iconst (v := nI 1) dX3_joined_9 (by decide) ?_
    refine J_icmp_ne (tgt := 21) dX3_joined_10 (by decide) (fun c => ?_) (fun c => ?_)
    · replace F := F.1 c
      refine J_lload_n dX3_joined_21 1 rfl ?_
      refine J_lload_n dX3_joined_22 2 rfl ?_
      refine J_mmaxl dX3_joined_23 wd_X3_joined_mm298 wd_X3_joined_ms298 wd_X3_joined_mi wd_X3_joined_mc298 (by decide) (by first | exact Nat.le_of_ble_eq_true rfl | (simp only [List.map, rf_cat]; exact Nat.le_of_ble_eq_true rfl)) (Nat.le_refl _) (Nat.le_refl _) ?_
      exact J_lret dX3_joined_26 rfl (Nat.le_refl _) (Nat.le_refl _) F
    · replace F := F.2 c
      refine J_lload_n dX3_joined_13 1 rfl ?_
      refine J_lload_n dX3_joined_14 2 rfl ?_
      refine J_mminl dX3_joined_15 wd_X3_joined_mm292 wd_X3_joined_ms292 wd_X3_joined_mi wd_X3_joined_mc292 (by decide) (by first | exact Nat.le_of_ble_eq_true rfl | (simp only [List.map, rf_cat]; exact Nat.le_of_ble_eq_true rfl)) (Nat.le_refl _) (Nat.le_refl _) ?_
      refine J_goto (tgt := 26) dX3_joined_18 (by decide) ?_
      exact J_lret dX3_joined_26 rfl (Nat.le_refl _) (Nat.le_refl _) F
  · replace F := F.2 c
    refine J_lload_n dX3_joined_4 1 rfl ?_
    refine J_lload_n dX3_joined_5 2 rfl ?_
    refine J_ladd dX3_joined_6 ?_
    exact J_lret dX3_joined_7 rfl (Nat.le_refl _) (Nat.le_refl _) F

abbrev mX0_foldedUp (l : Launch) (K : Kx) (mc ms : Nat) (As : List Value) (h : Hp) (Post : Rs → Hp → Prop) : Prop := MX l K yX0_foldedUp wsX0_foldedUp 2 84 mc ms As h Post
set_option maxRecDepth 100000 in
set_option maxHeartbeats 4000000 in
theorem fX0_foldedUp {l : Launch} {K : Kx} {mc ms : Nat} {a0 : Nat} {x1 : Int32} {h : Hp} {Post : Rs → Hp → Prop} (htr : l.stackTraces = false)
    (F : ((∃ fs, h a0 = some (xO 0 fs)) ∧ (0 + 0 ≤ mc ∧ 0 + 0 ≤ ms ∧ mX0_isNone l K [.ref a0] h (kI (fun v_2 h_1 => ((v_2 = nI 0 → (∃ p_3, gf h_1 a0 0 3 = some (.ref p_3) ∧ (∃ u_4, aJ K h_1 p_3 (nI 0) = some u_4 ∧ (∀ X_10 : Int64 → Int32 → Hp → Nat → Nat → Prop, (∀ (w_5 : Int64) (i_6 : Int32) (h_7 : Hp) (kc_8 : Nat) (ks_9 : Nat), ((∃ p_11, gf h_7 a0 0 3 = some (.ref p_11) ∧ (∃ n_12, alen K 1 h_7 p_11 = some n_12 ∧ ((n_12 ≤ i_6 → (kc_8 + 1 ≤ mc ∧ ks_9 + 6 ≤ ms ∧ ∀ (q_13 : Nat) (h_14 : Hp), h_7 q_13 = none → kB K ≤ q_13 → h_14 = va_up h_7 q_13 (some (xO 0 [.int 0, .long 0, .int 0, .null, .null, .int 0])) → (∃ N_17, nI 1 = nI N_17 ∧ N_17 ≤ 60000000 ∧ (kc_8 + 1) + 1 ≤ mc ∧ (ks_9 + 6) + N_17 ≤ ms ∧ ∀ (q_15 : Nat) (h_16 : Hp), h_14 q_15 = none → kB K ≤ q_15 → h_16 = va_up h_14 q_15 (some (xJ K N_17 (fun _ => 0))) → (∃ h_18, wJ K h_16 q_15 (nI 0) w_5 = some h_18 ∧ (∃ p_19, gf h_18 a0 0 3 = some (.ref p_19) ∧ (∃ n_20, alen K 1 h_18 p_19 = some n_20 ∧ (((kc_8 + 1) + 1) + 0 ≤ mc ∧ ((ks_9 + 6) + N_17) + 0 ≤ ms ∧ mX0_init_ l K [.ref q_13, .ref a0, .ref q_15, .ref K.2.2.2, .int n_20] h_18 (kV (fun h_21 => (((((kc_8 + 1) + 1) + 0) ≤ mc ∧ (((ks_9 + 6) + N_17) + 0) ≤ ms) ∧ Post (.inl (some (.ref q_13))) h_21)))))))))) ∧ (¬ n_12 ≤ i_6 → (∃ p_22, gf h_7 a0 0 3 = some (.ref p_22) ∧ (∃ u_23, aJ K h_7 p_22 i_6 = some u_23 ∧ (kc_8 + 0 ≤ mc ∧ ks_9 + 0 ≤ ms ∧ mX3_joined l K [.int x1, .long w_5, .long u_23] h_7 (kL (fun u_25 h_24 => X_10 u_25 (i_6 + nI 1) h_24 (kc_8 + 0) (ks_9 + 0))))))))))) → X_10 w_5 i_6 h_7 kc_8 ks_9) → X_10 u_4 (nI 1) h_1 (0 + 0) (0 + 0))))) ∧ (¬ v_2 = nI 0 → (((0 + 0) ≤ mc ∧ (0 + 0) ≤ ms) ∧ Post (.inl (some (.ref a0))) h_1)))))))) :
    mX0_foldedUp l K mc ms [.ref a0, .int x1] h Post := by
  refine MX.enter htr (by decide) rfl (Nat.le_of_ble_eq_true rfl) ?_
  refine J_lveq (lv' := [(0, .ref a0), (1, .int x1)]) rfl ?_
  refine J_aload_n dX0_foldedUp_0 0 rfl ?_
  obtain ⟨b9, F⟩ := F
  obtain ⟨k9, w9, F⟩ := F
  refine J_callV0 (ci := 0) (n := 0) (As := []) (rest := []) dX0_foldedUp_1 rfl gX0_foldedUp_X0_isNone rfl (by decide +kernel) rfl (by decide) b9 (Nat.le_of_ble_eq_true rfl) k9 w9 F kI_no (kI_kk (fun v_2 h_1 F => ?_))
  refine J_if_eq (tgt := 9) dX0_foldedUp_4 (by decide) (fun c => ?_) (fun c => ?_)
  · replace F := F.1 c
    refine J_aload_n dX0_foldedUp_9 0 rfl ?_
    obtain ⟨p_3, g9, F⟩ := F
    refine J_get (ci := 0) (k := 3) dX0_foldedUp_10 rfl in_X0_foldedUp_0 (by decide) lk_X0_foldedUp_26 g9 ?_
    refine J_iconst (v := nI 0) dX0_foldedUp_13 (by decide) ?_
    obtain ⟨u_4, g9, F⟩ := F
    refine J_lald dX0_foldedUp_14 g9 ?_
    refine J_lstore_n (lv' := [(2, .long u_4), (0, .ref a0), (1, .int x1)]) dX0_foldedUp_15 rfl (by decide) rfl ?_
    refine J_iconst (v := nI 1) dX0_foldedUp_16 (by decide) ?_
    refine J_istore (lv' := [(4, .int (nI 1)), (2, .long u_4), (0, .ref a0), (1, .int x1)]) dX0_foldedUp_17 (by decide) rfl ?_
    refine J_sub [2, 3, 1, 0] rfl ?_
    refine F (fun (w_5 : Int64) (i_6 : Int32) (h_7 : Hp) (kc_8 : Nat) (ks_9 : Nat) => J l K yX0_foldedUp.cls cX0_foldedUp 5 (some (.object "KeyStates$Entry")) wsX0_foldedUp [] yX0_foldedUp.name 2 84 mc ms (QM K mc ms Post) 19 [] [(0, .ref a0), (1, .int x1), (2, .long w_5), (4, .int i_6)] h_7 kc_8 ks_9) ?_
    intro w_5 i_6 h_7 kc_8 ks_9 F
    refine J_iload dX0_foldedUp_19 3 rfl ?_
    refine J_aload_n dX0_foldedUp_21 0 rfl ?_
    obtain ⟨p_11, g9, F⟩ := F
    refine J_get (ci := 0) (k := 3) dX0_foldedUp_22 rfl in_X0_foldedUp_0 (by decide) lk_X0_foldedUp_26 g9 ?_
    obtain ⟨n_12, g9, F⟩ := F
    refine J_alen (t := 1) dX0_foldedUp_25 rfl g9 ?_
    refine J_icmp_ge (tgt := 48) dX0_foldedUp_26 (by decide) (fun c => ?_) (fun c => ?_)
    · replace F := F.1 c
      obtain ⟨k9, w9, F⟩ := F
      refine J_new (ci := 0) (fs := [.int 0, .long 0, .int 0, .null, .null, .int 0]) dX0_foldedUp_48 rfl in_X0_foldedUp_0 tyX0 tyX0_ok wd_X0_foldedUp_k10 wd_X0_foldedUp_n0 wd_X0_foldedUp_i0 dfX0 k9 w9 (fun q_13 h9 i9 => ?_)
      replace F := F q_13 _ h9 i9 rfl
      generalize va_up h_7 q_13 (some (xO 0 [.int 0, .long 0, .int 0, .null, .null, .int 0])) = h_14 at F ⊢
      refine J_dup dX0_foldedUp_51 (rfl) ?_
      refine J_aload_n dX0_foldedUp_52 0 rfl ?_
      refine J_iconst (v := nI 1) dX0_foldedUp_53 (by decide) ?_
      obtain ⟨N_17, e9, b9, k9, w9, F⟩ := F
      refine J_newa (t := 1) (N' := N_17) (a0 := (N_17, .inr (.inl (fun _ => 0)))) dX0_foldedUp_54 wd_X0_foldedUp_a1 rfl rfl ra_j (fun _ => rfl) e9 b9 (by decide) k9 w9 (fun q_15 h9 i9 => ?_)
      replace F := F q_15 _ h9 i9 rfl
      generalize va_up h_14 q_15 (some (xJ K N_17 (fun _ => 0))) = h_16 at F ⊢
      refine J_dup dX0_foldedUp_56 (rfl) ?_
      refine J_iconst (v := nI 0) dX0_foldedUp_57 (by decide) ?_
      refine J_lload_n dX0_foldedUp_58 2 rfl ?_
      obtain ⟨h_18, g9, F⟩ := F
      refine J_last dX0_foldedUp_59 g9 ?_
      refine J_getsN dX0_foldedUp_60 (by decide) ?_
      refine J_aload_n dX0_foldedUp_63 0 rfl ?_
      obtain ⟨p_19, g9, F⟩ := F
      refine J_get (ci := 0) (k := 3) dX0_foldedUp_64 rfl in_X0_foldedUp_0 (by decide) lk_X0_foldedUp_26 g9 ?_
      obtain ⟨n_20, g9, F⟩ := F
      refine J_alen (t := 1) dX0_foldedUp_67 rfl g9 ?_
      obtain ⟨k9, w9, F⟩ := F
      refine J_callI (n := 4) (As := [.ref a0, .ref q_15, .ref K.2.2.2, .int n_20]) (rest := [.ref q_13]) dX0_foldedUp_68 gX0_foldedUp_X0_init_ rfl wd_X0_foldedUp_iRX0 wd_X0_foldedUp_ml39 wd_X0_foldedUp_im_X0_init_ rfl (by decide +kernel) rfl (by decide) (Nat.le_of_ble_eq_true rfl) k9 w9 F kV_no (kV_kk (fun h_21 F => ?_))
      obtain ⟨k9, F⟩ := F
      exact J_aret (x := some q_13) dX0_foldedUp_71 rfl (Or.inl ⟨_, rfl⟩) k9.1 k9.2 F
    · replace F := F.2 c
      refine J_iload_n dX0_foldedUp_29 1 rfl ?_
      refine J_lload_n dX0_foldedUp_30 2 rfl ?_
      refine J_aload_n dX0_foldedUp_31 0 rfl ?_
      obtain ⟨p_22, g9, F⟩ := F
      refine J_get (ci := 0) (k := 3) dX0_foldedUp_32 rfl in_X0_foldedUp_0 (by decide) lk_X0_foldedUp_26 g9 ?_
      refine J_iload dX0_foldedUp_35 3 rfl ?_
      obtain ⟨u_23, g9, F⟩ := F
      refine J_lald dX0_foldedUp_37 g9 ?_
      obtain ⟨k9, w9, F⟩ := F
      refine J_callSN (host := "KeyStates") (n := 3) (As := [.int x1, .long w_5, .long u_23]) (rest := []) dX0_foldedUp_38 gX0_foldedUp_X3_joined_n59 rfl wd_X0_foldedUp_iRX3 (by decide) wd_X0_foldedUp_st_X3_joined (by decide +kernel) rfl (by decide) (Nat.le_of_ble_eq_true rfl) k9 w9 F kL_no (kL_kk (fun u_25 h_24 F => ?_))
      refine J_lstore_n (lv' := [(2, .long u_25), (0, .ref a0), (1, .int x1), (4, .int i_6)]) dX0_foldedUp_41 rfl (by decide) rfl ?_
      refine J_iinc (v := i_6 + nI 1) (lv' := [(4, .int (i_6 + nI 1)), (2, .long u_25), (0, .ref a0), (1, .int x1)]) dX0_foldedUp_42 3 rfl rfl (by decide) rfl ?_
      refine J_goto (tgt := 19) dX0_foldedUp_45 (by decide) ?_
      exact J_sub [2, 3, 1, 0] rfl F
  · replace F := F.2 c
    refine J_aload_n dX0_foldedUp_7 0 rfl ?_
    obtain ⟨k9, F⟩ := F
    exact J_aret (x := some a0) dX0_foldedUp_8 rfl (Or.inl ⟨_, rfl⟩) k9.1 k9.2 F

abbrev mX0_hasMember (l : Launch) (K : Kx) (As : List Value) (h : Hp) (Post : Rs → Hp → Prop) : Prop := MX l K yX0_hasMember wsX0_hasMember 0 0 0 0 As h Post
set_option maxRecDepth 100000 in
set_option maxHeartbeats 4000000 in
theorem fX0_hasMember {l : Launch} {K : Kx} {a0 : Nat} {x1 : Int32} {x2 : Int64} {h : Hp} {Post : Rs → Hp → Prop} (htr : l.stackTraces = false)
    (F : (∃ p_1, gf h a0 0 4 = some (.ref p_1) ∧ (∃ n_2, alen K 1 h p_1 = some n_2 ∧ ((n_2 ≤ x1 → (Post (.inl (some (.int (nI 0)))) h)) ∧ (¬ n_2 ≤ x1 → (∃ p_3, gf h a0 0 4 = some (.ref p_3) ∧ (∃ u_4, aJ K h p_3 x1 = some u_4 ∧ ((¬ u_4 = x2 → (Post (.inl (some (.int (nI 0)))) h)) ∧ (u_4 = x2 → (Post (.inl (some (.int (nI 1)))) h)))))))))) :
    mX0_hasMember l K [.ref a0, .int x1, .long x2] h Post := by
  refine MX.enter htr (by decide) rfl (Nat.le_of_ble_eq_true rfl) ?_
  refine J_lveq (lv' := [(0, .ref a0), (1, .int x1), (2, .long x2)]) rfl ?_
  refine J_iload_n dX0_hasMember_0 1 rfl ?_
  refine J_aload_n dX0_hasMember_1 0 rfl ?_
  obtain ⟨p_1, g9, F⟩ := F
  refine J_get (ci := 0) (k := 4) dX0_hasMember_2 rfl in_X0_hasMember_0 (by decide) lk_X0_hasMember_29 g9 ?_
  obtain ⟨n_2, g9, F⟩ := F
  refine J_alen (t := 1) dX0_hasMember_5 rfl g9 ?_
  refine J_icmp_ge (tgt := 24) dX0_hasMember_6 (by decide) (fun c => ?_) (fun c => ?_)
  · replace F := F.1 c
    refine J_iconst (v := nI 0) dX0_hasMember_24 (by decide) ?_
    exact J_zret dX0_hasMember_25 rfl (by decide) (Nat.le_refl _) (Nat.le_refl _) F
  · replace F := F.2 c
    refine J_aload_n dX0_hasMember_9 0 rfl ?_
    obtain ⟨p_3, g9, F⟩ := F
    refine J_get (ci := 0) (k := 4) dX0_hasMember_10 rfl in_X0_hasMember_0 (by decide) lk_X0_hasMember_29 g9 ?_
    refine J_iload_n dX0_hasMember_13 1 rfl ?_
    obtain ⟨u_4, g9, F⟩ := F
    refine J_lald dX0_hasMember_14 g9 ?_
    refine J_lload_n dX0_hasMember_15 2 rfl ?_
    refine J_lcmp dX0_hasMember_16 ?_
    refine J_if_ne (tgt := 24) dX0_hasMember_17 (by decide) (fun c => ?_) (fun c => ?_)
    · replace F := F.1 (fun e9 => c ((lg_cmp_eq _ _).mpr e9))
      refine J_iconst (v := nI 0) dX0_hasMember_24 (by decide) ?_
      exact J_zret dX0_hasMember_25 rfl (by decide) (Nat.le_refl _) (Nat.le_refl _) F
    · replace F := F.2 ((lg_cmp_eq _ _).mp c)
      refine J_iconst (v := nI 1) dX0_hasMember_20 (by decide) ?_
      refine J_goto (tgt := 25) dX0_hasMember_21 (by decide) ?_
      exact J_zret dX0_hasMember_25 rfl (by decide) (Nat.le_refl _) (Nat.le_refl _) F

abbrev mX0_init (l : Launch) (K : Kx) (As : List Value) (h : Hp) (Post : Rs → Hp → Prop) : Prop := MX l K yX0_init wsX0_init 1 60 0 0 As h Post
set_option maxRecDepth 100000 in
set_option maxHeartbeats 4000000 in
theorem fX0_init {l : Launch} {K : Kx} {a0 : Nat} {x1 : Int32} {x2 : Int64} {x3 : Int32} {h : Hp} {Post : Rs → Hp → Prop} (htr : l.stackTraces = false)
    (F : (∃ h_1, pf h a0 0 0 (.int x1) = some h_1 ∧ (∃ h_2, pf h_1 a0 0 1 (.long x2) = some h_2 ∧ (∃ h_3, pf h_2 a0 0 2 (.int x3) = some h_3 ∧ (∃ h_4, pf h_3 a0 0 3 (.ref K.2.2.2) = some h_4 ∧ (∃ h_5, pf h_4 a0 0 4 (.ref K.2.2.2) = some h_5 ∧ (∃ h_6, pf h_5 a0 0 5 (.int (nI 0)) = some h_6 ∧ (Post (.inl none) h_6)))))))) :
    mX0_init l K [.ref a0, .int x1, .long x2, .int x3] h Post := by
  refine MX.enter htr (by decide) rfl (Nat.le_of_ble_eq_true rfl) ?_
  refine J_lveq (lv' := [(0, .ref a0), (1, .int x1), (2, .long x2), (4, .int x3)]) rfl ?_
  refine J_aload_n dX0_init_0 0 rfl ?_
  refine J_objInit dX0_init_1 wd_X0_init_m3 wd_X0_init_oi wd_X0_init_oc (by decide) (Nat.le_of_ble_eq_true rfl) ?_
  refine J_aload_n dX0_init_4 0 rfl ?_
  refine J_iload_n dX0_init_5 1 rfl ?_
  obtain ⟨h_1, g9, F⟩ := F
  refine J_putF (ci := 0) (k := 0) dX0_init_6 rfl in_X0_init_0 tyX0 tyX0_ok nmX0 (by decide) lk_X0_init_9 rfl rfl rfl rfl rfl rfl g9 ?_
  refine J_aload_n dX0_init_9 0 rfl ?_
  refine J_lload_n dX0_init_10 2 rfl ?_
  obtain ⟨h_2, g9, F⟩ := F
  refine J_putF (ci := 0) (k := 1) dX0_init_11 rfl in_X0_init_0 tyX0 tyX0_ok nmX0 (by decide) lk_X0_init_15 rfl rfl rfl rfl rfl rfl g9 ?_
  refine J_aload_n dX0_init_14 0 rfl ?_
  refine J_iload dX0_init_15 3 rfl ?_
  obtain ⟨h_3, g9, F⟩ := F
  refine J_putF (ci := 0) (k := 2) dX0_init_17 rfl in_X0_init_0 tyX0 tyX0_ok nmX0 (by decide) lk_X0_init_19 rfl rfl rfl rfl rfl rfl g9 ?_
  refine J_aload_n dX0_init_20 0 rfl ?_
  refine J_getsN dX0_init_21 (by decide) ?_
  obtain ⟨h_4, g9, F⟩ := F
  refine J_putF (ci := 0) (k := 3) dX0_init_24 rfl in_X0_init_0 tyX0 tyX0_ok nmX0 (by decide) lk_X0_init_26 rfl rfl rfl rfl rfl rfl g9 ?_
  refine J_aload_n dX0_init_27 0 rfl ?_
  refine J_getsN dX0_init_28 (by decide) ?_
  obtain ⟨h_5, g9, F⟩ := F
  refine J_putF (ci := 0) (k := 4) dX0_init_31 rfl in_X0_init_0 tyX0 tyX0_ok nmX0 (by decide) lk_X0_init_29 rfl rfl rfl rfl rfl rfl g9 ?_
  refine J_aload_n dX0_init_34 0 rfl ?_
  refine J_iconst (v := nI 0) dX0_init_35 (by decide) ?_
  obtain ⟨h_6, g9, F⟩ := F
  refine J_putF (ci := 0) (k := 5) dX0_init_36 rfl in_X0_init_0 tyX0 tyX0_ok nmX0 (by decide) lk_X0_init_32 rfl rfl rfl rfl rfl rfl g9 ?_
  exact J_vret dX0_init_39 rfl (Nat.le_refl _) (Nat.le_refl _) F

abbrev mX0_inserted (l : Launch) (K : Kx) (mc ms : Nat) (As : List Value) (h : Hp) (Post : Rs → Hp → Prop) : Prop := MX l K yX0_inserted wsX0_inserted 1 60 mc ms As h Post
set_option maxRecDepth 100000 in
set_option maxHeartbeats 4000000 in
theorem fX0_inserted {l : Launch} {K : Kx} {mc ms : Nat} {x1 : Nat} {x2 : Int32} {x3 : Int64} {h : Hp} {Post : Rs → Hp → Prop} (htr : l.stackTraces = false)
    (F : (∃ n_1, alen K 1 h x1 = some n_1 ∧ (∃ N_4, n_1 + (nI 1) = nI N_4 ∧ N_4 ≤ 60000000 ∧ 0 + 1 ≤ mc ∧ 0 + N_4 ≤ ms ∧ ∀ (q_2 : Nat) (h_3 : Hp), h q_2 = none → kB K ≤ q_2 → h_3 = va_up h q_2 (some (xJ K N_4 (fun _ => 0))) → (∃ N_5 f_6 N_7 f_8, h_3 x1 = some (xJ K N_5 f_6) ∧ h_3 q_2 = some (xJ K N_7 f_8) ∧ kB K ≤ q_2 ∧ ¬ (nI 0) < nI 0 ∧ ¬ (nI 0) < nI 0 ∧ ¬ x2 < nI 0 ∧ (nI 0).toNatClampNeg + x2.toNatClampNeg ≤ N_5 ∧ (nI 0).toNatClampNeg + x2.toNatClampNeg ≤ N_7 ∧ ∀ h_9 : Hp, h_9 = va_up h_3 q_2 (some (xJ K N_7 (va_cpy f_6 f_8 (nI 0).toNatClampNeg (nI 0).toNatClampNeg x2.toNatClampNeg))) → (∃ h_10, wJ K h_9 q_2 x2 x3 = some h_10 ∧ (∃ n_11, alen K 1 h_10 x1 = some n_11 ∧ (∃ N_12 f_13 N_14 f_15, h_10 x1 = some (xJ K N_12 f_13) ∧ h_10 q_2 = some (xJ K N_14 f_15) ∧ kB K ≤ q_2 ∧ ¬ x2 < nI 0 ∧ ¬ (x2 + (nI 1)) < nI 0 ∧ ¬ (n_11 - x2) < nI 0 ∧ x2.toNatClampNeg + (n_11 - x2).toNatClampNeg ≤ N_12 ∧ (x2 + (nI 1)).toNatClampNeg + (n_11 - x2).toNatClampNeg ≤ N_14 ∧ ∀ h_16 : Hp, h_16 = va_up h_10 q_2 (some (xJ K N_14 (va_cpy f_13 f_15 x2.toNatClampNeg (x2 + (nI 1)).toNatClampNeg (n_11 - x2).toNatClampNeg))) → (((0 + 1) ≤ mc ∧ (0 + N_4) ≤ ms) ∧ Post (.inl (some (.ref q_2))) h_16)))))))) :
    mX0_inserted l K mc ms [.ref x1, .int x2, .long x3] h Post := by
  refine MX.enter htr (by decide) rfl (Nat.le_of_ble_eq_true rfl) ?_
  refine J_lveq (lv' := [(0, .ref x1), (1, .int x2), (2, .long x3)]) rfl ?_
  refine J_aload_n dX0_inserted_0 0 rfl ?_
  obtain ⟨n_1, g9, F⟩ := F
  refine J_alen (t := 1) dX0_inserted_1 rfl g9 ?_
  refine J_iconst (v := nI 1) dX0_inserted_2 (by decide) ?_
  refine J_iadd dX0_inserted_3 ?_
  obtain ⟨N_4, e9, b9, k9, w9, F⟩ := F
  refine J_newa (t := 1) (N' := N_4) (a0 := (N_4, .inr (.inl (fun _ => 0)))) dX0_inserted_4 wd_X0_inserted_a1 rfl rfl ra_j (fun _ => rfl) e9 b9 (by decide) k9 w9 (fun q_2 h9 i9 => ?_)
  replace F := F q_2 _ h9 i9 rfl
  generalize va_up h q_2 (some (xJ K N_4 (fun _ => 0))) = h_3 at F ⊢
  refine J_astore (lv' := [(4, .ref q_2), (0, .ref x1), (1, .int x2), (2, .long x3)]) dX0_inserted_6 (by decide) rfl ?_
  refine J_aload_n dX0_inserted_8 1 rfl ?_
  refine J_iconst (v := nI 0) dX0_inserted_9 (by decide) ?_
  refine J_aload dX0_inserted_10 0 rfl ?_
  refine J_iconst (v := nI 0) dX0_inserted_12 (by decide) ?_
  refine J_iload_n dX0_inserted_13 2 rfl ?_
  obtain ⟨N_5, f_6, N_7, f_8, e9, e8, b9, z91, z92, z93, z94, z95, F⟩ := F
  refine J_copyl dX0_inserted_14 wd_X0_inserted_ac71 wd_X0_inserted_acn wd_X0_inserted_acs wd_X0_inserted_aci e9 e8 b9 z91 z92 z93 z94 z95 (by decide) (by first | exact Nat.le_of_ble_eq_true rfl | (simp only [List.map, rf_cat]; exact Nat.le_of_ble_eq_true rfl)) ?_
  replace F := F _ rfl
  generalize va_up h_3 q_2 (some (xJ K N_7 (va_cpy f_6 f_8 (nI 0).toNatClampNeg (nI 0).toNatClampNeg x2.toNatClampNeg))) = h_9 at F ⊢
  refine J_aload dX0_inserted_17 0 rfl ?_
  refine J_iload_n dX0_inserted_19 2 rfl ?_
  refine J_lload_n dX0_inserted_20 3 rfl ?_
  obtain ⟨h_10, g9, F⟩ := F
  refine J_last dX0_inserted_21 g9 ?_
  refine J_aload_n dX0_inserted_22 1 rfl ?_
  refine J_iload_n dX0_inserted_23 2 rfl ?_
  refine J_aload dX0_inserted_24 0 rfl ?_
  refine J_iload_n dX0_inserted_26 2 rfl ?_
  refine J_iconst (v := nI 1) dX0_inserted_27 (by decide) ?_
  refine J_iadd dX0_inserted_28 ?_
  refine J_aload_n dX0_inserted_29 1 rfl ?_
  obtain ⟨n_11, g9, F⟩ := F
  refine J_alen (t := 1) dX0_inserted_30 rfl g9 ?_
  refine J_iload_n dX0_inserted_31 2 rfl ?_
  refine J_isub dX0_inserted_32 ?_
  obtain ⟨N_12, f_13, N_14, f_15, e9, e8, b9, z91, z92, z93, z94, z95, F⟩ := F
  refine J_copyl dX0_inserted_33 wd_X0_inserted_ac71 wd_X0_inserted_acn wd_X0_inserted_acs wd_X0_inserted_aci e9 e8 b9 z91 z92 z93 z94 z95 (by decide) (by first | exact Nat.le_of_ble_eq_true rfl | (simp only [List.map, rf_cat]; exact Nat.le_of_ble_eq_true rfl)) ?_
  replace F := F _ rfl
  generalize va_up h_10 q_2 (some (xJ K N_14 (va_cpy f_13 f_15 x2.toNatClampNeg (x2 + (nI 1)).toNatClampNeg (n_11 - x2).toNatClampNeg))) = h_16 at F ⊢
  refine J_aload dX0_inserted_36 0 rfl ?_
  obtain ⟨k9, F⟩ := F
  exact J_aret (x := some q_2) dX0_inserted_38 rfl (Or.inr ⟨_, rfl⟩) k9.1 k9.2 F

abbrev mX0_isAt (l : Launch) (K : Kx) (As : List Value) (h : Hp) (Post : Rs → Hp → Prop) : Prop := MX l K yX0_isAt wsX0_isAt 0 0 0 0 As h Post
set_option maxRecDepth 100000 in
set_option maxHeartbeats 4000000 in
theorem fX0_isAt {l : Launch} {K : Kx} {a0 : Nat} {x1 : Int32} {x2 : Int64} {x3 : Int32} {h : Hp} {Post : Rs → Hp → Prop} (htr : l.stackTraces = false)
    (F : (∃ v_1, gf h a0 0 0 = some (.int v_1) ∧ ((¬ v_1 = x1 → (Post (.inl (some (.int (nI 0)))) h)) ∧ (v_1 = x1 → (∃ u_2, gf h a0 0 1 = some (.long u_2) ∧ ((¬ u_2 = x2 → (Post (.inl (some (.int (nI 0)))) h)) ∧ (u_2 = x2 → (∃ v_3, gf h a0 0 2 = some (.int v_3) ∧ ((¬ v_3 = x3 → (Post (.inl (some (.int (nI 0)))) h)) ∧ (v_3 = x3 → (Post (.inl (some (.int (nI 1)))) h))))))))))) :
    mX0_isAt l K [.ref a0, .int x1, .long x2, .int x3] h Post := by
  refine MX.enter htr (by decide) rfl (Nat.le_of_ble_eq_true rfl) ?_
  refine J_lveq (lv' := [(0, .ref a0), (1, .int x1), (2, .long x2), (4, .int x3)]) rfl ?_
  refine J_aload_n dX0_isAt_0 0 rfl ?_
  obtain ⟨v_1, g9, F⟩ := F
  refine J_get (ci := 0) (k := 0) dX0_isAt_1 rfl in_X0_isAt_0 (by decide) lk_X0_isAt_9 g9 ?_
  refine J_iload_n dX0_isAt_4 1 rfl ?_
  refine J_icmp_ne (tgt := 30) dX0_isAt_5 (by decide) (fun c => ?_) (fun c => ?_)
  · replace F := F.1 c
    refine J_iconst (v := nI 0) dX0_isAt_30 (by decide) ?_
    exact J_zret dX0_isAt_31 rfl (by decide) (Nat.le_refl _) (Nat.le_refl _) F
  · replace F := F.2 c
    refine J_aload_n dX0_isAt_8 0 rfl ?_
    obtain ⟨u_2, g9, F⟩ := F
    refine J_get (ci := 0) (k := 1) dX0_isAt_9 rfl in_X0_isAt_0 (by decide) lk_X0_isAt_15 g9 ?_
    refine J_lload_n dX0_isAt_12 2 rfl ?_
    refine J_lcmp dX0_isAt_13 ?_
    refine J_if_ne (tgt := 30) dX0_isAt_14 (by decide) (fun c => ?_) (fun c => ?_)
    · replace F := F.1 (fun e9 => c ((lg_cmp_eq _ _).mpr e9))
      refine J_iconst (v := nI 0) dX0_isAt_30 (by decide) ?_
      exact J_zret dX0_isAt_31 rfl (by decide) (Nat.le_refl _) (Nat.le_refl _) F
    · replace F := F.2 ((lg_cmp_eq _ _).mp c)
      refine J_aload_n dX0_isAt_17 0 rfl ?_
      obtain ⟨v_3, g9, F⟩ := F
      refine J_get (ci := 0) (k := 2) dX0_isAt_18 rfl in_X0_isAt_0 (by decide) lk_X0_isAt_19 g9 ?_
      refine J_iload dX0_isAt_21 3 rfl ?_
      refine J_icmp_ne (tgt := 30) dX0_isAt_23 (by decide) (fun c => ?_) (fun c => ?_)
      · replace F := F.1 c
        refine J_iconst (v := nI 0) dX0_isAt_30 (by decide) ?_
        exact J_zret dX0_isAt_31 rfl (by decide) (Nat.le_refl _) (Nat.le_refl _) F
      · replace F := F.2 c
        refine J_iconst (v := nI 1) dX0_isAt_26 (by decide) ?_
        refine J_goto (tgt := 31) dX0_isAt_27 (by decide) ?_
        exact J_zret dX0_isAt_31 rfl (by decide) (Nat.le_refl _) (Nat.le_refl _) F

abbrev mX0_movedTo (l : Launch) (K : Kx) (mc ms : Nat) (As : List Value) (h : Hp) (Post : Rs → Hp → Prop) : Prop := MX l K yX0_movedTo wsX0_movedTo 3 108 mc ms As h Post
set_option maxRecDepth 100000 in
set_option maxHeartbeats 4000000 in
theorem fX0_movedTo {l : Launch} {K : Kx} {mc ms : Nat} {a0 : Nat} {x1 : Int32} {x2 : Int32} {h : Hp} {Post : Rs → Hp → Prop} (htr : l.stackTraces = false)
    (F : ((¬ x1 = (nI 3) → ((x1 = (nI 2) → ((0 ≤ mc ∧ 0 ≤ ms) ∧ Post (.inl (some (.ref a0))) h)) ∧ (¬ x1 = (nI 2) → (∃ p_1, gf h a0 0 4 = some (.ref p_1) ∧ (∃ n_2, alen K 1 h p_1 = some n_2 ∧ ((¬ n_2 = nI 0 → (0 + 1 ≤ mc ∧ 0 + 6 ≤ ms ∧ ∀ (q_3 : Nat) (h_4 : Hp), h q_3 = none → kB K ≤ q_3 → h_4 = va_up h q_3 (some (xO 0 [.int 0, .long 0, .int 0, .null, .null, .int 0])) → (∃ p_5, gf h_4 a0 0 3 = some (.ref p_5) ∧ ((0 + 1) + 0 ≤ mc ∧ (0 + 6) + 0 ≤ ms ∧ mX0_init_ l K [.ref q_3, .ref a0, .ref p_5, .ref K.2.2.2, .int (nI 0)] h_4 (kV (fun h_6 => ((((0 + 1) + 0) ≤ mc ∧ ((0 + 6) + 0) ≤ ms) ∧ Post (.inl (some (.ref q_3))) h_6))))))) ∧ (n_2 = nI 0 → (∃ v_7, gf h a0 0 5 = some (.int v_7) ∧ ((¬ v_7 = nI 0 → (0 + 1 ≤ mc ∧ 0 + 6 ≤ ms ∧ ∀ (q_8 : Nat) (h_9 : Hp), h q_8 = none → kB K ≤ q_8 → h_9 = va_up h q_8 (some (xO 0 [.int 0, .long 0, .int 0, .null, .null, .int 0])) → (∃ p_10, gf h_9 a0 0 3 = some (.ref p_10) ∧ ((0 + 1) + 0 ≤ mc ∧ (0 + 6) + 0 ≤ ms ∧ mX0_init_ l K [.ref q_8, .ref a0, .ref p_10, .ref K.2.2.2, .int (nI 0)] h_9 (kV (fun h_11 => ((((0 + 1) + 0) ≤ mc ∧ ((0 + 6) + 0) ≤ ms) ∧ Post (.inl (some (.ref q_8))) h_11))))))) ∧ (v_7 = nI 0 → ((0 ≤ mc ∧ 0 ≤ ms) ∧ Post (.inl (some (.ref a0))) h))))))))))) ∧ (x1 = (nI 3) → ((∃ fs, h a0 = some (xO 0 fs)) ∧ (∃ c_13 w_14, 0 + c_13 ≤ mc ∧ 0 + w_14 ≤ ms ∧ mX0_foldedUp l K c_13 w_14 [.ref a0, .int x2] h (kQ (fun o_15 h_12 => (((0 + c_13) ≤ mc ∧ (0 + w_14) ≤ ms) ∧ Post (.inl (some (va_rf o_15))) h_12)))))))) :
    mX0_movedTo l K mc ms [.ref a0, .int x1, .int x2] h Post := by
  refine MX.enter htr (by decide) rfl (Nat.le_of_ble_eq_true rfl) ?_
  refine J_lveq (lv' := [(0, .ref a0), (1, .int x1), (2, .int x2)]) rfl ?_
  refine J_iload_n dX0_movedTo_0 1 rfl ?_
  refine J_iconst (v := nI 3) dX0_movedTo_1 (by decide) ?_
  refine J_icmp_ne (tgt := 11) dX0_movedTo_2 (by decide) (fun c => ?_) (fun c => ?_)
  · replace F := F.1 c
    refine J_iload_n dX0_movedTo_11 1 rfl ?_
    refine J_iconst (v := nI 2) dX0_movedTo_12 (by decide) ?_
    refine J_icmp_eq (tgt := 31) dX0_movedTo_13 (by decide) (fun c => ?_) (fun c => ?_)
    · replace F := F.1 c
      refine J_aload_n dX0_movedTo_31 0 rfl ?_
      obtain ⟨k9, F⟩ := F
      exact J_aret (x := some a0) dX0_movedTo_32 rfl (Or.inl ⟨_, rfl⟩) k9.1 k9.2 F
    · replace F := F.2 c
      refine J_aload_n dX0_movedTo_16 0 rfl ?_
      obtain ⟨p_1, g9, F⟩ := F
      refine J_get (ci := 0) (k := 4) dX0_movedTo_17 rfl in_X0_movedTo_0 (by decide) lk_X0_movedTo_29 g9 ?_
      obtain ⟨n_2, g9, F⟩ := F
      refine J_alen (t := 1) dX0_movedTo_20 rfl g9 ?_
      refine J_if_ne (tgt := 33) dX0_movedTo_21 (by decide) (fun c => ?_) (fun c => ?_)
      · replace F := F.1 c
        obtain ⟨k9, w9, F⟩ := F
        refine J_new (ci := 0) (fs := [.int 0, .long 0, .int 0, .null, .null, .int 0]) dX0_movedTo_33 rfl in_X0_movedTo_0 tyX0 tyX0_ok wd_X0_movedTo_k10 wd_X0_movedTo_n0 wd_X0_movedTo_i0 dfX0 k9 w9 (fun q_3 h9 i9 => ?_)
        replace F := F q_3 _ h9 i9 rfl
        generalize va_up h q_3 (some (xO 0 [.int 0, .long 0, .int 0, .null, .null, .int 0])) = h_4 at F ⊢
        refine J_dup dX0_movedTo_36 (rfl) ?_
        refine J_aload_n dX0_movedTo_37 0 rfl ?_
        refine J_aload_n dX0_movedTo_38 0 rfl ?_
        obtain ⟨p_5, g9, F⟩ := F
        refine J_get (ci := 0) (k := 3) dX0_movedTo_39 rfl in_X0_movedTo_0 (by decide) lk_X0_movedTo_26 g9 ?_
        refine J_getsN dX0_movedTo_42 (by decide) ?_
        refine J_iconst (v := nI 0) dX0_movedTo_45 (by decide) ?_
        obtain ⟨k9, w9, F⟩ := F
        refine J_callI (n := 4) (As := [.ref a0, .ref p_5, .ref K.2.2.2, .int (nI 0)]) (rest := [.ref q_3]) dX0_movedTo_46 gX0_movedTo_X0_init_ rfl wd_X0_movedTo_iRX0 wd_X0_movedTo_ml39 wd_X0_movedTo_im_X0_init_ rfl (by decide +kernel) rfl (by decide) (Nat.le_of_ble_eq_true rfl) k9 w9 F kV_no (kV_kk (fun h_6 F => ?_))
        obtain ⟨k9, F⟩ := F
        exact J_aret (x := some q_3) dX0_movedTo_49 rfl (Or.inl ⟨_, rfl⟩) k9.1 k9.2 F
      · replace F := F.2 c
        refine J_aload_n dX0_movedTo_24 0 rfl ?_
        obtain ⟨v_7, g9, F⟩ := F
        refine J_get (ci := 0) (k := 5) dX0_movedTo_25 rfl in_X0_movedTo_0 (by decide) lk_X0_movedTo_32 g9 ?_
        refine J_if_ne (tgt := 33) dX0_movedTo_28 (by decide) (fun c => ?_) (fun c => ?_)
        · replace F := F.1 c
          obtain ⟨k9, w9, F⟩ := F
          refine J_new (ci := 0) (fs := [.int 0, .long 0, .int 0, .null, .null, .int 0]) dX0_movedTo_33 rfl in_X0_movedTo_0 tyX0 tyX0_ok wd_X0_movedTo_k10 wd_X0_movedTo_n0 wd_X0_movedTo_i0 dfX0 k9 w9 (fun q_8 h9 i9 => ?_)
          replace F := F q_8 _ h9 i9 rfl
          generalize va_up h q_8 (some (xO 0 [.int 0, .long 0, .int 0, .null, .null, .int 0])) = h_9 at F ⊢
          refine J_dup dX0_movedTo_36 (rfl) ?_
          refine J_aload_n dX0_movedTo_37 0 rfl ?_
          refine J_aload_n dX0_movedTo_38 0 rfl ?_
          obtain ⟨p_10, g9, F⟩ := F
          refine J_get (ci := 0) (k := 3) dX0_movedTo_39 rfl in_X0_movedTo_0 (by decide) lk_X0_movedTo_26 g9 ?_
          refine J_getsN dX0_movedTo_42 (by decide) ?_
          refine J_iconst (v := nI 0) dX0_movedTo_45 (by decide) ?_
          obtain ⟨k9, w9, F⟩ := F
          refine J_callI (n := 4) (As := [.ref a0, .ref p_10, .ref K.2.2.2, .int (nI 0)]) (rest := [.ref q_8]) dX0_movedTo_46 gX0_movedTo_X0_init_ rfl wd_X0_movedTo_iRX0 wd_X0_movedTo_ml39 wd_X0_movedTo_im_X0_init_ rfl (by decide +kernel) rfl (by decide) (Nat.le_of_ble_eq_true rfl) k9 w9 F kV_no (kV_kk (fun h_11 F => ?_))
          obtain ⟨k9, F⟩ := F
          exact J_aret (x := some q_8) dX0_movedTo_49 rfl (Or.inl ⟨_, rfl⟩) k9.1 k9.2 F
        · replace F := F.2 c
          refine J_aload_n dX0_movedTo_31 0 rfl ?_
          obtain ⟨k9, F⟩ := F
          exact J_aret (x := some a0) dX0_movedTo_32 rfl (Or.inl ⟨_, rfl⟩) k9.1 k9.2 F
  · replace F := F.2 c
    refine J_aload_n dX0_movedTo_5 0 rfl ?_
    refine J_iload_n dX0_movedTo_6 2 rfl ?_
    obtain ⟨b9, F⟩ := F
    obtain ⟨c_13, w_14, k9, w9, F⟩ := F
    refine J_callV0 (ci := 0) (n := 1) (As := [.int x2]) (rest := []) dX0_movedTo_7 rfl gX0_movedTo_X0_foldedUp rfl (by decide +kernel) rfl (by decide) b9 (Nat.le_of_ble_eq_true rfl) k9 w9 F kQ_no (kQ_kk (fun o_15 h_12 F => ?_))
    obtain ⟨k9, F⟩ := F
    exact J_aret (x := o_15) dX0_movedTo_10 rfl (Or.inl ⟨_, rfl⟩) k9.1 k9.2 F

abbrev mX3_countBelow (l : Launch) (K : Kx) (As : List Value) (h : Hp) (Post : Rs → Hp → Prop) : Prop := MX l K yX3_countBelow wsX3_countBelow 0 0 0 0 As h Post
set_option maxRecDepth 100000 in
set_option maxHeartbeats 4000000 in
theorem fX3_countBelow {l : Launch} {K : Kx} {x1 : Nat} {x2 : Int32} {x3 : Int64} {h : Hp} {Post : Rs → Hp → Prop} (htr : l.stackTraces = false)
    (F : (∀ X_2 : Int32 → Prop, (∀ (i_1 : Int32), (((x2 ≤ i_1 → (Post (.inl (some (.int i_1))) h)) ∧ (¬ x2 ≤ i_1 → (∃ n_3, alen K 1 h x1 = some n_3 ∧ ((n_3 ≤ i_1 → (Post (.inl (some (.int i_1))) h)) ∧ (¬ n_3 ≤ i_1 → (∃ u_4, aJ K h x1 i_1 = some u_4 ∧ ((x3 ≤ u_4 → (Post (.inl (some (.int i_1))) h)) ∧ (¬ x3 ≤ u_4 → X_2 (i_1 + nI 1)))))))))) → X_2 i_1) → X_2 (nI 0))) :
    mX3_countBelow l K [.ref x1, .int x2, .long x3] h Post := by
  refine MX.enter htr (by decide) rfl (Nat.le_of_ble_eq_true rfl) ?_
  refine J_lveq (lv' := [(0, .ref x1), (1, .int x2), (2, .long x3)]) rfl ?_
  refine J_iconst (v := nI 0) dX3_countBelow_0 (by decide) ?_
  refine J_istore (lv' := [(4, .int (nI 0)), (0, .ref x1), (1, .int x2), (2, .long x3)]) dX3_countBelow_1 (by decide) rfl ?_
  refine J_sub [1, 2, 3, 0] rfl ?_
  refine F (fun (i_1 : Int32) => J l K yX3_countBelow.cls cX3_countBelow 5 (some .int) wsX3_countBelow [] yX3_countBelow.name 0 0 0 0 (QM K 0 0 Post) 3 [] [(0, .ref x1), (1, .int x2), (2, .long x3), (4, .int i_1)] h 0 0) ?_
  intro i_1 F
  refine J_iload dX3_countBelow_3 3 rfl ?_
  refine J_iload_n dX3_countBelow_5 1 rfl ?_
  refine J_icmp_ge (tgt := 31) dX3_countBelow_6 (by decide) (fun c => ?_) (fun c => ?_)
  · replace F := F.1 c
    refine J_iload dX3_countBelow_31 3 rfl ?_
    exact J_iret dX3_countBelow_33 rfl (Nat.le_refl _) (Nat.le_refl _) F
  · replace F := F.2 c
    refine J_iload dX3_countBelow_9 3 rfl ?_
    refine J_aload_n dX3_countBelow_11 0 rfl ?_
    obtain ⟨n_3, g9, F⟩ := F
    refine J_alen (t := 1) dX3_countBelow_12 rfl g9 ?_
    refine J_icmp_ge (tgt := 31) dX3_countBelow_13 (by decide) (fun c => ?_) (fun c => ?_)
    · replace F := F.1 c
      refine J_iload dX3_countBelow_31 3 rfl ?_
      exact J_iret dX3_countBelow_33 rfl (Nat.le_refl _) (Nat.le_refl _) F
    · replace F := F.2 c
      refine J_aload_n dX3_countBelow_16 0 rfl ?_
      refine J_iload dX3_countBelow_17 3 rfl ?_
      obtain ⟨u_4, g9, F⟩ := F
      refine J_lald dX3_countBelow_19 g9 ?_
      refine J_lload_n dX3_countBelow_20 2 rfl ?_
      refine J_lcmp dX3_countBelow_21 ?_
      refine J_if_ge (tgt := 31) dX3_countBelow_22 (by decide) (fun c => ?_) (fun c => ?_)
      · replace F := F.1 ((lg_cmp_ge _ _).mp c)
        refine J_iload dX3_countBelow_31 3 rfl ?_
        exact J_iret dX3_countBelow_33 rfl (Nat.le_refl _) (Nat.le_refl _) F
      · replace F := F.2 (fun e9 => c ((lg_cmp_ge _ _).mpr e9))
        refine J_iinc (v := i_1 + nI 1) (lv' := [(4, .int (i_1 + nI 1)), (0, .ref x1), (1, .int x2), (2, .long x3)]) dX3_countBelow_25 3 rfl rfl (by decide) rfl ?_
        refine J_goto (tgt := 3) dX3_countBelow_28 (by decide) ?_
        exact J_sub [1, 2, 3, 0] rfl F

abbrev mX0_placeOf (l : Launch) (K : Kx) (As : List Value) (h : Hp) (Post : Rs → Hp → Prop) : Prop := MX l K yX0_placeOf wsX0_placeOf 1 24 0 0 As h Post
set_option maxRecDepth 100000 in
set_option maxHeartbeats 4000000 in
theorem fX0_placeOf {l : Launch} {K : Kx} {a0 : Nat} {x1 : Int64} {h : Hp} {Post : Rs → Hp → Prop} (htr : l.stackTraces = false)
    (F : (∃ p_1, gf h a0 0 4 = some (.ref p_1) ∧ (∃ p_2, gf h a0 0 4 = some (.ref p_2) ∧ (∃ n_3, alen K 1 h p_2 = some n_3 ∧ mX3_countBelow l K [.ref p_1, .int n_3, .long x1] h (kI (fun v_5 h_4 => (Post (.inl (some (.int v_5))) h_4))))))) :
    mX0_placeOf l K [.ref a0, .long x1] h Post := by
  refine MX.enter htr (by decide) rfl (Nat.le_of_ble_eq_true rfl) ?_
  refine J_lveq (lv' := [(0, .ref a0), (1, .long x1)]) rfl ?_
  refine J_aload_n dX0_placeOf_0 0 rfl ?_
  obtain ⟨p_1, g9, F⟩ := F
  refine J_get (ci := 0) (k := 4) dX0_placeOf_1 rfl in_X0_placeOf_0 (by decide) lk_X0_placeOf_29 g9 ?_
  refine J_aload_n dX0_placeOf_4 0 rfl ?_
  obtain ⟨p_2, g9, F⟩ := F
  refine J_get (ci := 0) (k := 4) dX0_placeOf_5 rfl in_X0_placeOf_0 (by decide) lk_X0_placeOf_29 g9 ?_
  obtain ⟨n_3, g9, F⟩ := F
  refine J_alen (t := 1) dX0_placeOf_8 rfl g9 ?_
  refine J_lload_n dX0_placeOf_9 1 rfl ?_
  refine J_callSN (host := "KeyStates") (n := 3) (As := [.ref p_1, .int n_3, .long x1]) (rest := []) dX0_placeOf_10 gX0_placeOf_X3_countBelow_n35 rfl wd_X0_placeOf_iRX3 (by decide) wd_X0_placeOf_st_X3_countBelow (by decide +kernel) rfl (by decide) (Nat.le_of_ble_eq_true rfl) (Nat.le_refl _) (Nat.le_refl _) F kI_no (kI_kk (fun v_5 h_4 F => ?_))
  exact J_iret dX0_placeOf_13 rfl (Nat.le_refl _) (Nat.le_refl _) F

abbrev mX0_withFolded (l : Launch) (K : Kx) (mc ms : Nat) (As : List Value) (h : Hp) (Post : Rs → Hp → Prop) : Prop := MX l K yX0_withFolded wsX0_withFolded 2 84 mc ms As h Post
set_option maxRecDepth 100000 in
set_option maxHeartbeats 4000000 in
theorem fX0_withFolded {l : Launch} {K : Kx} {mc ms : Nat} {a0 : Nat} {x1 : Int32} {x2 : Int64} {h : Hp} {Post : Rs → Hp → Prop} (htr : l.stackTraces = false)
    (F : ((∃ fs, h a0 = some (xO 0 fs)) ∧ (0 + 0 ≤ mc ∧ 0 + 0 ≤ ms ∧ mX0_isNone l K [.ref a0] h (kI (fun v_2 h_1 => ((v_2 = nI 0 → (∃ p_3, gf h_1 a0 0 3 = some (.ref p_3) ∧ (∃ u_4, aJ K h_1 p_3 (nI 0) = some u_4 ∧ ((0 + 0) + 0 ≤ mc ∧ (0 + 0) + 0 ≤ ms ∧ mX3_joined l K [.int x1, .long u_4, .long x2] h_1 (kL (fun u_6 h_5 => (((0 + 0) + 0) + 1 ≤ mc ∧ ((0 + 0) + 0) + 6 ≤ ms ∧ ∀ (q_7 : Nat) (h_8 : Hp), h_5 q_7 = none → kB K ≤ q_7 → h_8 = va_up h_5 q_7 (some (xO 0 [.int 0, .long 0, .int 0, .null, .null, .int 0])) → (∃ N_11, nI 1 = nI N_11 ∧ N_11 ≤ 60000000 ∧ (((0 + 0) + 0) + 1) + 1 ≤ mc ∧ (((0 + 0) + 0) + 6) + N_11 ≤ ms ∧ ∀ (q_9 : Nat) (h_10 : Hp), h_8 q_9 = none → kB K ≤ q_9 → h_10 = va_up h_8 q_9 (some (xJ K N_11 (fun _ => 0))) → (∃ h_12, wJ K h_10 q_9 (nI 0) u_6 = some h_12 ∧ (∃ v_13, gf h_12 a0 0 5 = some (.int v_13) ∧ (((((0 + 0) + 0) + 1) + 1) + 0 ≤ mc ∧ ((((0 + 0) + 0) + 6) + N_11) + 0 ≤ ms ∧ mX0_init_ l K [.ref q_7, .ref a0, .ref q_9, .ref K.2.2.2, .int (v_13 + (nI 1))] h_12 (kV (fun h_14 => (((((((0 + 0) + 0) + 1) + 1) + 0) ≤ mc ∧ (((((0 + 0) + 0) + 6) + N_11) + 0) ≤ ms) ∧ Post (.inl (some (.ref q_7))) h_14)))))))))))))) ∧ (¬ v_2 = nI 0 → ((0 + 0) + 1 ≤ mc ∧ (0 + 0) + 6 ≤ ms ∧ ∀ (q_15 : Nat) (h_16 : Hp), h_1 q_15 = none → kB K ≤ q_15 → h_16 = va_up h_1 q_15 (some (xO 0 [.int 0, .long 0, .int 0, .null, .null, .int 0])) → (∃ N_19, nI 1 = nI N_19 ∧ N_19 ≤ 60000000 ∧ ((0 + 0) + 1) + 1 ≤ mc ∧ ((0 + 0) + 6) + N_19 ≤ ms ∧ ∀ (q_17 : Nat) (h_18 : Hp), h_16 q_17 = none → kB K ≤ q_17 → h_18 = va_up h_16 q_17 (some (xJ K N_19 (fun _ => 0))) → (∃ h_20, wJ K h_18 q_17 (nI 0) x2 = some h_20 ∧ (∃ v_21, gf h_20 a0 0 5 = some (.int v_21) ∧ ((((0 + 0) + 1) + 1) + 0 ≤ mc ∧ (((0 + 0) + 6) + N_19) + 0 ≤ ms ∧ mX0_init_ l K [.ref q_15, .ref a0, .ref q_17, .ref K.2.2.2, .int (v_21 + (nI 1))] h_20 (kV (fun h_22 => ((((((0 + 0) + 1) + 1) + 0) ≤ mc ∧ ((((0 + 0) + 6) + N_19) + 0) ≤ ms) ∧ Post (.inl (some (.ref q_15))) h_22))))))))))))))) :
    mX0_withFolded l K mc ms [.ref a0, .int x1, .long x2] h Post := by
  refine MX.enter htr (by decide) rfl (Nat.le_of_ble_eq_true rfl) ?_
  refine J_lveq (lv' := [(0, .ref a0), (1, .int x1), (2, .long x2)]) rfl ?_
  refine J_aload_n dX0_withFolded_0 0 rfl ?_
  obtain ⟨b9, F⟩ := F
  obtain ⟨k9, w9, F⟩ := F
  refine J_callV0 (ci := 0) (n := 0) (As := []) (rest := []) dX0_withFolded_1 rfl gX0_withFolded_X0_isNone rfl (by decide +kernel) rfl (by decide) b9 (Nat.le_of_ble_eq_true rfl) k9 w9 F kI_no (kI_kk (fun v_2 h_1 F => ?_))
  refine J_if_eq (tgt := 11) dX0_withFolded_4 (by decide) (fun c => ?_) (fun c => ?_)
  · replace F := F.1 c
    refine J_iload_n dX0_withFolded_11 1 rfl ?_
    refine J_aload_n dX0_withFolded_12 0 rfl ?_
    obtain ⟨p_3, g9, F⟩ := F
    refine J_get (ci := 0) (k := 3) dX0_withFolded_13 rfl in_X0_withFolded_0 (by decide) lk_X0_withFolded_26 g9 ?_
    refine J_iconst (v := nI 0) dX0_withFolded_16 (by decide) ?_
    obtain ⟨u_4, g9, F⟩ := F
    refine J_lald dX0_withFolded_17 g9 ?_
    refine J_lload_n dX0_withFolded_18 2 rfl ?_
    obtain ⟨k9, w9, F⟩ := F
    refine J_callSN (host := "KeyStates") (n := 3) (As := [.int x1, .long u_4, .long x2]) (rest := []) dX0_withFolded_19 gX0_withFolded_X3_joined_n59 rfl wd_X0_withFolded_iRX3 (by decide) wd_X0_withFolded_st_X3_joined (by decide +kernel) rfl (by decide) (Nat.le_of_ble_eq_true rfl) k9 w9 F kL_no (kL_kk (fun u_6 h_5 F => ?_))
    refine J_lstore (lv' := [(4, .long u_6), (0, .ref a0), (1, .int x1), (2, .long x2)]) dX0_withFolded_22 (by decide) rfl ?_
    obtain ⟨k9, w9, F⟩ := F
    refine J_new (ci := 0) (fs := [.int 0, .long 0, .int 0, .null, .null, .int 0]) dX0_withFolded_24 rfl in_X0_withFolded_0 tyX0 tyX0_ok wd_X0_withFolded_k10 wd_X0_withFolded_n0 wd_X0_withFolded_i0 dfX0 k9 w9 (fun q_7 h9 i9 => ?_)
    replace F := F q_7 _ h9 i9 rfl
    generalize va_up h_5 q_7 (some (xO 0 [.int 0, .long 0, .int 0, .null, .null, .int 0])) = h_8 at F ⊢
    refine J_dup dX0_withFolded_27 (rfl) ?_
    refine J_aload_n dX0_withFolded_28 1 rfl ?_
    refine J_iconst (v := nI 1) dX0_withFolded_29 (by decide) ?_
    obtain ⟨N_11, e9, b9, k9, w9, F⟩ := F
    refine J_newa (t := 1) (N' := N_11) (a0 := (N_11, .inr (.inl (fun _ => 0)))) dX0_withFolded_30 wd_X0_withFolded_a1 rfl rfl ra_j (fun _ => rfl) e9 b9 (by decide) k9 w9 (fun q_9 h9 i9 => ?_)
    replace F := F q_9 _ h9 i9 rfl
    generalize va_up h_8 q_9 (some (xJ K N_11 (fun _ => 0))) = h_10 at F ⊢
    refine J_dup dX0_withFolded_32 (rfl) ?_
    refine J_iconst (v := nI 0) dX0_withFolded_33 (by decide) ?_
    refine J_lload dX0_withFolded_34 0 rfl ?_
    obtain ⟨h_12, g9, F⟩ := F
    refine J_last dX0_withFolded_36 g9 ?_
    refine J_getsN dX0_withFolded_37 (by decide) ?_
    refine J_aload_n dX0_withFolded_40 1 rfl ?_
    obtain ⟨v_13, g9, F⟩ := F
    refine J_get (ci := 0) (k := 5) dX0_withFolded_41 rfl in_X0_withFolded_0 (by decide) lk_X0_withFolded_32 g9 ?_
    refine J_iconst (v := nI 1) dX0_withFolded_44 (by decide) ?_
    refine J_iadd dX0_withFolded_45 ?_
    obtain ⟨k9, w9, F⟩ := F
    refine J_callI (n := 4) (As := [.ref a0, .ref q_9, .ref K.2.2.2, .int (v_13 + (nI 1))]) (rest := [.ref q_7]) dX0_withFolded_46 gX0_withFolded_X0_init_ rfl wd_X0_withFolded_iRX0 wd_X0_withFolded_ml39 wd_X0_withFolded_im_X0_init_ rfl (by decide +kernel) rfl (by decide) (Nat.le_of_ble_eq_true rfl) k9 w9 F kV_no (kV_kk (fun h_14 F => ?_))
    obtain ⟨k9, F⟩ := F
    exact J_aret (x := some q_7) dX0_withFolded_49 rfl (Or.inl ⟨_, rfl⟩) k9.1 k9.2 F
  · replace F := F.2 c
    refine J_lload_n dX0_withFolded_7 2 rfl ?_
    refine J_goto (tgt := 22) dX0_withFolded_8 (by decide) ?_
    refine J_lstore (lv' := [(4, .long x2), (0, .ref a0), (1, .int x1), (2, .long x2)]) dX0_withFolded_22 (by decide) rfl ?_
    obtain ⟨k9, w9, F⟩ := F
    refine J_new (ci := 0) (fs := [.int 0, .long 0, .int 0, .null, .null, .int 0]) dX0_withFolded_24 rfl in_X0_withFolded_0 tyX0 tyX0_ok wd_X0_withFolded_k10 wd_X0_withFolded_n0 wd_X0_withFolded_i0 dfX0 k9 w9 (fun q_15 h9 i9 => ?_)
    replace F := F q_15 _ h9 i9 rfl
    generalize va_up h_1 q_15 (some (xO 0 [.int 0, .long 0, .int 0, .null, .null, .int 0])) = h_16 at F ⊢
    refine J_dup dX0_withFolded_27 (rfl) ?_
    refine J_aload_n dX0_withFolded_28 1 rfl ?_
    refine J_iconst (v := nI 1) dX0_withFolded_29 (by decide) ?_
    obtain ⟨N_19, e9, b9, k9, w9, F⟩ := F
    refine J_newa (t := 1) (N' := N_19) (a0 := (N_19, .inr (.inl (fun _ => 0)))) dX0_withFolded_30 wd_X0_withFolded_a1 rfl rfl ra_j (fun _ => rfl) e9 b9 (by decide) k9 w9 (fun q_17 h9 i9 => ?_)
    replace F := F q_17 _ h9 i9 rfl
    generalize va_up h_16 q_17 (some (xJ K N_19 (fun _ => 0))) = h_18 at F ⊢
    refine J_dup dX0_withFolded_32 (rfl) ?_
    refine J_iconst (v := nI 0) dX0_withFolded_33 (by decide) ?_
    refine J_lload dX0_withFolded_34 0 rfl ?_
    obtain ⟨h_20, g9, F⟩ := F
    refine J_last dX0_withFolded_36 g9 ?_
    refine J_getsN dX0_withFolded_37 (by decide) ?_
    refine J_aload_n dX0_withFolded_40 1 rfl ?_
    obtain ⟨v_21, g9, F⟩ := F
    refine J_get (ci := 0) (k := 5) dX0_withFolded_41 rfl in_X0_withFolded_0 (by decide) lk_X0_withFolded_32 g9 ?_
    refine J_iconst (v := nI 1) dX0_withFolded_44 (by decide) ?_
    refine J_iadd dX0_withFolded_45 ?_
    obtain ⟨k9, w9, F⟩ := F
    refine J_callI (n := 4) (As := [.ref a0, .ref q_17, .ref K.2.2.2, .int (v_21 + (nI 1))]) (rest := [.ref q_15]) dX0_withFolded_46 gX0_withFolded_X0_init_ rfl wd_X0_withFolded_iRX0 wd_X0_withFolded_ml39 wd_X0_withFolded_im_X0_init_ rfl (by decide +kernel) rfl (by decide) (Nat.le_of_ble_eq_true rfl) k9 w9 F kV_no (kV_kk (fun h_22 F => ?_))
    obtain ⟨k9, F⟩ := F
    exact J_aret (x := some q_15) dX0_withFolded_49 rfl (Or.inl ⟨_, rfl⟩) k9.1 k9.2 F

abbrev mX0_withMember (l : Launch) (K : Kx) (mc ms : Nat) (As : List Value) (h : Hp) (Post : Rs → Hp → Prop) : Prop := MX l K yX0_withMember wsX0_withMember 2 84 mc ms As h Post
set_option maxRecDepth 100000 in
set_option maxHeartbeats 4000000 in
theorem fX0_withMember {l : Launch} {K : Kx} {mc ms : Nat} {a0 : Nat} {x1 : Int32} {x2 : Int64} {x3 : Int64} {h : Hp} {Post : Rs → Hp → Prop} (htr : l.stackTraces = false)
    (F : (0 + 1 ≤ mc ∧ 0 + 6 ≤ ms ∧ ∀ (q_1 : Nat) (h_2 : Hp), h q_1 = none → kB K ≤ q_1 → h_2 = va_up h q_1 (some (xO 0 [.int 0, .long 0, .int 0, .null, .null, .int 0])) → (∃ p_3, gf h_2 a0 0 3 = some (.ref p_3) ∧ (∃ c_5 w_6, (0 + 1) + c_5 ≤ mc ∧ (0 + 6) + w_6 ≤ ms ∧ mX0_inserted l K c_5 w_6 [.ref p_3, .int x1, .long x3] h_2 (kQ (fun o_7 h_4 => (∃ p_8, gf h_4 a0 0 4 = some (.ref p_8) ∧ (∃ c_10 w_11, ((0 + 1) + c_5) + c_10 ≤ mc ∧ ((0 + 6) + w_6) + w_11 ≤ ms ∧ mX0_inserted l K c_10 w_11 [.ref p_8, .int x1, .long x2] h_4 (kQ (fun o_12 h_9 => ((((0 + 1) + c_5) + c_10) + 0 ≤ mc ∧ (((0 + 6) + w_6) + w_11) + 0 ≤ ms ∧ mX0_init_ l K [.ref q_1, .ref a0, va_rf o_7, va_rf o_12, .int (nI 0)] h_9 (kV (fun h_13 => ((((((0 + 1) + c_5) + c_10) + 0) ≤ mc ∧ ((((0 + 6) + w_6) + w_11) + 0) ≤ ms) ∧ Post (.inl (some (.ref q_1))) h_13)))))))))))))) :
    mX0_withMember l K mc ms [.ref a0, .int x1, .long x2, .long x3] h Post := by
  refine MX.enter htr (by decide) rfl (Nat.le_of_ble_eq_true rfl) ?_
  refine J_lveq (lv' := [(0, .ref a0), (1, .int x1), (2, .long x2), (4, .long x3)]) rfl ?_
  obtain ⟨k9, w9, F⟩ := F
  refine J_new (ci := 0) (fs := [.int 0, .long 0, .int 0, .null, .null, .int 0]) dX0_withMember_0 rfl in_X0_withMember_0 tyX0 tyX0_ok wd_X0_withMember_k10 wd_X0_withMember_n0 wd_X0_withMember_i0 dfX0 k9 w9 (fun q_1 h9 i9 => ?_)
  replace F := F q_1 _ h9 i9 rfl
  generalize va_up h q_1 (some (xO 0 [.int 0, .long 0, .int 0, .null, .null, .int 0])) = h_2 at F ⊢
  refine J_dup dX0_withMember_3 (rfl) ?_
  refine J_aload_n dX0_withMember_4 0 rfl ?_
  refine J_aload_n dX0_withMember_5 0 rfl ?_
  obtain ⟨p_3, g9, F⟩ := F
  refine J_get (ci := 0) (k := 3) dX0_withMember_6 rfl in_X0_withMember_0 (by decide) lk_X0_withMember_26 g9 ?_
  refine J_iload_n dX0_withMember_9 1 rfl ?_
  refine J_lload dX0_withMember_10 3 rfl ?_
  obtain ⟨c_5, w_6, k9, w9, F⟩ := F
  refine J_callS0 (n := 3) (As := [.ref p_3, .int x1, .long x3]) (rest := [.ref a0, .ref q_1, .ref q_1]) dX0_withMember_12 gX0_withMember_X0_inserted rfl (by decide +kernel) rfl (by decide) (Nat.le_of_ble_eq_true rfl) k9 w9 F kQ_no (kQ_kk (fun o_7 h_4 F => ?_))
  refine J_aload_n dX0_withMember_15 0 rfl ?_
  obtain ⟨p_8, g9, F⟩ := F
  refine J_get (ci := 0) (k := 4) dX0_withMember_16 rfl in_X0_withMember_0 (by decide) lk_X0_withMember_29 g9 ?_
  refine J_iload_n dX0_withMember_19 1 rfl ?_
  refine J_lload_n dX0_withMember_20 2 rfl ?_
  obtain ⟨c_10, w_11, k9, w9, F⟩ := F
  refine J_callS0 (n := 3) (As := [.ref p_8, .int x1, .long x2]) (rest := [va_rf o_7, .ref a0, .ref q_1, .ref q_1]) dX0_withMember_21 gX0_withMember_X0_inserted rfl (by decide +kernel) rfl (by decide) (by simp only [List.map, rf_cat]; exact Nat.le_of_ble_eq_true rfl) k9 w9 F kQ_no (kQ_kk (fun o_12 h_9 F => ?_))
  refine J_iconst (v := nI 0) dX0_withMember_24 (by decide) ?_
  obtain ⟨k9, w9, F⟩ := F
  refine J_callI (n := 4) (As := [.ref a0, va_rf o_7, va_rf o_12, .int (nI 0)]) (rest := [.ref q_1]) dX0_withMember_25 gX0_withMember_X0_init_ rfl wd_X0_withMember_iRX0 wd_X0_withMember_ml39 wd_X0_withMember_im_X0_init_ rfl (by decide +kernel) rfl (by decide) (Nat.le_of_ble_eq_true rfl) k9 w9 F kV_no (kV_kk (fun h_13 F => ?_))
  obtain ⟨k9, F⟩ := F
  exact J_aret (x := some q_1) dX0_withMember_28 rfl (Or.inl ⟨_, rfl⟩) k9.1 k9.2 F

abbrev mX0_withNothing (l : Launch) (K : Kx) (mc ms : Nat) (As : List Value) (h : Hp) (Post : Rs → Hp → Prop) : Prop := MX l K yX0_withNothing wsX0_withNothing 2 84 mc ms As h Post
set_option maxRecDepth 100000 in
set_option maxHeartbeats 4000000 in
theorem fX0_withNothing {l : Launch} {K : Kx} {mc ms : Nat} {a0 : Nat} {h : Hp} {Post : Rs → Hp → Prop} (htr : l.stackTraces = false)
    (F : (0 + 1 ≤ mc ∧ 0 + 6 ≤ ms ∧ ∀ (q_1 : Nat) (h_2 : Hp), h q_1 = none → kB K ≤ q_1 → h_2 = va_up h q_1 (some (xO 0 [.int 0, .long 0, .int 0, .null, .null, .int 0])) → ((0 + 1) + 0 ≤ mc ∧ (0 + 6) + 0 ≤ ms ∧ mX0_init_ l K [.ref q_1, .ref a0, .ref K.2.2.2, .ref K.2.2.2, .int (nI 0)] h_2 (kV (fun h_3 => ((((0 + 1) + 0) ≤ mc ∧ ((0 + 6) + 0) ≤ ms) ∧ Post (.inl (some (.ref q_1))) h_3)))))) :
    mX0_withNothing l K mc ms [.ref a0] h Post := by
  refine MX.enter htr (by decide) rfl (Nat.le_of_ble_eq_true rfl) ?_
  refine J_lveq (lv' := [(0, .ref a0)]) rfl ?_
  obtain ⟨k9, w9, F⟩ := F
  refine J_new (ci := 0) (fs := [.int 0, .long 0, .int 0, .null, .null, .int 0]) dX0_withNothing_0 rfl in_X0_withNothing_0 tyX0 tyX0_ok wd_X0_withNothing_k10 wd_X0_withNothing_n0 wd_X0_withNothing_i0 dfX0 k9 w9 (fun q_1 h9 i9 => ?_)
  replace F := F q_1 _ h9 i9 rfl
  generalize va_up h q_1 (some (xO 0 [.int 0, .long 0, .int 0, .null, .null, .int 0])) = h_2 at F ⊢
  refine J_dup dX0_withNothing_3 (rfl) ?_
  refine J_aload_n dX0_withNothing_4 0 rfl ?_
  refine J_getsN dX0_withNothing_5 (by decide) ?_
  refine J_getsN dX0_withNothing_8 (by decide) ?_
  refine J_iconst (v := nI 0) dX0_withNothing_11 (by decide) ?_
  obtain ⟨k9, w9, F⟩ := F
  refine J_callI (n := 4) (As := [.ref a0, .ref K.2.2.2, .ref K.2.2.2, .int (nI 0)]) (rest := [.ref q_1]) dX0_withNothing_12 gX0_withNothing_X0_init_ rfl wd_X0_withNothing_iRX0 wd_X0_withNothing_ml39 wd_X0_withNothing_im_X0_init_ rfl (by decide +kernel) rfl (by decide) (Nat.le_of_ble_eq_true rfl) k9 w9 F kV_no (kV_kk (fun h_3 F => ?_))
  obtain ⟨k9, F⟩ := F
  exact J_aret (x := some q_1) dX0_withNothing_15 rfl (Or.inl ⟨_, rfl⟩) k9.1 k9.2 F

abbrev mJ7_copyOf_c38d5 (l : Launch) (K : Kx) (mc ms : Nat) (As : List Value) (h : Hp) (Post : Rs → Hp → Prop) : Prop := MX l K yJ7_copyOf_c38d5 wsJ7_copyOf_c38d5 1 60 mc ms As h Post
set_option maxRecDepth 100000 in
set_option maxHeartbeats 4000000 in
theorem fJ7_copyOf_c38d5 {l : Launch} {K : Kx} {mc ms : Nat} {x1 : Nat} {x2 : Int32} {h : Hp} {Post : Rs → Hp → Prop} (htr : l.stackTraces = false)
    (F : (∃ n_1, alen K 1 h x1 = some n_1 ∧ ((¬ x2 = n_1 → (∃ N_4, x2 = nI N_4 ∧ N_4 ≤ 60000000 ∧ 0 + 1 ≤ mc ∧ 0 + N_4 ≤ ms ∧ ∀ (q_2 : Nat) (h_3 : Hp), h q_2 = none → kB K ≤ q_2 → h_3 = va_up h q_2 (some (xJ K N_4 (fun _ => 0))) → (∃ n_5, alen K 1 h_3 x1 = some n_5 ∧ (((0 + 1) ≤ mc ∧ (0 + N_4) ≤ ms) ∧ (∃ N_6 f_7 N_8 f_9, h_3 x1 = some (xJ K N_6 f_7) ∧ h_3 q_2 = some (xJ K N_8 f_9) ∧ kB K ≤ q_2 ∧ ¬ (nI 0) < nI 0 ∧ ¬ (nI 0) < nI 0 ∧ ¬ (if x2 < n_5 then x2 else n_5) < nI 0 ∧ (nI 0).toNatClampNeg + (if x2 < n_5 then x2 else n_5).toNatClampNeg ≤ N_6 ∧ (nI 0).toNatClampNeg + (if x2 < n_5 then x2 else n_5).toNatClampNeg ≤ N_8 ∧ ∀ h_10 : Hp, h_10 = va_up h_3 q_2 (some (xJ K N_8 (va_cpy f_7 f_9 (nI 0).toNatClampNeg (nI 0).toNatClampNeg (if x2 < n_5 then x2 else n_5).toNatClampNeg))) → (((0 + 1) ≤ mc ∧ (0 + N_4) ≤ ms) ∧ Post (.inl (some (.ref q_2))) h_10)))))) ∧ (x2 = n_1 → (∃ N_11 f_12, h x1 = some (xJ K N_11 f_12) ∧ 0 < N_11 ∧ 0 + 1 ≤ mc ∧ 0 + N_11 ≤ ms ∧ ∀ (q_13 : Nat) (h_14 : Hp), h q_13 = none → kB K ≤ q_13 → h_14 = va_up h q_13 (some (xJ K N_11 f_12)) → (∃ N_15 f_16, h_14 q_13 = some (xJ K N_15 f_16) ∧ 0 < N_15 ∧ (((0 + 1) ≤ mc ∧ (0 + N_11) ≤ ms) ∧ Post (.inl (some (.ref q_13))) h_14))))))) :
    mJ7_copyOf_c38d5 l K mc ms [.ref x1, .int x2] h Post := by
  refine MX.enter htr (by decide) rfl (Nat.le_of_ble_eq_true rfl) ?_
  refine J_lveq (lv' := [(0, .ref x1), (1, .int x2)]) rfl ?_
  refine J_iload_n dJ7_copyOf_c38d5_0 1 rfl ?_
  refine J_aload_n dJ7_copyOf_c38d5_1 0 rfl ?_
  obtain ⟨n_1, g9, F⟩ := F
  refine J_alen (t := 1) dJ7_copyOf_c38d5_2 rfl g9 ?_
  refine J_icmp_ne (tgt := 14) dJ7_copyOf_c38d5_3 (by decide) (fun c => ?_) (fun c => ?_)
  · replace F := F.1 c
    refine J_iload_n dJ7_copyOf_c38d5_14 1 rfl ?_
    obtain ⟨N_4, e9, b9, k9, w9, F⟩ := F
    refine J_newa (t := 1) (N' := N_4) (a0 := (N_4, .inr (.inl (fun _ => 0)))) dJ7_copyOf_c38d5_15 wd_J7_copyOf_c38d5_a1 rfl rfl ra_j (fun _ => rfl) e9 b9 (by decide) k9 w9 (fun q_2 h9 i9 => ?_)
    replace F := F q_2 _ h9 i9 rfl
    generalize va_up h q_2 (some (xJ K N_4 (fun _ => 0))) = h_3 at F ⊢
    refine J_astore_n (lv' := [(2, .ref q_2), (0, .ref x1), (1, .int x2)]) dJ7_copyOf_c38d5_17 rfl (by decide) rfl ?_
    refine J_aload_n dJ7_copyOf_c38d5_18 1 rfl ?_
    refine J_iconst (v := nI 0) dJ7_copyOf_c38d5_19 (by decide) ?_
    refine J_aload_n dJ7_copyOf_c38d5_20 0 rfl ?_
    refine J_iconst (v := nI 0) dJ7_copyOf_c38d5_21 (by decide) ?_
    refine J_aload_n dJ7_copyOf_c38d5_22 1 rfl ?_
    obtain ⟨n_5, g9, F⟩ := F
    refine J_alen (t := 1) dJ7_copyOf_c38d5_23 rfl g9 ?_
    refine J_iload_n dJ7_copyOf_c38d5_24 2 rfl ?_
    obtain ⟨k9, F⟩ := F
    refine J_mmini dJ7_copyOf_c38d5_25 wd_J7_copyOf_c38d5_mm304 wd_J7_copyOf_c38d5_ms304 wd_J7_copyOf_c38d5_mi wd_J7_copyOf_c38d5_mc304 (by decide) (by first | exact Nat.le_of_ble_eq_true rfl | (simp only [List.map, rf_cat]; exact Nat.le_of_ble_eq_true rfl)) k9.1 k9.2 ?_
    obtain ⟨N_6, f_7, N_8, f_9, e9, e8, b9, z91, z92, z93, z94, z95, F⟩ := F
    refine J_copyl dJ7_copyOf_c38d5_28 wd_J7_copyOf_c38d5_ac150 wd_J7_copyOf_c38d5_acn wd_J7_copyOf_c38d5_acs wd_J7_copyOf_c38d5_aci e9 e8 b9 z91 z92 z93 z94 z95 (by decide) (by first | exact Nat.le_of_ble_eq_true rfl | (simp only [List.map, rf_cat]; exact Nat.le_of_ble_eq_true rfl)) ?_
    replace F := F _ rfl
    generalize va_up h_3 q_2 (some (xJ K N_8 (va_cpy f_7 f_9 (nI 0).toNatClampNeg (nI 0).toNatClampNeg (if x2 < n_5 then x2 else n_5).toNatClampNeg))) = h_10 at F ⊢
    refine J_aload_n dJ7_copyOf_c38d5_31 0 rfl ?_
    obtain ⟨k9, F⟩ := F
    exact J_aret (x := some q_2) dJ7_copyOf_c38d5_32 rfl (Or.inr ⟨_, rfl⟩) k9.1 k9.2 F
  · replace F := F.2 c
    refine J_aload_n dJ7_copyOf_c38d5_6 0 rfl ?_
    obtain ⟨N_11, f_12, e9, b9, k9, w9, F⟩ := F
    refine J_cloneJ dJ7_copyOf_c38d5_7 rfl wd_J7_copyOf_c38d5_cl1 wd_J7_copyOf_c38d5_cl2 wd_J7_copyOf_c38d5_cl3 wd_J7_copyOf_c38d5_cl4 wd_J7_copyOf_c38d5_cl5 e9 b9 (by decide) (Nat.le_of_ble_eq_true rfl) k9 w9 (fun q_13 h9 i9 => ?_)
    replace F := F q_13 _ h9 i9 rfl
    generalize va_up h q_13 (some (xJ K N_11 f_12)) = h_14 at F ⊢
    obtain ⟨N_15, f_16, e9, b9, F⟩ := F
    refine J_castJ dJ7_copyOf_c38d5_10 rfl wd_J7_copyOf_c38d5_k320 e9 b9 ?_
    obtain ⟨k9, F⟩ := F
    exact J_aret (x := some q_13) dJ7_copyOf_c38d5_13 rfl (Or.inr ⟨_, rfl⟩) k9.1 k9.2 F

abbrev mX0_withNumberAt (l : Launch) (K : Kx) (mc ms : Nat) (As : List Value) (h : Hp) (Post : Rs → Hp → Prop) : Prop := MX l K yX0_withNumberAt wsX0_withNumberAt 2 84 mc ms As h Post
set_option maxRecDepth 100000 in
set_option maxHeartbeats 4000000 in
theorem fX0_withNumberAt {l : Launch} {K : Kx} {mc ms : Nat} {a0 : Nat} {x1 : Int32} {x2 : Int64} {h : Hp} {Post : Rs → Hp → Prop} (htr : l.stackTraces = false)
    (F : (∃ p_1, gf h a0 0 3 = some (.ref p_1) ∧ (∃ p_2, gf h a0 0 3 = some (.ref p_2) ∧ (∃ n_3, alen K 1 h p_2 = some n_3 ∧ (∃ c_5 w_6, 0 + c_5 ≤ mc ∧ 0 + w_6 ≤ ms ∧ mJ7_copyOf_c38d5 l K c_5 w_6 [.ref p_1, .int n_3] h (kQ (fun o_7 h_4 => (∃ a_8, o_7 = some a_8 ∧ (∃ h_9, wJ K h_4 a_8 x1 x2 = some h_9 ∧ ((0 + c_5) + 1 ≤ mc ∧ (0 + w_6) + 6 ≤ ms ∧ ∀ (q_10 : Nat) (h_11 : Hp), h_9 q_10 = none → kB K ≤ q_10 → h_11 = va_up h_9 q_10 (some (xO 0 [.int 0, .long 0, .int 0, .null, .null, .int 0])) → (∃ p_12, gf h_11 a0 0 4 = some (.ref p_12) ∧ (((0 + c_5) + 1) + 0 ≤ mc ∧ ((0 + w_6) + 6) + 0 ≤ ms ∧ mX0_init_ l K [.ref q_10, .ref a0, .ref a_8, .ref p_12, .int (nI 0)] h_11 (kV (fun h_13 => (((((0 + c_5) + 1) + 0) ≤ mc ∧ (((0 + w_6) + 6) + 0) ≤ ms) ∧ Post (.inl (some (.ref q_10))) h_13))))))))))))))) :
    mX0_withNumberAt l K mc ms [.ref a0, .int x1, .long x2] h Post := by
  refine MX.enter htr (by decide) rfl (Nat.le_of_ble_eq_true rfl) ?_
  refine J_lveq (lv' := [(0, .ref a0), (1, .int x1), (2, .long x2)]) rfl ?_
  refine J_aload_n dX0_withNumberAt_0 0 rfl ?_
  obtain ⟨p_1, g9, F⟩ := F
  refine J_get (ci := 0) (k := 3) dX0_withNumberAt_1 rfl in_X0_withNumberAt_0 (by decide) lk_X0_withNumberAt_26 g9 ?_
  refine J_aload_n dX0_withNumberAt_4 0 rfl ?_
  obtain ⟨p_2, g9, F⟩ := F
  refine J_get (ci := 0) (k := 3) dX0_withNumberAt_5 rfl in_X0_withNumberAt_0 (by decide) lk_X0_withNumberAt_26 g9 ?_
  obtain ⟨n_3, g9, F⟩ := F
  refine J_alen (t := 1) dX0_withNumberAt_8 rfl g9 ?_
  obtain ⟨c_5, w_6, k9, w9, F⟩ := F
  refine J_callS0 (n := 2) (As := [.ref p_1, .int n_3]) (rest := []) dX0_withNumberAt_9 gX0_withNumberAt_J7_copyOf_c38d5 rfl (by decide +kernel) rfl (by decide) (Nat.le_of_ble_eq_true rfl) k9 w9 F kQ_no (kQ_kk (fun o_7 h_4 F => ?_))
  refine J_astoreq (lv' := [(4, va_rf o_7), (0, .ref a0), (1, .int x1), (2, .long x2)]) dX0_withNumberAt_12 (by decide) rfl ?_
  refine J_aloadq dX0_withNumberAt_14 0 rfl ?_
  refine J_iload_n dX0_withNumberAt_16 2 rfl ?_
  refine J_lload_n dX0_withNumberAt_17 3 rfl ?_
  obtain ⟨a_8, hq9, F⟩ := F
  rw [hq9]
  obtain ⟨h_9, g9, F⟩ := F
  refine J_last dX0_withNumberAt_18 g9 ?_
  obtain ⟨k9, w9, F⟩ := F
  refine J_new (ci := 0) (fs := [.int 0, .long 0, .int 0, .null, .null, .int 0]) dX0_withNumberAt_19 rfl in_X0_withNumberAt_0 tyX0 tyX0_ok wd_X0_withNumberAt_k10 wd_X0_withNumberAt_n0 wd_X0_withNumberAt_i0 dfX0 k9 w9 (fun q_10 h9 i9 => ?_)
  replace F := F q_10 _ h9 i9 rfl
  generalize va_up h_9 q_10 (some (xO 0 [.int 0, .long 0, .int 0, .null, .null, .int 0])) = h_11 at F ⊢
  refine J_dup dX0_withNumberAt_22 (rfl) ?_
  refine J_aload_n dX0_withNumberAt_23 1 rfl ?_
  refine J_aload dX0_withNumberAt_24 0 rfl ?_
  refine J_aload_n dX0_withNumberAt_26 1 rfl ?_
  obtain ⟨p_12, g9, F⟩ := F
  refine J_get (ci := 0) (k := 4) dX0_withNumberAt_27 rfl in_X0_withNumberAt_0 (by decide) lk_X0_withNumberAt_29 g9 ?_
  refine J_iconst (v := nI 0) dX0_withNumberAt_30 (by decide) ?_
  obtain ⟨k9, w9, F⟩ := F
  refine J_callI (n := 4) (As := [.ref a0, .ref a_8, .ref p_12, .int (nI 0)]) (rest := [.ref q_10]) dX0_withNumberAt_31 gX0_withNumberAt_X0_init_ rfl wd_X0_withNumberAt_iRX0 wd_X0_withNumberAt_ml39 wd_X0_withNumberAt_im_X0_init_ rfl (by decide +kernel) rfl (by decide) (Nat.le_of_ble_eq_true rfl) k9 w9 F kV_no (kV_kk (fun h_13 F => ?_))
  obtain ⟨k9, F⟩ := F
  exact J_aret (x := some q_10) dX0_withNumberAt_34 rfl (Or.inl ⟨_, rfl⟩) k9.1 k9.2 F

abbrev mX0_withOneMore (l : Launch) (K : Kx) (mc ms : Nat) (As : List Value) (h : Hp) (Post : Rs → Hp → Prop) : Prop := MX l K yX0_withOneMore wsX0_withOneMore 2 84 mc ms As h Post
set_option maxRecDepth 100000 in
set_option maxHeartbeats 4000000 in
theorem fX0_withOneMore {l : Launch} {K : Kx} {mc ms : Nat} {a0 : Nat} {x1 : Int64} {h : Hp} {Post : Rs → Hp → Prop} (htr : l.stackTraces = false)
    (F : (0 + 1 ≤ mc ∧ 0 + 6 ≤ ms ∧ ∀ (q_1 : Nat) (h_2 : Hp), h q_1 = none → kB K ≤ q_1 → h_2 = va_up h q_1 (some (xO 0 [.int 0, .long 0, .int 0, .null, .null, .int 0])) → (∃ p_3, gf h_2 a0 0 3 = some (.ref p_3) ∧ (∃ p_4, gf h_2 a0 0 3 = some (.ref p_4) ∧ (∃ n_5, alen K 1 h_2 p_4 = some n_5 ∧ (∃ c_7 w_8, (0 + 1) + c_7 ≤ mc ∧ (0 + 6) + w_8 ≤ ms ∧ mX0_inserted l K c_7 w_8 [.ref p_3, .int n_5, .long x1] h_2 (kQ (fun o_9 h_6 => (((0 + 1) + c_7) + 0 ≤ mc ∧ ((0 + 6) + w_8) + 0 ≤ ms ∧ mX0_init_ l K [.ref q_1, .ref a0, va_rf o_9, .ref K.2.2.2, .int (nI 0)] h_6 (kV (fun h_10 => (((((0 + 1) + c_7) + 0) ≤ mc ∧ (((0 + 6) + w_8) + 0) ≤ ms) ∧ Post (.inl (some (.ref q_1))) h_10)))))))))))) :
    mX0_withOneMore l K mc ms [.ref a0, .long x1] h Post := by
  refine MX.enter htr (by decide) rfl (Nat.le_of_ble_eq_true rfl) ?_
  refine J_lveq (lv' := [(0, .ref a0), (1, .long x1)]) rfl ?_
  obtain ⟨k9, w9, F⟩ := F
  refine J_new (ci := 0) (fs := [.int 0, .long 0, .int 0, .null, .null, .int 0]) dX0_withOneMore_0 rfl in_X0_withOneMore_0 tyX0 tyX0_ok wd_X0_withOneMore_k10 wd_X0_withOneMore_n0 wd_X0_withOneMore_i0 dfX0 k9 w9 (fun q_1 h9 i9 => ?_)
  replace F := F q_1 _ h9 i9 rfl
  generalize va_up h q_1 (some (xO 0 [.int 0, .long 0, .int 0, .null, .null, .int 0])) = h_2 at F ⊢
  refine J_dup dX0_withOneMore_3 (rfl) ?_
  refine J_aload_n dX0_withOneMore_4 0 rfl ?_
  refine J_aload_n dX0_withOneMore_5 0 rfl ?_
  obtain ⟨p_3, g9, F⟩ := F
  refine J_get (ci := 0) (k := 3) dX0_withOneMore_6 rfl in_X0_withOneMore_0 (by decide) lk_X0_withOneMore_26 g9 ?_
  refine J_aload_n dX0_withOneMore_9 0 rfl ?_
  obtain ⟨p_4, g9, F⟩ := F
  refine J_get (ci := 0) (k := 3) dX0_withOneMore_10 rfl in_X0_withOneMore_0 (by decide) lk_X0_withOneMore_26 g9 ?_
  obtain ⟨n_5, g9, F⟩ := F
  refine J_alen (t := 1) dX0_withOneMore_13 rfl g9 ?_
  refine J_lload_n dX0_withOneMore_14 1 rfl ?_
  obtain ⟨c_7, w_8, k9, w9, F⟩ := F
  refine J_callS0 (n := 3) (As := [.ref p_3, .int n_5, .long x1]) (rest := [.ref a0, .ref q_1, .ref q_1]) dX0_withOneMore_15 gX0_withOneMore_X0_inserted rfl (by decide +kernel) rfl (by decide) (Nat.le_of_ble_eq_true rfl) k9 w9 F kQ_no (kQ_kk (fun o_9 h_6 F => ?_))
  refine J_getsN dX0_withOneMore_18 (by decide) ?_
  refine J_iconst (v := nI 0) dX0_withOneMore_21 (by decide) ?_
  obtain ⟨k9, w9, F⟩ := F
  refine J_callI (n := 4) (As := [.ref a0, va_rf o_9, .ref K.2.2.2, .int (nI 0)]) (rest := [.ref q_1]) dX0_withOneMore_22 gX0_withOneMore_X0_init_ rfl wd_X0_withOneMore_iRX0 wd_X0_withOneMore_ml39 wd_X0_withOneMore_im_X0_init_ rfl (by decide +kernel) rfl (by decide) (Nat.le_of_ble_eq_true rfl) k9 w9 F kV_no (kV_kk (fun h_10 F => ?_))
  obtain ⟨k9, F⟩ := F
  exact J_aret (x := some q_1) dX0_withOneMore_25 rfl (Or.inl ⟨_, rfl⟩) k9.1 k9.2 F

abbrev mX0_withOnly (l : Launch) (K : Kx) (mc ms : Nat) (As : List Value) (h : Hp) (Post : Rs → Hp → Prop) : Prop := MX l K yX0_withOnly wsX0_withOnly 2 84 mc ms As h Post
set_option maxRecDepth 100000 in
set_option maxHeartbeats 4000000 in
theorem fX0_withOnly {l : Launch} {K : Kx} {mc ms : Nat} {a0 : Nat} {x1 : Int64} {h : Hp} {Post : Rs → Hp → Prop} (htr : l.stackTraces = false)
    (F : (0 + 1 ≤ mc ∧ 0 + 6 ≤ ms ∧ ∀ (q_1 : Nat) (h_2 : Hp), h q_1 = none → kB K ≤ q_1 → h_2 = va_up h q_1 (some (xO 0 [.int 0, .long 0, .int 0, .null, .null, .int 0])) → (∃ N_5, nI 1 = nI N_5 ∧ N_5 ≤ 60000000 ∧ (0 + 1) + 1 ≤ mc ∧ (0 + 6) + N_5 ≤ ms ∧ ∀ (q_3 : Nat) (h_4 : Hp), h_2 q_3 = none → kB K ≤ q_3 → h_4 = va_up h_2 q_3 (some (xJ K N_5 (fun _ => 0))) → (∃ h_6, wJ K h_4 q_3 (nI 0) x1 = some h_6 ∧ (((0 + 1) + 1) + 0 ≤ mc ∧ ((0 + 6) + N_5) + 0 ≤ ms ∧ mX0_init_ l K [.ref q_1, .ref a0, .ref q_3, .ref K.2.2.2, .int (nI 0)] h_6 (kV (fun h_7 => (((((0 + 1) + 1) + 0) ≤ mc ∧ (((0 + 6) + N_5) + 0) ≤ ms) ∧ Post (.inl (some (.ref q_1))) h_7)))))))) :
    mX0_withOnly l K mc ms [.ref a0, .long x1] h Post := by
  refine MX.enter htr (by decide) rfl (Nat.le_of_ble_eq_true rfl) ?_
  refine J_lveq (lv' := [(0, .ref a0), (1, .long x1)]) rfl ?_
  obtain ⟨k9, w9, F⟩ := F
  refine J_new (ci := 0) (fs := [.int 0, .long 0, .int 0, .null, .null, .int 0]) dX0_withOnly_0 rfl in_X0_withOnly_0 tyX0 tyX0_ok wd_X0_withOnly_k10 wd_X0_withOnly_n0 wd_X0_withOnly_i0 dfX0 k9 w9 (fun q_1 h9 i9 => ?_)
  replace F := F q_1 _ h9 i9 rfl
  generalize va_up h q_1 (some (xO 0 [.int 0, .long 0, .int 0, .null, .null, .int 0])) = h_2 at F ⊢
  refine J_dup dX0_withOnly_3 (rfl) ?_
  refine J_aload_n dX0_withOnly_4 0 rfl ?_
  refine J_iconst (v := nI 1) dX0_withOnly_5 (by decide) ?_
  obtain ⟨N_5, e9, b9, k9, w9, F⟩ := F
  refine J_newa (t := 1) (N' := N_5) (a0 := (N_5, .inr (.inl (fun _ => 0)))) dX0_withOnly_6 wd_X0_withOnly_a1 rfl rfl ra_j (fun _ => rfl) e9 b9 (by decide) k9 w9 (fun q_3 h9 i9 => ?_)
  replace F := F q_3 _ h9 i9 rfl
  generalize va_up h_2 q_3 (some (xJ K N_5 (fun _ => 0))) = h_4 at F ⊢
  refine J_dup dX0_withOnly_8 (rfl) ?_
  refine J_iconst (v := nI 0) dX0_withOnly_9 (by decide) ?_
  refine J_lload_n dX0_withOnly_10 1 rfl ?_
  obtain ⟨h_6, g9, F⟩ := F
  refine J_last dX0_withOnly_11 g9 ?_
  refine J_getsN dX0_withOnly_12 (by decide) ?_
  refine J_iconst (v := nI 0) dX0_withOnly_15 (by decide) ?_
  obtain ⟨k9, w9, F⟩ := F
  refine J_callI (n := 4) (As := [.ref a0, .ref q_3, .ref K.2.2.2, .int (nI 0)]) (rest := [.ref q_1]) dX0_withOnly_16 gX0_withOnly_X0_init_ rfl wd_X0_withOnly_iRX0 wd_X0_withOnly_ml39 wd_X0_withOnly_im_X0_init_ rfl (by decide +kernel) rfl (by decide) (Nat.le_of_ble_eq_true rfl) k9 w9 F kV_no (kV_kk (fun h_7 F => ?_))
  obtain ⟨k9, F⟩ := F
  exact J_aret (x := some q_1) dX0_withOnly_19 rfl (Or.inl ⟨_, rfl⟩) k9.1 k9.2 F

abbrev mX0_without (l : Launch) (K : Kx) (mc ms : Nat) (As : List Value) (h : Hp) (Post : Rs → Hp → Prop) : Prop := MX l K yX0_without wsX0_without 1 60 mc ms As h Post
set_option maxRecDepth 100000 in
set_option maxHeartbeats 4000000 in
theorem fX0_without {l : Launch} {K : Kx} {mc ms : Nat} {x1 : Nat} {x2 : Int32} {h : Hp} {Post : Rs → Hp → Prop} (htr : l.stackTraces = false)
    (F : (∃ n_1, alen K 1 h x1 = some n_1 ∧ (∃ N_4, n_1 - (nI 1) = nI N_4 ∧ N_4 ≤ 60000000 ∧ 0 + 1 ≤ mc ∧ 0 + N_4 ≤ ms ∧ ∀ (q_2 : Nat) (h_3 : Hp), h q_2 = none → kB K ≤ q_2 → h_3 = va_up h q_2 (some (xJ K N_4 (fun _ => 0))) → (∃ N_5 f_6 N_7 f_8, h_3 x1 = some (xJ K N_5 f_6) ∧ h_3 q_2 = some (xJ K N_7 f_8) ∧ kB K ≤ q_2 ∧ ¬ (nI 0) < nI 0 ∧ ¬ (nI 0) < nI 0 ∧ ¬ x2 < nI 0 ∧ (nI 0).toNatClampNeg + x2.toNatClampNeg ≤ N_5 ∧ (nI 0).toNatClampNeg + x2.toNatClampNeg ≤ N_7 ∧ ∀ h_9 : Hp, h_9 = va_up h_3 q_2 (some (xJ K N_7 (va_cpy f_6 f_8 (nI 0).toNatClampNeg (nI 0).toNatClampNeg x2.toNatClampNeg))) → (∃ n_10, alen K 1 h_9 q_2 = some n_10 ∧ (∃ N_11 f_12 N_13 f_14, h_9 x1 = some (xJ K N_11 f_12) ∧ h_9 q_2 = some (xJ K N_13 f_14) ∧ kB K ≤ q_2 ∧ ¬ (x2 + (nI 1)) < nI 0 ∧ ¬ x2 < nI 0 ∧ ¬ (n_10 - x2) < nI 0 ∧ (x2 + (nI 1)).toNatClampNeg + (n_10 - x2).toNatClampNeg ≤ N_11 ∧ x2.toNatClampNeg + (n_10 - x2).toNatClampNeg ≤ N_13 ∧ ∀ h_15 : Hp, h_15 = va_up h_9 q_2 (some (xJ K N_13 (va_cpy f_12 f_14 (x2 + (nI 1)).toNatClampNeg x2.toNatClampNeg (n_10 - x2).toNatClampNeg))) → (((0 + 1) ≤ mc ∧ (0 + N_4) ≤ ms) ∧ Post (.inl (some (.ref q_2))) h_15))))))) :
    mX0_without l K mc ms [.ref x1, .int x2] h Post := by
  refine MX.enter htr (by decide) rfl (Nat.le_of_ble_eq_true rfl) ?_
  refine J_lveq (lv' := [(0, .ref x1), (1, .int x2)]) rfl ?_
  refine J_aload_n dX0_without_0 0 rfl ?_
  obtain ⟨n_1, g9, F⟩ := F
  refine J_alen (t := 1) dX0_without_1 rfl g9 ?_
  refine J_iconst (v := nI 1) dX0_without_2 (by decide) ?_
  refine J_isub dX0_without_3 ?_
  obtain ⟨N_4, e9, b9, k9, w9, F⟩ := F
  refine J_newa (t := 1) (N' := N_4) (a0 := (N_4, .inr (.inl (fun _ => 0)))) dX0_without_4 wd_X0_without_a1 rfl rfl ra_j (fun _ => rfl) e9 b9 (by decide) k9 w9 (fun q_2 h9 i9 => ?_)
  replace F := F q_2 _ h9 i9 rfl
  generalize va_up h q_2 (some (xJ K N_4 (fun _ => 0))) = h_3 at F ⊢
  refine J_astore_n (lv' := [(2, .ref q_2), (0, .ref x1), (1, .int x2)]) dX0_without_6 rfl (by decide) rfl ?_
  refine J_aload_n dX0_without_7 1 rfl ?_
  refine J_iconst (v := nI 0) dX0_without_8 (by decide) ?_
  refine J_aload_n dX0_without_9 0 rfl ?_
  refine J_iconst (v := nI 0) dX0_without_10 (by decide) ?_
  refine J_iload_n dX0_without_11 2 rfl ?_
  obtain ⟨N_5, f_6, N_7, f_8, e9, e8, b9, z91, z92, z93, z94, z95, F⟩ := F
  refine J_copyl dX0_without_12 wd_X0_without_ac71 wd_X0_without_acn wd_X0_without_acs wd_X0_without_aci e9 e8 b9 z91 z92 z93 z94 z95 (by decide) (by first | exact Nat.le_of_ble_eq_true rfl | (simp only [List.map, rf_cat]; exact Nat.le_of_ble_eq_true rfl)) ?_
  replace F := F _ rfl
  generalize va_up h_3 q_2 (some (xJ K N_7 (va_cpy f_6 f_8 (nI 0).toNatClampNeg (nI 0).toNatClampNeg x2.toNatClampNeg))) = h_9 at F ⊢
  refine J_aload_n dX0_without_15 1 rfl ?_
  refine J_iload_n dX0_without_16 2 rfl ?_
  refine J_iconst (v := nI 1) dX0_without_17 (by decide) ?_
  refine J_iadd dX0_without_18 ?_
  refine J_aload_n dX0_without_19 0 rfl ?_
  refine J_iload_n dX0_without_20 2 rfl ?_
  refine J_aload_n dX0_without_21 0 rfl ?_
  obtain ⟨n_10, g9, F⟩ := F
  refine J_alen (t := 1) dX0_without_22 rfl g9 ?_
  refine J_iload_n dX0_without_23 2 rfl ?_
  refine J_isub dX0_without_24 ?_
  obtain ⟨N_11, f_12, N_13, f_14, e9, e8, b9, z91, z92, z93, z94, z95, F⟩ := F
  refine J_copyl dX0_without_25 wd_X0_without_ac71 wd_X0_without_acn wd_X0_without_acs wd_X0_without_aci e9 e8 b9 z91 z92 z93 z94 z95 (by decide) (by first | exact Nat.le_of_ble_eq_true rfl | (simp only [List.map, rf_cat]; exact Nat.le_of_ble_eq_true rfl)) ?_
  replace F := F _ rfl
  generalize va_up h_9 q_2 (some (xJ K N_13 (va_cpy f_12 f_14 (x2 + (nI 1)).toNatClampNeg x2.toNatClampNeg (n_10 - x2).toNatClampNeg))) = h_15 at F ⊢
  refine J_aload_n dX0_without_28 0 rfl ?_
  obtain ⟨k9, F⟩ := F
  exact J_aret (x := some q_2) dX0_without_29 rfl (Or.inr ⟨_, rfl⟩) k9.1 k9.2 F

abbrev mX0_withoutMember (l : Launch) (K : Kx) (mc ms : Nat) (As : List Value) (h : Hp) (Post : Rs → Hp → Prop) : Prop := MX l K yX0_withoutMember wsX0_withoutMember 2 84 mc ms As h Post
set_option maxRecDepth 100000 in
set_option maxHeartbeats 4000000 in
theorem fX0_withoutMember {l : Launch} {K : Kx} {mc ms : Nat} {a0 : Nat} {x1 : Int32} {h : Hp} {Post : Rs → Hp → Prop} (htr : l.stackTraces = false)
    (F : (0 + 1 ≤ mc ∧ 0 + 6 ≤ ms ∧ ∀ (q_1 : Nat) (h_2 : Hp), h q_1 = none → kB K ≤ q_1 → h_2 = va_up h q_1 (some (xO 0 [.int 0, .long 0, .int 0, .null, .null, .int 0])) → (∃ p_3, gf h_2 a0 0 3 = some (.ref p_3) ∧ (∃ c_5 w_6, (0 + 1) + c_5 ≤ mc ∧ (0 + 6) + w_6 ≤ ms ∧ mX0_without l K c_5 w_6 [.ref p_3, .int x1] h_2 (kQ (fun o_7 h_4 => (∃ p_8, gf h_4 a0 0 4 = some (.ref p_8) ∧ (∃ c_10 w_11, ((0 + 1) + c_5) + c_10 ≤ mc ∧ ((0 + 6) + w_6) + w_11 ≤ ms ∧ mX0_without l K c_10 w_11 [.ref p_8, .int x1] h_4 (kQ (fun o_12 h_9 => ((((0 + 1) + c_5) + c_10) + 0 ≤ mc ∧ (((0 + 6) + w_6) + w_11) + 0 ≤ ms ∧ mX0_init_ l K [.ref q_1, .ref a0, va_rf o_7, va_rf o_12, .int (nI 0)] h_9 (kV (fun h_13 => ((((((0 + 1) + c_5) + c_10) + 0) ≤ mc ∧ ((((0 + 6) + w_6) + w_11) + 0) ≤ ms) ∧ Post (.inl (some (.ref q_1))) h_13)))))))))))))) :
    mX0_withoutMember l K mc ms [.ref a0, .int x1] h Post := by
  refine MX.enter htr (by decide) rfl (Nat.le_of_ble_eq_true rfl) ?_
  refine J_lveq (lv' := [(0, .ref a0), (1, .int x1)]) rfl ?_
  obtain ⟨k9, w9, F⟩ := F
  refine J_new (ci := 0) (fs := [.int 0, .long 0, .int 0, .null, .null, .int 0]) dX0_withoutMember_0 rfl in_X0_withoutMember_0 tyX0 tyX0_ok wd_X0_withoutMember_k10 wd_X0_withoutMember_n0 wd_X0_withoutMember_i0 dfX0 k9 w9 (fun q_1 h9 i9 => ?_)
  replace F := F q_1 _ h9 i9 rfl
  generalize va_up h q_1 (some (xO 0 [.int 0, .long 0, .int 0, .null, .null, .int 0])) = h_2 at F ⊢
  refine J_dup dX0_withoutMember_3 (rfl) ?_
  refine J_aload_n dX0_withoutMember_4 0 rfl ?_
  refine J_aload_n dX0_withoutMember_5 0 rfl ?_
  obtain ⟨p_3, g9, F⟩ := F
  refine J_get (ci := 0) (k := 3) dX0_withoutMember_6 rfl in_X0_withoutMember_0 (by decide) lk_X0_withoutMember_26 g9 ?_
  refine J_iload_n dX0_withoutMember_9 1 rfl ?_
  obtain ⟨c_5, w_6, k9, w9, F⟩ := F
  refine J_callS0 (n := 2) (As := [.ref p_3, .int x1]) (rest := [.ref a0, .ref q_1, .ref q_1]) dX0_withoutMember_10 gX0_withoutMember_X0_without rfl (by decide +kernel) rfl (by decide) (Nat.le_of_ble_eq_true rfl) k9 w9 F kQ_no (kQ_kk (fun o_7 h_4 F => ?_))
  refine J_aload_n dX0_withoutMember_13 0 rfl ?_
  obtain ⟨p_8, g9, F⟩ := F
  refine J_get (ci := 0) (k := 4) dX0_withoutMember_14 rfl in_X0_withoutMember_0 (by decide) lk_X0_withoutMember_29 g9 ?_
  refine J_iload_n dX0_withoutMember_17 1 rfl ?_
  obtain ⟨c_10, w_11, k9, w9, F⟩ := F
  refine J_callS0 (n := 2) (As := [.ref p_8, .int x1]) (rest := [va_rf o_7, .ref a0, .ref q_1, .ref q_1]) dX0_withoutMember_18 gX0_withoutMember_X0_without rfl (by decide +kernel) rfl (by decide) (by simp only [List.map, rf_cat]; exact Nat.le_of_ble_eq_true rfl) k9 w9 F kQ_no (kQ_kk (fun o_12 h_9 F => ?_))
  refine J_iconst (v := nI 0) dX0_withoutMember_21 (by decide) ?_
  obtain ⟨k9, w9, F⟩ := F
  refine J_callI (n := 4) (As := [.ref a0, va_rf o_7, va_rf o_12, .int (nI 0)]) (rest := [.ref q_1]) dX0_withoutMember_22 gX0_withoutMember_X0_init_ rfl wd_X0_withoutMember_iRX0 wd_X0_withoutMember_ml39 wd_X0_withoutMember_im_X0_init_ rfl (by decide +kernel) rfl (by decide) (Nat.le_of_ble_eq_true rfl) k9 w9 F kV_no (kV_kk (fun h_13 F => ?_))
  obtain ⟨k9, F⟩ := F
  exact J_aret (x := some q_1) dX0_withoutMember_25 rfl (Or.inl ⟨_, rfl⟩) k9.1 k9.2 F

abbrev mX1_allFit (l : Launch) (K : Kx) (As : List Value) (h : Hp) (Post : Rs → Hp → Prop) : Prop := MX l K yX1_allFit wsX1_allFit 2 46 0 0 As h Post
set_option maxRecDepth 100000 in
set_option maxHeartbeats 4000000 in
theorem fX1_allFit {l : Launch} {K : Kx} {a0 : Nat} {x1 : Int32} {x2 : Int32} {x3 : Int32} {h : Hp} {Post : Rs → Hp → Prop} (htr : l.stackTraces = false)
    (F : (∀ X_3 : Int32 → Hp → Prop, (∀ (i_1 : Int32) (h_2 : Hp), ((∃ p_4, gf h_2 a0 1 0 = some (.ref p_4) ∧ (∃ n_5, alen K 3 h_2 p_4 = some n_5 ∧ ((n_5 ≤ i_1 → (Post (.inl (some (.int (nI 1)))) h_2)) ∧ (¬ n_5 ≤ i_1 → (∃ p_6, gf h_2 a0 1 0 = some (.ref p_6) ∧ (∃ o_7, aQ K 3 h_2 p_6 i_1 = some o_7 ∧ ((o_7 = none → X_3 (i_1 + nI 1) h_2) ∧ (∀ a_8, o_7 = some a_8 → (∃ p_9, gf h_2 a0 1 0 = some (.ref p_9) ∧ (∃ o_10, aQ K 3 h_2 p_9 i_1 = some o_10 ∧ (∃ a_11, o_10 = some a_11 ∧ (∃ v_12, gf h_2 a_11 0 0 = some (.int v_12) ∧ ((¬ v_12 = x1 → X_3 (i_1 + nI 1) h_2) ∧ (v_12 = x1 → (∃ p_13, gf h_2 a0 1 0 = some (.ref p_13) ∧ (∃ o_14, aQ K 3 h_2 p_13 i_1 = some o_14 ∧ (∃ a_15, o_14 = some a_15 ∧ ((∃ fs, h_2 a_15 = some (xO 0 fs)) ∧ mX0_allFit l K [.ref a_15, .int x2, .int x3] h_2 (kI (fun v_17 h_16 => ((¬ v_17 = nI 0 → X_3 (i_1 + nI 1) h_16) ∧ (v_17 = nI 0 → (Post (.inl (some (.int (nI 0)))) h_16)))))))))))))))))))))))) → X_3 i_1 h_2) → X_3 (nI 0) h)) :
    mX1_allFit l K [.ref a0, .int x1, .int x2, .int x3] h Post := by
  refine MX.enter htr (by decide) rfl (Nat.le_of_ble_eq_true rfl) ?_
  refine J_lveq (lv' := [(0, .ref a0), (1, .int x1), (2, .int x2), (3, .int x3)]) rfl ?_
  refine J_iconst (v := nI 0) dX1_allFit_0 (by decide) ?_
  refine J_istore (lv' := [(4, .int (nI 0)), (0, .ref a0), (1, .int x1), (2, .int x2), (3, .int x3)]) dX1_allFit_1 (by decide) rfl ?_
  refine J_sub [1, 2, 3, 4, 0] rfl ?_
  refine F (fun (i_1 : Int32) (h_2 : Hp) => J l K yX1_allFit.cls cX1_allFit 5 (some .boolean) wsX1_allFit [] yX1_allFit.name 2 46 0 0 (QM K 0 0 Post) 3 [] [(0, .ref a0), (1, .int x1), (2, .int x2), (3, .int x3), (4, .int i_1)] h_2 0 0) ?_
  intro i_1 h_2 F
  refine J_iload dX1_allFit_3 4 rfl ?_
  refine J_aload_n dX1_allFit_5 0 rfl ?_
  obtain ⟨p_4, g9, F⟩ := F
  refine J_get (ci := 1) (k := 0) dX1_allFit_6 rfl in_X1_allFit_1 (by decide) lk_X1_allFit_11 g9 ?_
  obtain ⟨n_5, g9, F⟩ := F
  refine J_alen (t := 3) dX1_allFit_9 rfl g9 ?_
  refine J_icmp_ge (tgt := 60) dX1_allFit_10 (by decide) (fun c => ?_) (fun c => ?_)
  · replace F := F.1 c
    refine J_iconst (v := nI 1) dX1_allFit_60 (by decide) ?_
    exact J_zret dX1_allFit_61 rfl (by decide) (Nat.le_refl _) (Nat.le_refl _) F
  · replace F := F.2 c
    refine J_aload_n dX1_allFit_13 0 rfl ?_
    obtain ⟨p_6, g9, F⟩ := F
    refine J_get (ci := 1) (k := 0) dX1_allFit_14 rfl in_X1_allFit_1 (by decide) lk_X1_allFit_11 g9 ?_
    refine J_iload dX1_allFit_17 4 rfl ?_
    obtain ⟨o_7, g9, F⟩ := F
    refine J_aald (t := 3) dX1_allFit_19 rfl g9 ?_
    refine J_ifnull (tgt := 54) dX1_allFit_20 (by decide) ?_ ?_
    · intro c
      replace F := F.1 c
      try rw [c]
      refine J_iinc (v := i_1 + nI 1) (lv' := [(4, .int (i_1 + nI 1)), (0, .ref a0), (1, .int x1), (2, .int x2), (3, .int x3)]) dX1_allFit_54 4 rfl rfl (by decide) rfl ?_
      refine J_goto (tgt := 3) dX1_allFit_57 (by decide) ?_
      exact J_sub [1, 2, 3, 4, 0] rfl F
    · intro a_8 c
      replace F := F.2 a_8 c
      try rw [c]
      refine J_aload_n dX1_allFit_23 0 rfl ?_
      obtain ⟨p_9, g9, F⟩ := F
      refine J_get (ci := 1) (k := 0) dX1_allFit_24 rfl in_X1_allFit_1 (by decide) lk_X1_allFit_11 g9 ?_
      refine J_iload dX1_allFit_27 4 rfl ?_
      obtain ⟨o_10, g9, F⟩ := F
      refine J_aald (t := 3) dX1_allFit_29 rfl g9 ?_
      obtain ⟨a_11, hq9, F⟩ := F
      rw [hq9]
      obtain ⟨v_12, g9, F⟩ := F
      refine J_get (ci := 0) (k := 0) dX1_allFit_30 rfl in_X1_allFit_0 (by decide) lk_X1_allFit_31 g9 ?_
      refine J_iload_n dX1_allFit_33 1 rfl ?_
      refine J_icmp_ne (tgt := 54) dX1_allFit_34 (by decide) (fun c => ?_) (fun c => ?_)
      · replace F := F.1 c
        refine J_iinc (v := i_1 + nI 1) (lv' := [(4, .int (i_1 + nI 1)), (0, .ref a0), (1, .int x1), (2, .int x2), (3, .int x3)]) dX1_allFit_54 4 rfl rfl (by decide) rfl ?_
        refine J_goto (tgt := 3) dX1_allFit_57 (by decide) ?_
        exact J_sub [1, 2, 3, 4, 0] rfl F
      · replace F := F.2 c
        refine J_aload_n dX1_allFit_37 0 rfl ?_
        obtain ⟨p_13, g9, F⟩ := F
        refine J_get (ci := 1) (k := 0) dX1_allFit_38 rfl in_X1_allFit_1 (by decide) lk_X1_allFit_11 g9 ?_
        refine J_iload dX1_allFit_41 4 rfl ?_
        obtain ⟨o_14, g9, F⟩ := F
        refine J_aald (t := 3) dX1_allFit_43 rfl g9 ?_
        refine J_iload_n dX1_allFit_44 2 rfl ?_
        refine J_iload_n dX1_allFit_45 3 rfl ?_
        obtain ⟨a_15, hq9, F⟩ := F
        rw [hq9]
        obtain ⟨b9, F⟩ := F
        refine J_callV0 (ci := 0) (n := 2) (As := [.int x2, .int x3]) (rest := []) dX1_allFit_46 rfl gX1_allFit_X0_allFit rfl (by decide +kernel) rfl (by decide) b9 (Nat.le_of_ble_eq_true rfl) (Nat.le_refl _) (Nat.le_refl _) F kI_no (kI_kk (fun v_17 h_16 F => ?_))
        refine J_if_ne (tgt := 54) dX1_allFit_49 (by decide) (fun c => ?_) (fun c => ?_)
        · replace F := F.1 c
          refine J_iinc (v := i_1 + nI 1) (lv' := [(4, .int (i_1 + nI 1)), (0, .ref a0), (1, .int x1), (2, .int x2), (3, .int x3)]) dX1_allFit_54 4 rfl rfl (by decide) rfl ?_
          refine J_goto (tgt := 3) dX1_allFit_57 (by decide) ?_
          exact J_sub [1, 2, 3, 4, 0] rfl F
        · replace F := F.2 c
          refine J_iconst (v := nI 0) dX1_allFit_52 (by decide) ?_
          exact J_zret dX1_allFit_53 rfl (by decide) (Nat.le_refl _) (Nat.le_refl _) F

abbrev mX1_init (l : Launch) (K : Kx) (mc ms : Nat) (As : List Value) (h : Hp) (Post : Rs → Hp → Prop) : Prop := MX l K yX1_init wsX1_init 1 60 mc ms As h Post
set_option maxRecDepth 100000 in
set_option maxHeartbeats 4000000 in
theorem fX1_init {l : Launch} {K : Kx} {mc ms : Nat} {a0 : Nat} {h : Hp} {Post : Rs → Hp → Prop} (htr : l.stackTraces = false)
    (F : (∃ N_3, nI 4 = nI N_3 ∧ N_3 ≤ 60000000 ∧ 0 + 1 ≤ mc ∧ 0 + N_3 ≤ ms ∧ ∀ (q_1 : Nat) (h_2 : Hp), h q_1 = none → kB K ≤ q_1 → h_2 = va_up h q_1 (some (xQ K 3 N_3 (fun _ => none))) → (∃ h_4, pf h_2 a0 1 0 (.ref q_1) = some h_4 ∧ (∃ h_5, pf h_4 a0 1 1 (.int (nI 0)) = some h_5 ∧ (((0 + 1) ≤ mc ∧ (0 + N_3) ≤ ms) ∧ Post (.inl none) h_5))))) :
    mX1_init l K mc ms [.ref a0] h Post := by
  refine MX.enter htr (by decide) rfl (Nat.le_of_ble_eq_true rfl) ?_
  refine J_lveq (lv' := [(0, .ref a0)]) rfl ?_
  refine J_aload_n dX1_init_0 0 rfl ?_
  refine J_objInit dX1_init_1 wd_X1_init_m3 wd_X1_init_oi wd_X1_init_oc (by decide) (Nat.le_of_ble_eq_true rfl) ?_
  refine J_aload_n dX1_init_4 0 rfl ?_
  refine J_iconst (v := nI 4) dX1_init_5 (by decide) ?_
  obtain ⟨N_3, e9, b9, k9, w9, F⟩ := F
  refine J_anew (t := 3) (N' := N_3) dX1_init_6 wd_X1_init_k9 rfl (fun U k9 => k9.2.2.2.2.2.2.2.2.2.1) e9 b9 k9 w9 (fun q_1 h9 i9 => ?_)
  replace F := F q_1 _ h9 i9 rfl
  generalize va_up h q_1 (some (xQ K 3 N_3 (fun _ => none))) = h_2 at F ⊢
  obtain ⟨h_4, g9, F⟩ := F
  refine J_put (ci := 1) (k := 0) dX1_init_9 rfl in_X1_init_1 tyX1 tyX1_ok nmX1 (by decide) lk_X1_init_11 rfl rfl rfl rfl g9 ?_
  refine J_aload_n dX1_init_12 0 rfl ?_
  refine J_iconst (v := nI 0) dX1_init_13 (by decide) ?_
  obtain ⟨h_5, g9, F⟩ := F
  refine J_put (ci := 1) (k := 1) dX1_init_14 rfl in_X1_init_1 tyX1 tyX1_ok nmX1 (by decide) lk_X1_init_17 rfl rfl rfl rfl g9 ?_
  obtain ⟨k9, F⟩ := F
  exact J_vret dX1_init_17 rfl k9.1 k9.2 F

abbrev mX1_copied (l : Launch) (K : Kx) (mc ms : Nat) (As : List Value) (h : Hp) (Post : Rs → Hp → Prop) : Prop := MX l K yX1_copied wsX1_copied 2 80 mc ms As h Post
set_option maxRecDepth 100000 in
set_option maxHeartbeats 4000000 in
theorem fX1_copied {l : Launch} {K : Kx} {mc ms : Nat} {a0 : Nat} {h : Hp} {Post : Rs → Hp → Prop} (htr : l.stackTraces = false)
    (F : (0 + 1 ≤ mc ∧ 0 + 2 ≤ ms ∧ ∀ (q_1 : Nat) (h_2 : Hp), h q_1 = none → kB K ≤ q_1 → h_2 = va_up h q_1 (some (xO 1 [.null, .int 0])) → (∃ c_4 w_5, (0 + 1) + c_4 ≤ mc ∧ (0 + 2) + w_5 ≤ ms ∧ mX1_init l K c_4 w_5 [.ref q_1] h_2 (kV (fun h_3 => (∃ p_6, gf h_3 a0 1 0 = some (.ref p_6) ∧ (∃ N_7 f_8, h_3 p_6 = some (xQ K 3 N_7 f_8) ∧ ((0 + 1) + c_4) + 1 ≤ mc ∧ ((0 + 2) + w_5) + N_7 ≤ ms ∧ ∀ (q_9 : Nat) (h_10 : Hp), h_3 q_9 = none → kB K ≤ q_9 → h_10 = va_up h_3 q_9 (some (xQ K 3 N_7 f_8)) → (∃ N_11 f_12, h_10 q_9 = some (xQ K 3 N_11 f_12) ∧ (∃ h_13, pf h_10 q_1 1 0 (.ref q_9) = some h_13 ∧ (((((0 + 1) + c_4) + 1) ≤ mc ∧ (((0 + 2) + w_5) + N_7) ≤ ms) ∧ Post (.inl (some (.ref q_1))) h_13)))))))))) :
    mX1_copied l K mc ms [.ref a0] h Post := by
  refine MX.enter htr (by decide) rfl (Nat.le_of_ble_eq_true rfl) ?_
  refine J_lveq (lv' := [(0, .ref a0)]) rfl ?_
  obtain ⟨k9, w9, F⟩ := F
  refine J_new (ci := 1) (fs := [.null, .int 0]) dX1_copied_0 rfl in_X1_copied_1 tyX1 tyX1_ok wd_X1_copied_k12 wd_X1_copied_n1 wd_X1_copied_i1 dfX1 k9 w9 (fun q_1 h9 i9 => ?_)
  replace F := F q_1 _ h9 i9 rfl
  generalize va_up h q_1 (some (xO 1 [.null, .int 0])) = h_2 at F ⊢
  refine J_dup dX1_copied_3 (rfl) ?_
  obtain ⟨c_4, w_5, k9, w9, F⟩ := F
  refine J_callI (n := 0) (As := []) (rest := [.ref q_1]) dX1_copied_4 gX1_copied_X1_init rfl wd_X1_copied_iRX1 wd_X1_copied_ml21 wd_X1_copied_im_X1_init rfl (by decide +kernel) rfl (by decide) (Nat.le_of_ble_eq_true rfl) k9 w9 F kV_no (kV_kk (fun h_3 F => ?_))
  refine J_astore_n (lv' := [(1, .ref q_1), (0, .ref a0)]) dX1_copied_7 rfl (by decide) rfl ?_
  refine J_aload_n dX1_copied_8 0 rfl ?_
  refine J_aload_n dX1_copied_9 1 rfl ?_
  obtain ⟨p_6, g9, F⟩ := F
  refine J_get (ci := 1) (k := 0) dX1_copied_10 rfl in_X1_copied_1 (by decide) lk_X1_copied_11 g9 ?_
  obtain ⟨N_7, f_8, e9, k9, w9, F⟩ := F
  refine J_clone dX1_copied_13 rfl wd_X1_copied_cl1 wd_X1_copied_cl2 wd_X1_copied_cl3 wd_X1_copied_cl4 wd_X1_copied_cl5 e9 (by decide) (Nat.le_of_ble_eq_true rfl) k9 w9 (fun q_9 h9 i9 => ?_)
  replace F := F q_9 _ h9 i9 rfl
  generalize va_up h_3 q_9 (some (xQ K 3 N_7 f_8)) = h_10 at F ⊢
  obtain ⟨N_11, f_12, e9, F⟩ := F
  refine J_castA dX1_copied_16 rfl wd_X1_copied_k23 e9 ?_
  obtain ⟨h_13, g9, F⟩ := F
  refine J_put (ci := 1) (k := 0) dX1_copied_19 rfl in_X1_copied_1 tyX1 tyX1_ok nmX1 (by decide) lk_X1_copied_11 rfl rfl rfl rfl g9 ?_
  refine J_aload_n dX1_copied_22 0 rfl ?_
  obtain ⟨k9, F⟩ := F
  exact J_aret (x := some q_1) dX1_copied_23 rfl (Or.inl ⟨_, rfl⟩) k9.1 k9.2 F

abbrev mX1_countEntries (l : Launch) (K : Kx) (As : List Value) (h : Hp) (Post : Rs → Hp → Prop) : Prop := MX l K yX1_countEntries wsX1_countEntries 0 0 0 0 As h Post
set_option maxRecDepth 100000 in
set_option maxHeartbeats 4000000 in
theorem fX1_countEntries {l : Launch} {K : Kx} {a0 : Nat} {h : Hp} {Post : Rs → Hp → Prop} (htr : l.stackTraces = false)
    (F : (∀ X_3 : Int32 → Int32 → Prop, (∀ (i_1 : Int32) (i_2 : Int32), ((∃ p_4, gf h a0 1 0 = some (.ref p_4) ∧ (∃ n_5, alen K 3 h p_4 = some n_5 ∧ ((n_5 ≤ i_2 → (Post (.inl (some (.int i_1))) h)) ∧ (¬ n_5 ≤ i_2 → (∃ p_6, gf h a0 1 0 = some (.ref p_6) ∧ (∃ o_7, aQ K 3 h p_6 i_2 = some o_7 ∧ ((o_7 = none → X_3 i_1 (i_2 + nI 1)) ∧ (∀ a_8, o_7 = some a_8 → X_3 (i_1 + nI 1) (i_2 + nI 1)))))))))) → X_3 i_1 i_2) → X_3 (nI 0) (nI 0))) :
    mX1_countEntries l K [.ref a0] h Post := by
  refine MX.enter htr (by decide) rfl (Nat.le_of_ble_eq_true rfl) ?_
  refine J_lveq (lv' := [(0, .ref a0)]) rfl ?_
  refine J_iconst (v := nI 0) dX1_countEntries_0 (by decide) ?_
  refine J_istore_n (lv' := [(1, .int (nI 0)), (0, .ref a0)]) dX1_countEntries_1 rfl (by decide) rfl ?_
  refine J_iconst (v := nI 0) dX1_countEntries_2 (by decide) ?_
  refine J_istore_n (lv' := [(2, .int (nI 0)), (1, .int (nI 0)), (0, .ref a0)]) dX1_countEntries_3 rfl (by decide) rfl ?_
  refine J_sub [2, 1, 0] rfl ?_
  refine F (fun (i_1 : Int32) (i_2 : Int32) => J l K yX1_countEntries.cls cX1_countEntries 3 (some .int) wsX1_countEntries [] yX1_countEntries.name 0 0 0 0 (QM K 0 0 Post) 4 [] [(0, .ref a0), (1, .int i_1), (2, .int i_2)] h 0 0) ?_
  intro i_1 i_2 F
  refine J_iload_n dX1_countEntries_4 2 rfl ?_
  refine J_aload_n dX1_countEntries_5 0 rfl ?_
  obtain ⟨p_4, g9, F⟩ := F
  refine J_get (ci := 1) (k := 0) dX1_countEntries_6 rfl in_X1_countEntries_1 (by decide) lk_X1_countEntries_11 g9 ?_
  obtain ⟨n_5, g9, F⟩ := F
  refine J_alen (t := 3) dX1_countEntries_9 rfl g9 ?_
  refine J_icmp_ge (tgt := 31) dX1_countEntries_10 (by decide) (fun c => ?_) (fun c => ?_)
  · replace F := F.1 c
    refine J_iload_n dX1_countEntries_31 1 rfl ?_
    exact J_iret dX1_countEntries_32 rfl (Nat.le_refl _) (Nat.le_refl _) F
  · replace F := F.2 c
    refine J_aload_n dX1_countEntries_13 0 rfl ?_
    obtain ⟨p_6, g9, F⟩ := F
    refine J_get (ci := 1) (k := 0) dX1_countEntries_14 rfl in_X1_countEntries_1 (by decide) lk_X1_countEntries_11 g9 ?_
    refine J_iload_n dX1_countEntries_17 2 rfl ?_
    obtain ⟨o_7, g9, F⟩ := F
    refine J_aald (t := 3) dX1_countEntries_18 rfl g9 ?_
    refine J_ifnull (tgt := 25) dX1_countEntries_19 (by decide) ?_ ?_
    · intro c
      replace F := F.1 c
      try rw [c]
      refine J_iinc (v := i_2 + nI 1) (lv' := [(2, .int (i_2 + nI 1)), (0, .ref a0), (1, .int i_1)]) dX1_countEntries_25 2 rfl rfl (by decide) rfl ?_
      refine J_goto (tgt := 4) dX1_countEntries_28 (by decide) ?_
      exact J_sub [1, 2, 0] rfl F
    · intro a_8 c
      replace F := F.2 a_8 c
      try rw [c]
      refine J_iinc (v := i_1 + nI 1) (lv' := [(1, .int (i_1 + nI 1)), (0, .ref a0), (2, .int i_2)]) dX1_countEntries_22 1 rfl rfl (by decide) rfl ?_
      refine J_iinc (v := i_2 + nI 1) (lv' := [(2, .int (i_2 + nI 1)), (1, .int (i_1 + nI 1)), (0, .ref a0)]) dX1_countEntries_25 2 rfl rfl (by decide) rfl ?_
      refine J_goto (tgt := 4) dX1_countEntries_28 (by decide) ?_
      exact J_sub [2, 1, 0] rfl F

abbrev mX1_countEntriesOf (l : Launch) (K : Kx) (As : List Value) (h : Hp) (Post : Rs → Hp → Prop) : Prop := MX l K yX1_countEntriesOf wsX1_countEntriesOf 0 0 0 0 As h Post
set_option maxRecDepth 100000 in
set_option maxHeartbeats 4000000 in
theorem fX1_countEntriesOf {l : Launch} {K : Kx} {a0 : Nat} {x1 : Int32} {h : Hp} {Post : Rs → Hp → Prop} (htr : l.stackTraces = false)
    (F : (∀ X_3 : Int32 → Int32 → Prop, (∀ (i_1 : Int32) (i_2 : Int32), ((∃ p_4, gf h a0 1 0 = some (.ref p_4) ∧ (∃ n_5, alen K 3 h p_4 = some n_5 ∧ ((n_5 ≤ i_2 → (Post (.inl (some (.int i_1))) h)) ∧ (¬ n_5 ≤ i_2 → (∃ p_6, gf h a0 1 0 = some (.ref p_6) ∧ (∃ o_7, aQ K 3 h p_6 i_2 = some o_7 ∧ ((o_7 = none → X_3 i_1 (i_2 + nI 1)) ∧ (∀ a_8, o_7 = some a_8 → (∃ p_9, gf h a0 1 0 = some (.ref p_9) ∧ (∃ o_10, aQ K 3 h p_9 i_2 = some o_10 ∧ (∃ a_11, o_10 = some a_11 ∧ (∃ v_12, gf h a_11 0 0 = some (.int v_12) ∧ ((¬ v_12 = x1 → X_3 i_1 (i_2 + nI 1)) ∧ (v_12 = x1 → X_3 (i_1 + nI 1) (i_2 + nI 1)))))))))))))))) → X_3 i_1 i_2) → X_3 (nI 0) (nI 0))) :
    mX1_countEntriesOf l K [.ref a0, .int x1] h Post := by
  refine MX.enter htr (by decide) rfl (Nat.le_of_ble_eq_true rfl) ?_
  refine J_lveq (lv' := [(0, .ref a0), (1, .int x1)]) rfl ?_
  refine J_iconst (v := nI 0) dX1_countEntriesOf_0 (by decide) ?_
  refine J_istore_n (lv' := [(2, .int (nI 0)), (0, .ref a0), (1, .int x1)]) dX1_countEntriesOf_1 rfl (by decide) rfl ?_
  refine J_iconst (v := nI 0) dX1_countEntriesOf_2 (by decide) ?_
  refine J_istore_n (lv' := [(3, .int (nI 0)), (2, .int (nI 0)), (0, .ref a0), (1, .int x1)]) dX1_countEntriesOf_3 rfl (by decide) rfl ?_
  refine J_sub [2, 3, 1, 0] rfl ?_
  refine F (fun (i_1 : Int32) (i_2 : Int32) => J l K yX1_countEntriesOf.cls cX1_countEntriesOf 4 (some .int) wsX1_countEntriesOf [] yX1_countEntriesOf.name 0 0 0 0 (QM K 0 0 Post) 4 [] [(0, .ref a0), (1, .int x1), (2, .int i_1), (3, .int i_2)] h 0 0) ?_
  intro i_1 i_2 F
  refine J_iload_n dX1_countEntriesOf_4 3 rfl ?_
  refine J_aload_n dX1_countEntriesOf_5 0 rfl ?_
  obtain ⟨p_4, g9, F⟩ := F
  refine J_get (ci := 1) (k := 0) dX1_countEntriesOf_6 rfl in_X1_countEntriesOf_1 (by decide) lk_X1_countEntriesOf_11 g9 ?_
  obtain ⟨n_5, g9, F⟩ := F
  refine J_alen (t := 3) dX1_countEntriesOf_9 rfl g9 ?_
  refine J_icmp_ge (tgt := 44) dX1_countEntriesOf_10 (by decide) (fun c => ?_) (fun c => ?_)
  · replace F := F.1 c
    refine J_iload_n dX1_countEntriesOf_44 2 rfl ?_
    exact J_iret dX1_countEntriesOf_45 rfl (Nat.le_refl _) (Nat.le_refl _) F
  · replace F := F.2 c
    refine J_aload_n dX1_countEntriesOf_13 0 rfl ?_
    obtain ⟨p_6, g9, F⟩ := F
    refine J_get (ci := 1) (k := 0) dX1_countEntriesOf_14 rfl in_X1_countEntriesOf_1 (by decide) lk_X1_countEntriesOf_11 g9 ?_
    refine J_iload_n dX1_countEntriesOf_17 3 rfl ?_
    obtain ⟨o_7, g9, F⟩ := F
    refine J_aald (t := 3) dX1_countEntriesOf_18 rfl g9 ?_
    refine J_ifnull (tgt := 38) dX1_countEntriesOf_19 (by decide) ?_ ?_
    · intro c
      replace F := F.1 c
      try rw [c]
      refine J_iinc (v := i_2 + nI 1) (lv' := [(3, .int (i_2 + nI 1)), (0, .ref a0), (1, .int x1), (2, .int i_1)]) dX1_countEntriesOf_38 3 rfl rfl (by decide) rfl ?_
      refine J_goto (tgt := 4) dX1_countEntriesOf_41 (by decide) ?_
      exact J_sub [1, 2, 3, 0] rfl F
    · intro a_8 c
      replace F := F.2 a_8 c
      try rw [c]
      refine J_aload_n dX1_countEntriesOf_22 0 rfl ?_
      obtain ⟨p_9, g9, F⟩ := F
      refine J_get (ci := 1) (k := 0) dX1_countEntriesOf_23 rfl in_X1_countEntriesOf_1 (by decide) lk_X1_countEntriesOf_11 g9 ?_
      refine J_iload_n dX1_countEntriesOf_26 3 rfl ?_
      obtain ⟨o_10, g9, F⟩ := F
      refine J_aald (t := 3) dX1_countEntriesOf_27 rfl g9 ?_
      obtain ⟨a_11, hq9, F⟩ := F
      rw [hq9]
      obtain ⟨v_12, g9, F⟩ := F
      refine J_get (ci := 0) (k := 0) dX1_countEntriesOf_28 rfl in_X1_countEntriesOf_0 (by decide) lk_X1_countEntriesOf_31 g9 ?_
      refine J_iload_n dX1_countEntriesOf_31 1 rfl ?_
      refine J_icmp_ne (tgt := 38) dX1_countEntriesOf_32 (by decide) (fun c => ?_) (fun c => ?_)
      · replace F := F.1 c
        refine J_iinc (v := i_2 + nI 1) (lv' := [(3, .int (i_2 + nI 1)), (0, .ref a0), (1, .int x1), (2, .int i_1)]) dX1_countEntriesOf_38 3 rfl rfl (by decide) rfl ?_
        refine J_goto (tgt := 4) dX1_countEntriesOf_41 (by decide) ?_
        exact J_sub [1, 2, 3, 0] rfl F
      · replace F := F.2 c
        refine J_iinc (v := i_1 + nI 1) (lv' := [(2, .int (i_1 + nI 1)), (0, .ref a0), (1, .int x1), (3, .int i_2)]) dX1_countEntriesOf_35 2 rfl rfl (by decide) rfl ?_
        refine J_iinc (v := i_2 + nI 1) (lv' := [(3, .int (i_2 + nI 1)), (2, .int (i_1 + nI 1)), (0, .ref a0), (1, .int x1)]) dX1_countEntriesOf_38 3 rfl rfl (by decide) rfl ?_
        refine J_goto (tgt := 4) dX1_countEntriesOf_41 (by decide) ?_
        exact J_sub [2, 3, 1, 0] rfl F

abbrev mX1_countNumbers (l : Launch) (K : Kx) (As : List Value) (h : Hp) (Post : Rs → Hp → Prop) : Prop := MX l K yX1_countNumbers wsX1_countNumbers 0 0 0 0 As h Post
set_option maxRecDepth 100000 in
set_option maxHeartbeats 4000000 in
theorem fX1_countNumbers {l : Launch} {K : Kx} {a0 : Nat} {h : Hp} {Post : Rs → Hp → Prop} (htr : l.stackTraces = false)
    (F : (∀ X_3 : Int32 → Int32 → Prop, (∀ (i_1 : Int32) (i_2 : Int32), ((∃ p_4, gf h a0 1 0 = some (.ref p_4) ∧ (∃ n_5, alen K 3 h p_4 = some n_5 ∧ ((n_5 ≤ i_2 → (Post (.inl (some (.int i_1))) h)) ∧ (¬ n_5 ≤ i_2 → (∃ p_6, gf h a0 1 0 = some (.ref p_6) ∧ (∃ o_7, aQ K 3 h p_6 i_2 = some o_7 ∧ ((o_7 = none → X_3 i_1 (i_2 + nI 1)) ∧ (∀ a_8, o_7 = some a_8 → (∃ p_9, gf h a0 1 0 = some (.ref p_9) ∧ (∃ o_10, aQ K 3 h p_9 i_2 = some o_10 ∧ (∃ a_11, o_10 = some a_11 ∧ (∃ p_12, gf h a_11 0 3 = some (.ref p_12) ∧ (∃ n_13, alen K 1 h p_12 = some n_13 ∧ X_3 (i_1 + n_13) (i_2 + nI 1))))))))))))))) → X_3 i_1 i_2) → X_3 (nI 0) (nI 0))) :
    mX1_countNumbers l K [.ref a0] h Post := by
  refine MX.enter htr (by decide) rfl (Nat.le_of_ble_eq_true rfl) ?_
  refine J_lveq (lv' := [(0, .ref a0)]) rfl ?_
  refine J_iconst (v := nI 0) dX1_countNumbers_0 (by decide) ?_
  refine J_istore_n (lv' := [(1, .int (nI 0)), (0, .ref a0)]) dX1_countNumbers_1 rfl (by decide) rfl ?_
  refine J_iconst (v := nI 0) dX1_countNumbers_2 (by decide) ?_
  refine J_istore_n (lv' := [(2, .int (nI 0)), (1, .int (nI 0)), (0, .ref a0)]) dX1_countNumbers_3 rfl (by decide) rfl ?_
  refine J_sub [2, 1, 0] rfl ?_
  refine F (fun (i_1 : Int32) (i_2 : Int32) => J l K yX1_countNumbers.cls cX1_countNumbers 3 (some .int) wsX1_countNumbers [] yX1_countNumbers.name 0 0 0 0 (QM K 0 0 Post) 4 [] [(0, .ref a0), (1, .int i_1), (2, .int i_2)] h 0 0) ?_
  intro i_1 i_2 F
  refine J_iload_n dX1_countNumbers_4 2 rfl ?_
  refine J_aload_n dX1_countNumbers_5 0 rfl ?_
  obtain ⟨p_4, g9, F⟩ := F
  refine J_get (ci := 1) (k := 0) dX1_countNumbers_6 rfl in_X1_countNumbers_1 (by decide) lk_X1_countNumbers_11 g9 ?_
  obtain ⟨n_5, g9, F⟩ := F
  refine J_alen (t := 3) dX1_countNumbers_9 rfl g9 ?_
  refine J_icmp_ge (tgt := 41) dX1_countNumbers_10 (by decide) (fun c => ?_) (fun c => ?_)
  · replace F := F.1 c
    refine J_iload_n dX1_countNumbers_41 1 rfl ?_
    exact J_iret dX1_countNumbers_42 rfl (Nat.le_refl _) (Nat.le_refl _) F
  · replace F := F.2 c
    refine J_aload_n dX1_countNumbers_13 0 rfl ?_
    obtain ⟨p_6, g9, F⟩ := F
    refine J_get (ci := 1) (k := 0) dX1_countNumbers_14 rfl in_X1_countNumbers_1 (by decide) lk_X1_countNumbers_11 g9 ?_
    refine J_iload_n dX1_countNumbers_17 2 rfl ?_
    obtain ⟨o_7, g9, F⟩ := F
    refine J_aald (t := 3) dX1_countNumbers_18 rfl g9 ?_
    refine J_ifnull (tgt := 35) dX1_countNumbers_19 (by decide) ?_ ?_
    · intro c
      replace F := F.1 c
      try rw [c]
      refine J_iinc (v := i_2 + nI 1) (lv' := [(2, .int (i_2 + nI 1)), (0, .ref a0), (1, .int i_1)]) dX1_countNumbers_35 2 rfl rfl (by decide) rfl ?_
      refine J_goto (tgt := 4) dX1_countNumbers_38 (by decide) ?_
      exact J_sub [1, 2, 0] rfl F
    · intro a_8 c
      replace F := F.2 a_8 c
      try rw [c]
      refine J_iload_n dX1_countNumbers_22 1 rfl ?_
      refine J_aload_n dX1_countNumbers_23 0 rfl ?_
      obtain ⟨p_9, g9, F⟩ := F
      refine J_get (ci := 1) (k := 0) dX1_countNumbers_24 rfl in_X1_countNumbers_1 (by decide) lk_X1_countNumbers_11 g9 ?_
      refine J_iload_n dX1_countNumbers_27 2 rfl ?_
      obtain ⟨o_10, g9, F⟩ := F
      refine J_aald (t := 3) dX1_countNumbers_28 rfl g9 ?_
      obtain ⟨a_11, hq9, F⟩ := F
      rw [hq9]
      obtain ⟨p_12, g9, F⟩ := F
      refine J_get (ci := 0) (k := 3) dX1_countNumbers_29 rfl in_X1_countNumbers_0 (by decide) lk_X1_countNumbers_71 g9 ?_
      obtain ⟨n_13, g9, F⟩ := F
      refine J_alen (t := 1) dX1_countNumbers_32 rfl g9 ?_
      refine J_iadd dX1_countNumbers_33 ?_
      refine J_istore_n (lv' := [(1, .int (i_1 + n_13)), (0, .ref a0), (2, .int i_2)]) dX1_countNumbers_34 rfl (by decide) rfl ?_
      refine J_iinc (v := i_2 + nI 1) (lv' := [(2, .int (i_2 + nI 1)), (1, .int (i_1 + n_13)), (0, .ref a0)]) dX1_countNumbers_35 2 rfl rfl (by decide) rfl ?_
      refine J_goto (tgt := 4) dX1_countNumbers_38 (by decide) ?_
      exact J_sub [2, 1, 0] rfl F

abbrev mX1_freeRow (l : Launch) (K : Kx) (mc ms : Nat) (As : List Value) (h : Hp) (Post : Rs → Hp → Prop) : Prop := MX l K yX1_freeRow wsX1_freeRow 0 0 mc ms As h Post
set_option maxRecDepth 100000 in
set_option maxHeartbeats 4000000 in
theorem fX1_freeRow {l : Launch} {K : Kx} {mc ms : Nat} {a0 : Nat} {h : Hp} {Post : Rs → Hp → Prop} (htr : l.stackTraces = false)
    (F : (∀ X_2 : Int32 → Prop, (∀ (i_1 : Int32), ((∃ p_3, gf h a0 1 0 = some (.ref p_3) ∧ (∃ n_4, alen K 3 h p_3 = some n_4 ∧ ((n_4 ≤ i_1 → (∃ p_5, gf h a0 1 0 = some (.ref p_5) ∧ (∃ n_6, alen K 3 h p_5 = some n_6 ∧ (∃ N_9, n_6 * (nI 2) = nI N_9 ∧ N_9 ≤ 60000000 ∧ 0 + 1 ≤ mc ∧ 0 + N_9 ≤ ms ∧ ∀ (q_7 : Nat) (h_8 : Hp), h q_7 = none → kB K ≤ q_7 → h_8 = va_up h q_7 (some (xQ K 3 N_9 (fun _ => none))) → (∀ X_14 : Int32 → Hp → Nat → Nat → Prop, (∀ (i_10 : Int32) (h_11 : Hp) (kc_12 : Nat) (ks_13 : Nat), (((n_6 ≤ i_10 → (∃ h_15, pf h_11 a0 1 0 (.ref q_7) = some h_15 ∧ ((kc_12 ≤ mc ∧ ks_13 ≤ ms) ∧ Post (.inl (some (.int n_6))) h_15))) ∧ (¬ n_6 ≤ i_10 → (∃ p_16, gf h_11 a0 1 0 = some (.ref p_16) ∧ (∃ o_17, aQ K 3 h_11 p_16 i_10 = some o_17 ∧ ((∀ v9, o_17 = some v9 → ∃ fs, h_11 v9 = some (xO 0 fs)) ∧ ∃ h_18, wQ K 3 h_11 q_7 i_10 o_17 = some h_18 ∧ X_14 (i_10 + nI 1) h_18 kc_12 ks_13)))))) → X_14 i_10 h_11 kc_12 ks_13) → X_14 (nI 0) h_8 (0 + 1) (0 + N_9)))))) ∧ (¬ n_4 ≤ i_1 → (∃ p_19, gf h a0 1 0 = some (.ref p_19) ∧ (∃ o_20, aQ K 3 h p_19 i_1 = some o_20 ∧ ((o_20 = none → ((0 ≤ mc ∧ 0 ≤ ms) ∧ Post (.inl (some (.int i_1))) h)) ∧ (∀ a_21, o_20 = some a_21 → X_2 (i_1 + nI 1)))))))))) → X_2 i_1) → X_2 (nI 0))) :
    mX1_freeRow l K mc ms [.ref a0] h Post := by
  refine MX.enter htr (by decide) rfl (Nat.le_of_ble_eq_true rfl) ?_
  refine J_lveq (lv' := [(0, .ref a0)]) rfl ?_
  refine J_iconst (v := nI 0) dX1_freeRow_0 (by decide) ?_
  refine J_istore_n (lv' := [(1, .int (nI 0)), (0, .ref a0)]) dX1_freeRow_1 rfl (by decide) rfl ?_
  refine J_sub [1, 0] rfl ?_
  refine F (fun (i_1 : Int32) => J l K yX1_freeRow.cls cX1_freeRow 4 (some .int) wsX1_freeRow [] yX1_freeRow.name 0 0 mc ms (QM K mc ms Post) 2 [] [(0, .ref a0), (1, .int i_1)] h 0 0) ?_
  intro i_1 F
  refine J_iload_n dX1_freeRow_2 1 rfl ?_
  refine J_aload_n dX1_freeRow_3 0 rfl ?_
  obtain ⟨p_3, g9, F⟩ := F
  refine J_get (ci := 1) (k := 0) dX1_freeRow_4 rfl in_X1_freeRow_1 (by decide) lk_X1_freeRow_11 g9 ?_
  obtain ⟨n_4, g9, F⟩ := F
  refine J_alen (t := 3) dX1_freeRow_7 rfl g9 ?_
  refine J_icmp_ge (tgt := 28) dX1_freeRow_8 (by decide) (fun c => ?_) (fun c => ?_)
  · replace F := F.1 c
    refine J_aload_n dX1_freeRow_28 0 rfl ?_
    obtain ⟨p_5, g9, F⟩ := F
    refine J_get (ci := 1) (k := 0) dX1_freeRow_29 rfl in_X1_freeRow_1 (by decide) lk_X1_freeRow_11 g9 ?_
    obtain ⟨n_6, g9, F⟩ := F
    refine J_alen (t := 3) dX1_freeRow_32 rfl g9 ?_
    refine J_istore_n (lv' := [(1, .int n_6), (0, .ref a0)]) dX1_freeRow_33 rfl (by decide) rfl ?_
    refine J_iload_n dX1_freeRow_34 0 rfl ?_
    refine J_iconst (v := nI 2) dX1_freeRow_35 (by decide) ?_
    refine J_imul dX1_freeRow_36 ?_
    obtain ⟨N_9, e9, b9, k9, w9, F⟩ := F
    refine J_anew (t := 3) (N' := N_9) dX1_freeRow_37 wd_X1_freeRow_k9 rfl (fun U k9 => k9.2.2.2.2.2.2.2.2.2.1) e9 b9 k9 w9 (fun q_7 h9 i9 => ?_)
    replace F := F q_7 _ h9 i9 rfl
    generalize va_up h q_7 (some (xQ K 3 N_9 (fun _ => none))) = h_8 at F ⊢
    refine J_astore_n (lv' := [(2, .ref q_7), (1, .int n_6), (0, .ref a0)]) dX1_freeRow_40 rfl (by decide) rfl ?_
    refine J_iconst (v := nI 0) dX1_freeRow_41 (by decide) ?_
    refine J_istore_n (lv' := [(3, .int (nI 0)), (2, .ref q_7), (1, .int n_6), (0, .ref a0)]) dX1_freeRow_42 rfl (by decide) rfl ?_
    refine J_sub [3, 2, 1, 0] rfl ?_
    refine F (fun (i_10 : Int32) (h_11 : Hp) (kc_12 : Nat) (ks_13 : Nat) => J l K yX1_freeRow.cls cX1_freeRow 4 (some .int) wsX1_freeRow [] yX1_freeRow.name 0 0 mc ms (QM K mc ms Post) 43 [] [(0, .ref a0), (1, .int n_6), (2, .ref q_7), (3, .int i_10)] h_11 kc_12 ks_13) ?_
    intro i_10 h_11 kc_12 ks_13 F
    refine J_iload_n dX1_freeRow_43 3 rfl ?_
    refine J_iload_n dX1_freeRow_44 1 rfl ?_
    refine J_icmp_ge (tgt := 63) dX1_freeRow_45 (by decide) (fun c => ?_) (fun c => ?_)
    · replace F := F.1 c
      refine J_aload_n dX1_freeRow_63 0 rfl ?_
      refine J_aload_n dX1_freeRow_64 2 rfl ?_
      obtain ⟨h_15, g9, F⟩ := F
      refine J_put (ci := 1) (k := 0) dX1_freeRow_65 rfl in_X1_freeRow_1 tyX1 tyX1_ok nmX1 (by decide) lk_X1_freeRow_11 rfl rfl rfl rfl g9 ?_
      refine J_iload_n dX1_freeRow_68 1 rfl ?_
      obtain ⟨k9, F⟩ := F
      exact J_iret dX1_freeRow_69 rfl k9.1 k9.2 F
    · replace F := F.2 c
      refine J_aload_n dX1_freeRow_48 2 rfl ?_
      refine J_iload_n dX1_freeRow_49 3 rfl ?_
      refine J_aload_n dX1_freeRow_50 0 rfl ?_
      obtain ⟨p_16, g9, F⟩ := F
      refine J_get (ci := 1) (k := 0) dX1_freeRow_51 rfl in_X1_freeRow_1 (by decide) lk_X1_freeRow_11 g9 ?_
      refine J_iload_n dX1_freeRow_54 3 rfl ?_
      obtain ⟨o_17, g9, F⟩ := F
      refine J_aald (t := 3) dX1_freeRow_55 rfl g9 ?_
      obtain ⟨z9, F⟩ := F
      obtain ⟨h_18, g9, F⟩ := F
      refine J_aastq (t := 3) (ci := 0) dX1_freeRow_56 rfl rfl z9 g9 ?_
      refine J_iinc (v := i_10 + nI 1) (lv' := [(3, .int (i_10 + nI 1)), (0, .ref a0), (1, .int n_6), (2, .ref q_7)]) dX1_freeRow_57 3 rfl rfl (by decide) rfl ?_
      refine J_goto (tgt := 43) dX1_freeRow_60 (by decide) ?_
      exact J_sub [1, 2, 3, 0] rfl F
  · replace F := F.2 c
    refine J_aload_n dX1_freeRow_11 0 rfl ?_
    obtain ⟨p_19, g9, F⟩ := F
    refine J_get (ci := 1) (k := 0) dX1_freeRow_12 rfl in_X1_freeRow_1 (by decide) lk_X1_freeRow_11 g9 ?_
    refine J_iload_n dX1_freeRow_15 1 rfl ?_
    obtain ⟨o_20, g9, F⟩ := F
    refine J_aald (t := 3) dX1_freeRow_16 rfl g9 ?_
    refine J_ifnonnull (tgt := 22) dX1_freeRow_17 (by decide) ?_ ?_
    · intro a_21 c
      replace F := F.2 a_21 c
      try rw [c]
      refine J_iinc (v := i_1 + nI 1) (lv' := [(1, .int (i_1 + nI 1)), (0, .ref a0)]) dX1_freeRow_22 1 rfl rfl (by decide) rfl ?_
      refine J_goto (tgt := 2) dX1_freeRow_25 (by decide) ?_
      exact J_sub [1, 0] rfl F
    · intro c
      replace F := F.1 c
      try rw [c]
      refine J_iload_n dX1_freeRow_20 1 rfl ?_
      obtain ⟨k9, F⟩ := F
      exact J_iret dX1_freeRow_21 rfl k9.1 k9.2 F

abbrev mX1_hasSpan (l : Launch) (K : Kx) (As : List Value) (h : Hp) (Post : Rs → Hp → Prop) : Prop := MX l K yX1_hasSpan wsX1_hasSpan 0 0 0 0 As h Post
set_option maxRecDepth 100000 in
set_option maxHeartbeats 4000000 in
theorem fX1_hasSpan {l : Launch} {K : Kx} {a0 : Nat} {x1 : Int32} {h : Hp} {Post : Rs → Hp → Prop} (htr : l.stackTraces = false)
    (F : (∀ X_2 : Int32 → Prop, (∀ (i_1 : Int32), ((∃ p_3, gf h a0 1 0 = some (.ref p_3) ∧ (∃ n_4, alen K 3 h p_3 = some n_4 ∧ ((n_4 ≤ i_1 → (Post (.inl (some (.int (nI 0)))) h)) ∧ (¬ n_4 ≤ i_1 → (∃ p_5, gf h a0 1 0 = some (.ref p_5) ∧ (∃ o_6, aQ K 3 h p_5 i_1 = some o_6 ∧ ((o_6 = none → X_2 (i_1 + nI 1)) ∧ (∀ a_7, o_6 = some a_7 → (∃ p_8, gf h a0 1 0 = some (.ref p_8) ∧ (∃ o_9, aQ K 3 h p_8 i_1 = some o_9 ∧ (∃ a_10, o_9 = some a_10 ∧ (∃ v_11, gf h a_10 0 2 = some (.int v_11) ∧ ((¬ v_11 = x1 → X_2 (i_1 + nI 1)) ∧ (v_11 = x1 → (Post (.inl (some (.int (nI 1)))) h)))))))))))))))) → X_2 i_1) → X_2 (nI 0))) :
    mX1_hasSpan l K [.ref a0, .int x1] h Post := by
  refine MX.enter htr (by decide) rfl (Nat.le_of_ble_eq_true rfl) ?_
  refine J_lveq (lv' := [(0, .ref a0), (1, .int x1)]) rfl ?_
  refine J_iconst (v := nI 0) dX1_hasSpan_0 (by decide) ?_
  refine J_istore_n (lv' := [(2, .int (nI 0)), (0, .ref a0), (1, .int x1)]) dX1_hasSpan_1 rfl (by decide) rfl ?_
  refine J_sub [1, 2, 0] rfl ?_
  refine F (fun (i_1 : Int32) => J l K yX1_hasSpan.cls cX1_hasSpan 3 (some .boolean) wsX1_hasSpan [] yX1_hasSpan.name 0 0 0 0 (QM K 0 0 Post) 2 [] [(0, .ref a0), (1, .int x1), (2, .int i_1)] h 0 0) ?_
  intro i_1 F
  refine J_iload_n dX1_hasSpan_2 2 rfl ?_
  refine J_aload_n dX1_hasSpan_3 0 rfl ?_
  obtain ⟨p_3, g9, F⟩ := F
  refine J_get (ci := 1) (k := 0) dX1_hasSpan_4 rfl in_X1_hasSpan_1 (by decide) lk_X1_hasSpan_11 g9 ?_
  obtain ⟨n_4, g9, F⟩ := F
  refine J_alen (t := 3) dX1_hasSpan_7 rfl g9 ?_
  refine J_icmp_ge (tgt := 41) dX1_hasSpan_8 (by decide) (fun c => ?_) (fun c => ?_)
  · replace F := F.1 c
    refine J_iconst (v := nI 0) dX1_hasSpan_41 (by decide) ?_
    exact J_zret dX1_hasSpan_42 rfl (by decide) (Nat.le_refl _) (Nat.le_refl _) F
  · replace F := F.2 c
    refine J_aload_n dX1_hasSpan_11 0 rfl ?_
    obtain ⟨p_5, g9, F⟩ := F
    refine J_get (ci := 1) (k := 0) dX1_hasSpan_12 rfl in_X1_hasSpan_1 (by decide) lk_X1_hasSpan_11 g9 ?_
    refine J_iload_n dX1_hasSpan_15 2 rfl ?_
    obtain ⟨o_6, g9, F⟩ := F
    refine J_aald (t := 3) dX1_hasSpan_16 rfl g9 ?_
    refine J_ifnull (tgt := 35) dX1_hasSpan_17 (by decide) ?_ ?_
    · intro c
      replace F := F.1 c
      try rw [c]
      refine J_iinc (v := i_1 + nI 1) (lv' := [(2, .int (i_1 + nI 1)), (0, .ref a0), (1, .int x1)]) dX1_hasSpan_35 2 rfl rfl (by decide) rfl ?_
      refine J_goto (tgt := 2) dX1_hasSpan_38 (by decide) ?_
      exact J_sub [1, 2, 0] rfl F
    · intro a_7 c
      replace F := F.2 a_7 c
      try rw [c]
      refine J_aload_n dX1_hasSpan_20 0 rfl ?_
      obtain ⟨p_8, g9, F⟩ := F
      refine J_get (ci := 1) (k := 0) dX1_hasSpan_21 rfl in_X1_hasSpan_1 (by decide) lk_X1_hasSpan_11 g9 ?_
      refine J_iload_n dX1_hasSpan_24 2 rfl ?_
      obtain ⟨o_9, g9, F⟩ := F
      refine J_aald (t := 3) dX1_hasSpan_25 rfl g9 ?_
      obtain ⟨a_10, hq9, F⟩ := F
      rw [hq9]
      obtain ⟨v_11, g9, F⟩ := F
      refine J_get (ci := 0) (k := 2) dX1_hasSpan_26 rfl in_X1_hasSpan_0 (by decide) lk_X1_hasSpan_38 g9 ?_
      refine J_iload_n dX1_hasSpan_29 1 rfl ?_
      refine J_icmp_ne (tgt := 35) dX1_hasSpan_30 (by decide) (fun c => ?_) (fun c => ?_)
      · replace F := F.1 c
        refine J_iinc (v := i_1 + nI 1) (lv' := [(2, .int (i_1 + nI 1)), (0, .ref a0), (1, .int x1)]) dX1_hasSpan_35 2 rfl rfl (by decide) rfl ?_
        refine J_goto (tgt := 2) dX1_hasSpan_38 (by decide) ?_
        exact J_sub [1, 2, 0] rfl F
      · replace F := F.2 c
        refine J_iconst (v := nI 1) dX1_hasSpan_33 (by decide) ?_
        exact J_zret dX1_hasSpan_34 rfl (by decide) (Nat.le_refl _) (Nat.le_refl _) F

abbrev mX1_isShared (l : Launch) (K : Kx) (As : List Value) (h : Hp) (Post : Rs → Hp → Prop) : Prop := MX l K yX1_isShared wsX1_isShared 0 0 0 0 As h Post
set_option maxRecDepth 100000 in
set_option maxHeartbeats 4000000 in
theorem fX1_isShared {l : Launch} {K : Kx} {a0 : Nat} {h : Hp} {Post : Rs → Hp → Prop} (htr : l.stackTraces = false)
    (F : (∃ v_1, gf h a0 1 1 = some (.int v_1) ∧ ((v_1 ≤ nI 0 → (Post (.inl (some (.int (nI 0)))) h)) ∧ (¬ v_1 ≤ nI 0 → (Post (.inl (some (.int (nI 1)))) h))))) :
    mX1_isShared l K [.ref a0] h Post := by
  refine MX.enter htr (by decide) rfl (Nat.le_of_ble_eq_true rfl) ?_
  refine J_lveq (lv' := [(0, .ref a0)]) rfl ?_
  refine J_aload_n dX1_isShared_0 0 rfl ?_
  obtain ⟨v_1, g9, F⟩ := F
  refine J_get (ci := 1) (k := 1) dX1_isShared_1 rfl in_X1_isShared_1 (by decide) lk_X1_isShared_17 g9 ?_
  refine J_if_le (tgt := 11) dX1_isShared_4 (by decide) (fun c => ?_) (fun c => ?_)
  · replace F := F.1 c
    refine J_iconst (v := nI 0) dX1_isShared_11 (by decide) ?_
    exact J_zret dX1_isShared_12 rfl (by decide) (Nat.le_refl _) (Nat.le_refl _) F
  · replace F := F.2 c
    refine J_iconst (v := nI 1) dX1_isShared_7 (by decide) ?_
    refine J_goto (tgt := 12) dX1_isShared_8 (by decide) ?_
    exact J_zret dX1_isShared_12 rfl (by decide) (Nat.le_refl _) (Nat.le_refl _) F

abbrev mX1_rowOf (l : Launch) (K : Kx) (As : List Value) (h : Hp) (Post : Rs → Hp → Prop) : Prop := MX l K yX1_rowOf wsX1_rowOf 1 24 0 0 As h Post
set_option maxRecDepth 100000 in
set_option maxHeartbeats 4000000 in
theorem fX1_rowOf {l : Launch} {K : Kx} {a0 : Nat} {x1 : Int32} {x2 : Int64} {x3 : Int32} {h : Hp} {Post : Rs → Hp → Prop} (htr : l.stackTraces = false)
    (F : (∀ X_3 : Int32 → Hp → Prop, (∀ (i_1 : Int32) (h_2 : Hp), ((∃ p_4, gf h_2 a0 1 0 = some (.ref p_4) ∧ (∃ n_5, alen K 3 h_2 p_4 = some n_5 ∧ ((n_5 ≤ i_1 → (Post (.inl (some (.int (-nI 1)))) h_2)) ∧ (¬ n_5 ≤ i_1 → (∃ p_6, gf h_2 a0 1 0 = some (.ref p_6) ∧ (∃ o_7, aQ K 3 h_2 p_6 i_1 = some o_7 ∧ ((o_7 = none → X_3 (i_1 + nI 1) h_2) ∧ (∀ a_8, o_7 = some a_8 → (∃ p_9, gf h_2 a0 1 0 = some (.ref p_9) ∧ (∃ o_10, aQ K 3 h_2 p_9 i_1 = some o_10 ∧ (∃ a_11, o_10 = some a_11 ∧ ((∃ fs, h_2 a_11 = some (xO 0 fs)) ∧ mX0_isAt l K [.ref a_11, .int x1, .long x2, .int x3] h_2 (kI (fun v_13 h_12 => ((v_13 = nI 0 → X_3 (i_1 + nI 1) h_12) ∧ (¬ v_13 = nI 0 → (Post (.inl (some (.int i_1))) h_12)))))))))))))))))) → X_3 i_1 h_2) → X_3 (nI 0) h)) :
    mX1_rowOf l K [.ref a0, .int x1, .long x2, .int x3] h Post := by
  refine MX.enter htr (by decide) rfl (Nat.le_of_ble_eq_true rfl) ?_
  refine J_lveq (lv' := [(0, .ref a0), (1, .int x1), (2, .long x2), (4, .int x3)]) rfl ?_
  refine J_iconst (v := nI 0) dX1_rowOf_0 (by decide) ?_
  refine J_istore (lv' := [(5, .int (nI 0)), (0, .ref a0), (1, .int x1), (2, .long x2), (4, .int x3)]) dX1_rowOf_1 (by decide) rfl ?_
  refine J_sub [1, 2, 3, 4, 0] rfl ?_
  refine F (fun (i_1 : Int32) (h_2 : Hp) => J l K yX1_rowOf.cls cX1_rowOf 6 (some .int) wsX1_rowOf [] yX1_rowOf.name 1 24 0 0 (QM K 0 0 Post) 3 [] [(0, .ref a0), (1, .int x1), (2, .long x2), (4, .int x3), (5, .int i_1)] h_2 0 0) ?_
  intro i_1 h_2 F
  refine J_iload dX1_rowOf_3 4 rfl ?_
  refine J_aload_n dX1_rowOf_5 0 rfl ?_
  obtain ⟨p_4, g9, F⟩ := F
  refine J_get (ci := 1) (k := 0) dX1_rowOf_6 rfl in_X1_rowOf_1 (by decide) lk_X1_rowOf_11 g9 ?_
  obtain ⟨n_5, g9, F⟩ := F
  refine J_alen (t := 3) dX1_rowOf_9 rfl g9 ?_
  refine J_icmp_ge (tgt := 49) dX1_rowOf_10 (by decide) (fun c => ?_) (fun c => ?_)
  · replace F := F.1 c
    refine J_iconst (v := -nI 1) dX1_rowOf_49 (by decide) ?_
    exact J_iret dX1_rowOf_50 rfl (Nat.le_refl _) (Nat.le_refl _) F
  · replace F := F.2 c
    refine J_aload_n dX1_rowOf_13 0 rfl ?_
    obtain ⟨p_6, g9, F⟩ := F
    refine J_get (ci := 1) (k := 0) dX1_rowOf_14 rfl in_X1_rowOf_1 (by decide) lk_X1_rowOf_11 g9 ?_
    refine J_iload dX1_rowOf_17 4 rfl ?_
    obtain ⟨o_7, g9, F⟩ := F
    refine J_aald (t := 3) dX1_rowOf_19 rfl g9 ?_
    refine J_ifnull (tgt := 43) dX1_rowOf_20 (by decide) ?_ ?_
    · intro c
      replace F := F.1 c
      try rw [c]
      refine J_iinc (v := i_1 + nI 1) (lv' := [(5, .int (i_1 + nI 1)), (0, .ref a0), (1, .int x1), (2, .long x2), (4, .int x3)]) dX1_rowOf_43 4 rfl rfl (by decide) rfl ?_
      refine J_goto (tgt := 3) dX1_rowOf_46 (by decide) ?_
      exact J_sub [1, 2, 3, 4, 0] rfl F
    · intro a_8 c
      replace F := F.2 a_8 c
      try rw [c]
      refine J_aload_n dX1_rowOf_23 0 rfl ?_
      obtain ⟨p_9, g9, F⟩ := F
      refine J_get (ci := 1) (k := 0) dX1_rowOf_24 rfl in_X1_rowOf_1 (by decide) lk_X1_rowOf_11 g9 ?_
      refine J_iload dX1_rowOf_27 4 rfl ?_
      obtain ⟨o_10, g9, F⟩ := F
      refine J_aald (t := 3) dX1_rowOf_29 rfl g9 ?_
      refine J_iload_n dX1_rowOf_30 1 rfl ?_
      refine J_lload_n dX1_rowOf_31 2 rfl ?_
      refine J_iload dX1_rowOf_32 3 rfl ?_
      obtain ⟨a_11, hq9, F⟩ := F
      rw [hq9]
      obtain ⟨b9, F⟩ := F
      refine J_callV0 (ci := 0) (n := 3) (As := [.int x1, .long x2, .int x3]) (rest := []) dX1_rowOf_34 rfl gX1_rowOf_X0_isAt rfl (by decide +kernel) rfl (by decide) b9 (Nat.le_of_ble_eq_true rfl) (Nat.le_refl _) (Nat.le_refl _) F kI_no (kI_kk (fun v_13 h_12 F => ?_))
      refine J_if_eq (tgt := 43) dX1_rowOf_37 (by decide) (fun c => ?_) (fun c => ?_)
      · replace F := F.1 c
        refine J_iinc (v := i_1 + nI 1) (lv' := [(5, .int (i_1 + nI 1)), (0, .ref a0), (1, .int x1), (2, .long x2), (4, .int x3)]) dX1_rowOf_43 4 rfl rfl (by decide) rfl ?_
        refine J_goto (tgt := 3) dX1_rowOf_46 (by decide) ?_
        exact J_sub [1, 2, 3, 4, 0] rfl F
      · replace F := F.2 c
        refine J_iload dX1_rowOf_40 4 rfl ?_
        exact J_iret dX1_rowOf_42 rfl (Nat.le_refl _) (Nat.le_refl _) F

abbrev mX1_keepEntry (l : Launch) (K : Kx) (mc ms : Nat) (As : List Value) (h : Hp) (Post : Rs → Hp → Prop) : Prop := MX l K yX1_keepEntry wsX1_keepEntry 2 49 mc ms As h Post
set_option maxRecDepth 100000 in
set_option maxHeartbeats 4000000 in
theorem fX1_keepEntry {l : Launch} {K : Kx} {mc ms : Nat} {a0 : Nat} {x1 : Nat} {h : Hp} {Post : Rs → Hp → Prop} (htr : l.stackTraces = false)
    (F : (∃ v_1, gf h x1 0 0 = some (.int v_1) ∧ (∃ u_2, gf h x1 0 1 = some (.long u_2) ∧ (∃ v_3, gf h x1 0 2 = some (.int v_3) ∧ ((∃ fs, h a0 = some (xO 1 fs)) ∧ (0 + 0 ≤ mc ∧ 0 + 0 ≤ ms ∧ mX1_rowOf l K [.ref a0, .int v_1, .long u_2, .int v_3] h (kI (fun v_5 h_4 => ((¬ v_5 = (-nI 1) → (∃ p_6, gf h_4 a0 1 0 = some (.ref p_6) ∧ ((∃ fs, h_4 x1 = some (xO 0 fs)) ∧ ((0 + 0) + 0 ≤ mc ∧ (0 + 0) + 0 ≤ ms ∧ mX0_isNone l K [.ref x1] h_4 (kI (fun v_8 h_7 => ((v_8 = nI 0 → ((∃ fs, h_7 x1 = some (xO 0 fs)) ∧ ∃ h_9, wQ K 3 h_7 p_6 v_5 (some x1) = some h_9 ∧ ((((0 + 0) + 0) ≤ mc ∧ ((0 + 0) + 0) ≤ ms) ∧ Post (.inl none) h_9))) ∧ (¬ v_8 = nI 0 → (∃ h_10, wQ K 3 h_7 p_6 v_5 none = some h_10 ∧ ((((0 + 0) + 0) ≤ mc ∧ ((0 + 0) + 0) ≤ ms) ∧ Post (.inl none) h_10)))))))))) ∧ (v_5 = (-nI 1) → ((∃ fs, h_4 a0 = some (xO 1 fs)) ∧ (∃ c_12 w_13, (0 + 0) + c_12 ≤ mc ∧ (0 + 0) + w_13 ≤ ms ∧ mX1_freeRow l K c_12 w_13 [.ref a0] h_4 (kI (fun v_14 h_11 => (∃ p_15, gf h_11 a0 1 0 = some (.ref p_15) ∧ ((∃ fs, h_11 x1 = some (xO 0 fs)) ∧ (((0 + 0) + c_12) + 0 ≤ mc ∧ ((0 + 0) + w_13) + 0 ≤ ms ∧ mX0_isNone l K [.ref x1] h_11 (kI (fun v_17 h_16 => ((v_17 = nI 0 → ((∃ fs, h_16 x1 = some (xO 0 fs)) ∧ ∃ h_18, wQ K 3 h_16 p_15 v_14 (some x1) = some h_18 ∧ (((((0 + 0) + c_12) + 0) ≤ mc ∧ (((0 + 0) + w_13) + 0) ≤ ms) ∧ Post (.inl none) h_18))) ∧ (¬ v_17 = nI 0 → (∃ h_19, wQ K 3 h_16 p_15 v_14 none = some h_19 ∧ (((((0 + 0) + c_12) + 0) ≤ mc ∧ (((0 + 0) + w_13) + 0) ≤ ms) ∧ Post (.inl none) h_19))))))))))))))))))))))) :
    mX1_keepEntry l K mc ms [.ref a0, .ref x1] h Post := by
  refine MX.enter htr (by decide) rfl (Nat.le_of_ble_eq_true rfl) ?_
  refine J_lveq (lv' := [(0, .ref a0), (1, .ref x1)]) rfl ?_
  refine J_aload_n dX1_keepEntry_0 0 rfl ?_
  refine J_aload_n dX1_keepEntry_1 1 rfl ?_
  obtain ⟨v_1, g9, F⟩ := F
  refine J_get (ci := 0) (k := 0) dX1_keepEntry_2 rfl in_X1_keepEntry_0 (by decide) lk_X1_keepEntry_31 g9 ?_
  refine J_aload_n dX1_keepEntry_5 1 rfl ?_
  obtain ⟨u_2, g9, F⟩ := F
  refine J_get (ci := 0) (k := 1) dX1_keepEntry_6 rfl in_X1_keepEntry_0 (by decide) lk_X1_keepEntry_34 g9 ?_
  refine J_aload_n dX1_keepEntry_9 1 rfl ?_
  obtain ⟨v_3, g9, F⟩ := F
  refine J_get (ci := 0) (k := 2) dX1_keepEntry_10 rfl in_X1_keepEntry_0 (by decide) lk_X1_keepEntry_38 g9 ?_
  obtain ⟨b9, F⟩ := F
  obtain ⟨k9, w9, F⟩ := F
  refine J_callV0 (ci := 1) (n := 3) (As := [.int v_1, .long u_2, .int v_3]) (rest := []) dX1_keepEntry_13 rfl gX1_keepEntry_X1_rowOf rfl (by decide +kernel) rfl (by decide) b9 (Nat.le_of_ble_eq_true rfl) k9 w9 F kI_no (kI_kk (fun v_5 h_4 F => ?_))
  refine J_istore_n (lv' := [(2, .int v_5), (0, .ref a0), (1, .ref x1)]) dX1_keepEntry_16 rfl (by decide) rfl ?_
  refine J_iload_n dX1_keepEntry_17 0 rfl ?_
  refine J_iconst (v := -nI 1) dX1_keepEntry_18 (by decide) ?_
  refine J_icmp_ne (tgt := 27) dX1_keepEntry_19 (by decide) (fun c => ?_) (fun c => ?_)
  · replace F := F.1 c
    refine J_aload_n dX1_keepEntry_27 1 rfl ?_
    obtain ⟨p_6, g9, F⟩ := F
    refine J_get (ci := 1) (k := 0) dX1_keepEntry_28 rfl in_X1_keepEntry_1 (by decide) lk_X1_keepEntry_11 g9 ?_
    refine J_iload_n dX1_keepEntry_31 0 rfl ?_
    refine J_aload_n dX1_keepEntry_32 2 rfl ?_
    obtain ⟨b9, F⟩ := F
    obtain ⟨k9, w9, F⟩ := F
    refine J_callV0 (ci := 0) (n := 0) (As := []) (rest := [.int v_5, .ref p_6]) dX1_keepEntry_33 rfl gX1_keepEntry_X0_isNone rfl (by decide +kernel) rfl (by decide) b9 (Nat.le_of_ble_eq_true rfl) k9 w9 F kI_no (kI_kk (fun v_8 h_7 F => ?_))
    refine J_if_eq (tgt := 43) dX1_keepEntry_36 (by decide) (fun c => ?_) (fun c => ?_)
    · replace F := F.1 c
      refine J_aload_n dX1_keepEntry_43 2 rfl ?_
      obtain ⟨z9, F⟩ := F
      obtain ⟨h_9, g9, F⟩ := F
      refine J_aast (t := 3) (ci := 0) dX1_keepEntry_44 rfl rfl z9 g9 ?_
      obtain ⟨k9, F⟩ := F
      exact J_vret dX1_keepEntry_45 rfl k9.1 k9.2 F
    · replace F := F.2 c
      refine J_null dX1_keepEntry_39 ?_
      refine J_goto (tgt := 44) dX1_keepEntry_40 (by decide) ?_
      obtain ⟨h_10, g9, F⟩ := F
      refine J_aastN (t := 3) dX1_keepEntry_44 rfl g9 ?_
      obtain ⟨k9, F⟩ := F
      exact J_vret dX1_keepEntry_45 rfl k9.1 k9.2 F
  · replace F := F.2 c
    refine J_aload_n dX1_keepEntry_22 1 rfl ?_
    obtain ⟨b9, F⟩ := F
    obtain ⟨c_12, w_13, k9, w9, F⟩ := F
    refine J_callV0 (ci := 1) (n := 0) (As := []) (rest := []) dX1_keepEntry_23 rfl gX1_keepEntry_X1_freeRow rfl (by decide +kernel) rfl (by decide) b9 (Nat.le_of_ble_eq_true rfl) k9 w9 F kI_no (kI_kk (fun v_14 h_11 F => ?_))
    refine J_istore_n (lv' := [(2, .int v_14), (0, .ref a0), (1, .ref x1)]) dX1_keepEntry_26 rfl (by decide) rfl ?_
    refine J_aload_n dX1_keepEntry_27 1 rfl ?_
    obtain ⟨p_15, g9, F⟩ := F
    refine J_get (ci := 1) (k := 0) dX1_keepEntry_28 rfl in_X1_keepEntry_1 (by decide) lk_X1_keepEntry_11 g9 ?_
    refine J_iload_n dX1_keepEntry_31 0 rfl ?_
    refine J_aload_n dX1_keepEntry_32 2 rfl ?_
    obtain ⟨b9, F⟩ := F
    obtain ⟨k9, w9, F⟩ := F
    refine J_callV0 (ci := 0) (n := 0) (As := []) (rest := [.int v_14, .ref p_15]) dX1_keepEntry_33 rfl gX1_keepEntry_X0_isNone rfl (by decide +kernel) rfl (by decide) b9 (Nat.le_of_ble_eq_true rfl) k9 w9 F kI_no (kI_kk (fun v_17 h_16 F => ?_))
    refine J_if_eq (tgt := 43) dX1_keepEntry_36 (by decide) (fun c => ?_) (fun c => ?_)
    · replace F := F.1 c
      refine J_aload_n dX1_keepEntry_43 2 rfl ?_
      obtain ⟨z9, F⟩ := F
      obtain ⟨h_18, g9, F⟩ := F
      refine J_aast (t := 3) (ci := 0) dX1_keepEntry_44 rfl rfl z9 g9 ?_
      obtain ⟨k9, F⟩ := F
      exact J_vret dX1_keepEntry_45 rfl k9.1 k9.2 F
    · replace F := F.2 c
      refine J_null dX1_keepEntry_39 ?_
      refine J_goto (tgt := 44) dX1_keepEntry_40 (by decide) ?_
      obtain ⟨h_19, g9, F⟩ := F
      refine J_aastN (t := 3) dX1_keepEntry_44 rfl g9 ?_
      obtain ⟨k9, F⟩ := F
      exact J_vret dX1_keepEntry_45 rfl k9.1 k9.2 F

abbrev mX1_loseSpan (l : Launch) (K : Kx) (As : List Value) (h : Hp) (Post : Rs → Hp → Prop) : Prop := MX l K yX1_loseSpan wsX1_loseSpan 0 0 0 0 As h Post
set_option maxRecDepth 100000 in
set_option maxHeartbeats 4000000 in
theorem fX1_loseSpan {l : Launch} {K : Kx} {a0 : Nat} {x1 : Int32} {h : Hp} {Post : Rs → Hp → Prop} (htr : l.stackTraces = false)
    (F : (∀ X_4 : Int32 → Int32 → Hp → Prop, (∀ (i_1 : Int32) (i_2 : Int32) (h_3 : Hp), ((∃ p_5, gf h_3 a0 1 0 = some (.ref p_5) ∧ (∃ n_6, alen K 3 h_3 p_5 = some n_6 ∧ ((n_6 ≤ i_2 → (Post (.inl (some (.int i_1))) h_3)) ∧ (¬ n_6 ≤ i_2 → (∃ p_7, gf h_3 a0 1 0 = some (.ref p_7) ∧ (∃ o_8, aQ K 3 h_3 p_7 i_2 = some o_8 ∧ ((o_8 = none → X_4 i_1 (i_2 + nI 1) h_3) ∧ (∀ a_9, o_8 = some a_9 → (∃ p_10, gf h_3 a0 1 0 = some (.ref p_10) ∧ (∃ o_11, aQ K 3 h_3 p_10 i_2 = some o_11 ∧ (∃ a_12, o_11 = some a_12 ∧ (∃ v_13, gf h_3 a_12 0 2 = some (.int v_13) ∧ ((¬ v_13 = x1 → X_4 i_1 (i_2 + nI 1) h_3) ∧ (v_13 = x1 → (∃ p_14, gf h_3 a0 1 0 = some (.ref p_14) ∧ (∃ h_15, wQ K 3 h_3 p_14 i_2 none = some h_15 ∧ X_4 (i_1 + nI 1) (i_2 + nI 1) h_15))))))))))))))))) → X_4 i_1 i_2 h_3) → X_4 (nI 0) (nI 0) h)) :
    mX1_loseSpan l K [.ref a0, .int x1] h Post := by
  refine MX.enter htr (by decide) rfl (Nat.le_of_ble_eq_true rfl) ?_
  refine J_lveq (lv' := [(0, .ref a0), (1, .int x1)]) rfl ?_
  refine J_iconst (v := nI 0) dX1_loseSpan_0 (by decide) ?_
  refine J_istore_n (lv' := [(2, .int (nI 0)), (0, .ref a0), (1, .int x1)]) dX1_loseSpan_1 rfl (by decide) rfl ?_
  refine J_iconst (v := nI 0) dX1_loseSpan_2 (by decide) ?_
  refine J_istore_n (lv' := [(3, .int (nI 0)), (2, .int (nI 0)), (0, .ref a0), (1, .int x1)]) dX1_loseSpan_3 rfl (by decide) rfl ?_
  refine J_sub [2, 3, 1, 0] rfl ?_
  refine F (fun (i_1 : Int32) (i_2 : Int32) (h_3 : Hp) => J l K yX1_loseSpan.cls cX1_loseSpan 4 (some .int) wsX1_loseSpan [] yX1_loseSpan.name 0 0 0 0 (QM K 0 0 Post) 4 [] [(0, .ref a0), (1, .int x1), (2, .int i_1), (3, .int i_2)] h_3 0 0) ?_
  intro i_1 i_2 h_3 F
  refine J_iload_n dX1_loseSpan_4 3 rfl ?_
  refine J_aload_n dX1_loseSpan_5 0 rfl ?_
  obtain ⟨p_5, g9, F⟩ := F
  refine J_get (ci := 1) (k := 0) dX1_loseSpan_6 rfl in_X1_loseSpan_1 (by decide) lk_X1_loseSpan_11 g9 ?_
  obtain ⟨n_6, g9, F⟩ := F
  refine J_alen (t := 3) dX1_loseSpan_9 rfl g9 ?_
  refine J_icmp_ge (tgt := 51) dX1_loseSpan_10 (by decide) (fun c => ?_) (fun c => ?_)
  · replace F := F.1 c
    refine J_iload_n dX1_loseSpan_51 2 rfl ?_
    exact J_iret dX1_loseSpan_52 rfl (Nat.le_refl _) (Nat.le_refl _) F
  · replace F := F.2 c
    refine J_aload_n dX1_loseSpan_13 0 rfl ?_
    obtain ⟨p_7, g9, F⟩ := F
    refine J_get (ci := 1) (k := 0) dX1_loseSpan_14 rfl in_X1_loseSpan_1 (by decide) lk_X1_loseSpan_11 g9 ?_
    refine J_iload_n dX1_loseSpan_17 3 rfl ?_
    obtain ⟨o_8, g9, F⟩ := F
    refine J_aald (t := 3) dX1_loseSpan_18 rfl g9 ?_
    refine J_ifnull (tgt := 45) dX1_loseSpan_19 (by decide) ?_ ?_
    · intro c
      replace F := F.1 c
      try rw [c]
      refine J_iinc (v := i_2 + nI 1) (lv' := [(3, .int (i_2 + nI 1)), (0, .ref a0), (1, .int x1), (2, .int i_1)]) dX1_loseSpan_45 3 rfl rfl (by decide) rfl ?_
      refine J_goto (tgt := 4) dX1_loseSpan_48 (by decide) ?_
      exact J_sub [1, 2, 3, 0] rfl F
    · intro a_9 c
      replace F := F.2 a_9 c
      try rw [c]
      refine J_aload_n dX1_loseSpan_22 0 rfl ?_
      obtain ⟨p_10, g9, F⟩ := F
      refine J_get (ci := 1) (k := 0) dX1_loseSpan_23 rfl in_X1_loseSpan_1 (by decide) lk_X1_loseSpan_11 g9 ?_
      refine J_iload_n dX1_loseSpan_26 3 rfl ?_
      obtain ⟨o_11, g9, F⟩ := F
      refine J_aald (t := 3) dX1_loseSpan_27 rfl g9 ?_
      obtain ⟨a_12, hq9, F⟩ := F
      rw [hq9]
      obtain ⟨v_13, g9, F⟩ := F
      refine J_get (ci := 0) (k := 2) dX1_loseSpan_28 rfl in_X1_loseSpan_0 (by decide) lk_X1_loseSpan_38 g9 ?_
      refine J_iload_n dX1_loseSpan_31 1 rfl ?_
      refine J_icmp_ne (tgt := 45) dX1_loseSpan_32 (by decide) (fun c => ?_) (fun c => ?_)
      · replace F := F.1 c
        refine J_iinc (v := i_2 + nI 1) (lv' := [(3, .int (i_2 + nI 1)), (0, .ref a0), (1, .int x1), (2, .int i_1)]) dX1_loseSpan_45 3 rfl rfl (by decide) rfl ?_
        refine J_goto (tgt := 4) dX1_loseSpan_48 (by decide) ?_
        exact J_sub [1, 2, 3, 0] rfl F
      · replace F := F.2 c
        refine J_aload_n dX1_loseSpan_35 0 rfl ?_
        obtain ⟨p_14, g9, F⟩ := F
        refine J_get (ci := 1) (k := 0) dX1_loseSpan_36 rfl in_X1_loseSpan_1 (by decide) lk_X1_loseSpan_11 g9 ?_
        refine J_iload_n dX1_loseSpan_39 3 rfl ?_
        refine J_null dX1_loseSpan_40 ?_
        obtain ⟨h_15, g9, F⟩ := F
        refine J_aastN (t := 3) dX1_loseSpan_41 rfl g9 ?_
        refine J_iinc (v := i_1 + nI 1) (lv' := [(2, .int (i_1 + nI 1)), (0, .ref a0), (1, .int x1), (3, .int i_2)]) dX1_loseSpan_42 2 rfl rfl (by decide) rfl ?_
        refine J_iinc (v := i_2 + nI 1) (lv' := [(3, .int (i_2 + nI 1)), (2, .int (i_1 + nI 1)), (0, .ref a0), (1, .int x1)]) dX1_loseSpan_45 3 rfl rfl (by decide) rfl ?_
        refine J_goto (tgt := 4) dX1_loseSpan_48 (by decide) ?_
        exact J_sub [2, 3, 1, 0] rfl F

abbrev mX1_moveEntries (l : Launch) (K : Kx) (mc ms : Nat) (As : List Value) (h : Hp) (Post : Rs → Hp → Prop) : Prop := MX l K yX1_moveEntries wsX1_moveEntries 4 130 mc ms As h Post
set_option maxRecDepth 100000 in
set_option maxHeartbeats 4000000 in
theorem fX1_moveEntries {l : Launch} {K : Kx} {mc ms : Nat} {a0 : Nat} {x1 : Int32} {x2 : Int32} {x3 : Int32} {h : Hp} {Post : Rs → Hp → Prop} (htr : l.stackTraces = false)
    (F : (∀ X_6 : Int32 → Int32 → Hp → Nat → Nat → Prop, (∀ (i_1 : Int32) (i_2 : Int32) (h_3 : Hp) (kc_4 : Nat) (ks_5 : Nat), ((∃ p_7, gf h_3 a0 1 0 = some (.ref p_7) ∧ (∃ n_8, alen K 3 h_3 p_7 = some n_8 ∧ ((n_8 ≤ i_2 → ((kc_4 ≤ mc ∧ ks_5 ≤ ms) ∧ Post (.inl (some (.int i_1))) h_3)) ∧ (¬ n_8 ≤ i_2 → (∃ p_9, gf h_3 a0 1 0 = some (.ref p_9) ∧ (∃ o_10, aQ K 3 h_3 p_9 i_2 = some o_10 ∧ ((o_10 = none → X_6 i_1 (i_2 + nI 1) h_3 kc_4 ks_5) ∧ (∀ a_11, o_10 = some a_11 → (∃ p_12, gf h_3 a0 1 0 = some (.ref p_12) ∧ (∃ o_13, aQ K 3 h_3 p_12 i_2 = some o_13 ∧ (∃ a_14, o_13 = some a_14 ∧ (∃ v_15, gf h_3 a_14 0 0 = some (.int v_15) ∧ ((¬ v_15 = x1 → X_6 i_1 (i_2 + nI 1) h_3 kc_4 ks_5) ∧ (v_15 = x1 → (∃ p_16, gf h_3 a0 1 0 = some (.ref p_16) ∧ (∃ p_17, gf h_3 a0 1 0 = some (.ref p_17) ∧ (∃ o_18, aQ K 3 h_3 p_17 i_2 = some o_18 ∧ (∃ a_19, o_18 = some a_19 ∧ ((∃ fs, h_3 a_19 = some (xO 0 fs)) ∧ (∃ c_21 w_22, kc_4 + c_21 ≤ mc ∧ ks_5 + w_22 ≤ ms ∧ mX0_movedTo l K c_21 w_22 [.ref a_19, .int x2, .int x3] h_3 (kQ (fun o_23 h_20 => ((∀ v9, o_23 = some v9 → ∃ fs, h_20 v9 = some (xO 0 fs)) ∧ ∃ h_24, wQ K 3 h_20 p_16 i_2 o_23 = some h_24 ∧ X_6 (i_1 + nI 1) (i_2 + nI 1) h_24 (kc_4 + c_21) (ks_5 + w_22))))))))))))))))))))))))) → X_6 i_1 i_2 h_3 kc_4 ks_5) → X_6 (nI 0) (nI 0) h 0 0)) :
    mX1_moveEntries l K mc ms [.ref a0, .int x1, .int x2, .int x3] h Post := by
  refine MX.enter htr (by decide) rfl (Nat.le_of_ble_eq_true rfl) ?_
  refine J_lveq (lv' := [(0, .ref a0), (1, .int x1), (2, .int x2), (3, .int x3)]) rfl ?_
  refine J_iconst (v := nI 0) dX1_moveEntries_0 (by decide) ?_
  refine J_istore (lv' := [(4, .int (nI 0)), (0, .ref a0), (1, .int x1), (2, .int x2), (3, .int x3)]) dX1_moveEntries_1 (by decide) rfl ?_
  refine J_iconst (v := nI 0) dX1_moveEntries_3 (by decide) ?_
  refine J_istore (lv' := [(5, .int (nI 0)), (4, .int (nI 0)), (0, .ref a0), (1, .int x1), (2, .int x2), (3, .int x3)]) dX1_moveEntries_4 (by decide) rfl ?_
  refine J_sub [2, 3, 4, 5, 1, 0] rfl ?_
  refine F (fun (i_1 : Int32) (i_2 : Int32) (h_3 : Hp) (kc_4 : Nat) (ks_5 : Nat) => J l K yX1_moveEntries.cls cX1_moveEntries 6 (some .int) wsX1_moveEntries [] yX1_moveEntries.name 4 130 mc ms (QM K mc ms Post) 6 [] [(0, .ref a0), (1, .int x1), (2, .int x2), (3, .int x3), (4, .int i_1), (5, .int i_2)] h_3 kc_4 ks_5) ?_
  intro i_1 i_2 h_3 kc_4 ks_5 F
  refine J_iload dX1_moveEntries_6 5 rfl ?_
  refine J_aload_n dX1_moveEntries_8 0 rfl ?_
  obtain ⟨p_7, g9, F⟩ := F
  refine J_get (ci := 1) (k := 0) dX1_moveEntries_9 rfl in_X1_moveEntries_1 (by decide) lk_X1_moveEntries_11 g9 ?_
  obtain ⟨n_8, g9, F⟩ := F
  refine J_alen (t := 3) dX1_moveEntries_12 rfl g9 ?_
  refine J_icmp_ge (tgt := 68) dX1_moveEntries_13 (by decide) (fun c => ?_) (fun c => ?_)
  · replace F := F.1 c
    refine J_iload dX1_moveEntries_68 4 rfl ?_
    obtain ⟨k9, F⟩ := F
    exact J_iret dX1_moveEntries_70 rfl k9.1 k9.2 F
  · replace F := F.2 c
    refine J_aload_n dX1_moveEntries_16 0 rfl ?_
    obtain ⟨p_9, g9, F⟩ := F
    refine J_get (ci := 1) (k := 0) dX1_moveEntries_17 rfl in_X1_moveEntries_1 (by decide) lk_X1_moveEntries_11 g9 ?_
    refine J_iload dX1_moveEntries_20 5 rfl ?_
    obtain ⟨o_10, g9, F⟩ := F
    refine J_aald (t := 3) dX1_moveEntries_22 rfl g9 ?_
    refine J_ifnull (tgt := 62) dX1_moveEntries_23 (by decide) ?_ ?_
    · intro c
      replace F := F.1 c
      try rw [c]
      refine J_iinc (v := i_2 + nI 1) (lv' := [(5, .int (i_2 + nI 1)), (0, .ref a0), (1, .int x1), (2, .int x2), (3, .int x3), (4, .int i_1)]) dX1_moveEntries_62 5 rfl rfl (by decide) rfl ?_
      refine J_goto (tgt := 6) dX1_moveEntries_65 (by decide) ?_
      exact J_sub [1, 2, 3, 4, 5, 0] rfl F
    · intro a_11 c
      replace F := F.2 a_11 c
      try rw [c]
      refine J_aload_n dX1_moveEntries_26 0 rfl ?_
      obtain ⟨p_12, g9, F⟩ := F
      refine J_get (ci := 1) (k := 0) dX1_moveEntries_27 rfl in_X1_moveEntries_1 (by decide) lk_X1_moveEntries_11 g9 ?_
      refine J_iload dX1_moveEntries_30 5 rfl ?_
      obtain ⟨o_13, g9, F⟩ := F
      refine J_aald (t := 3) dX1_moveEntries_32 rfl g9 ?_
      obtain ⟨a_14, hq9, F⟩ := F
      rw [hq9]
      obtain ⟨v_15, g9, F⟩ := F
      refine J_get (ci := 0) (k := 0) dX1_moveEntries_33 rfl in_X1_moveEntries_0 (by decide) lk_X1_moveEntries_31 g9 ?_
      refine J_iload_n dX1_moveEntries_36 1 rfl ?_
      refine J_icmp_ne (tgt := 62) dX1_moveEntries_37 (by decide) (fun c => ?_) (fun c => ?_)
      · replace F := F.1 c
        refine J_iinc (v := i_2 + nI 1) (lv' := [(5, .int (i_2 + nI 1)), (0, .ref a0), (1, .int x1), (2, .int x2), (3, .int x3), (4, .int i_1)]) dX1_moveEntries_62 5 rfl rfl (by decide) rfl ?_
        refine J_goto (tgt := 6) dX1_moveEntries_65 (by decide) ?_
        exact J_sub [1, 2, 3, 4, 5, 0] rfl F
      · replace F := F.2 c
        refine J_aload_n dX1_moveEntries_40 0 rfl ?_
        obtain ⟨p_16, g9, F⟩ := F
        refine J_get (ci := 1) (k := 0) dX1_moveEntries_41 rfl in_X1_moveEntries_1 (by decide) lk_X1_moveEntries_11 g9 ?_
        refine J_iload dX1_moveEntries_44 5 rfl ?_
        refine J_aload_n dX1_moveEntries_46 0 rfl ?_
        obtain ⟨p_17, g9, F⟩ := F
        refine J_get (ci := 1) (k := 0) dX1_moveEntries_47 rfl in_X1_moveEntries_1 (by decide) lk_X1_moveEntries_11 g9 ?_
        refine J_iload dX1_moveEntries_50 5 rfl ?_
        obtain ⟨o_18, g9, F⟩ := F
        refine J_aald (t := 3) dX1_moveEntries_52 rfl g9 ?_
        refine J_iload_n dX1_moveEntries_53 2 rfl ?_
        refine J_iload_n dX1_moveEntries_54 3 rfl ?_
        obtain ⟨a_19, hq9, F⟩ := F
        rw [hq9]
        obtain ⟨b9, F⟩ := F
        obtain ⟨c_21, w_22, k9, w9, F⟩ := F
        refine J_callV0 (ci := 0) (n := 2) (As := [.int x2, .int x3]) (rest := [.int i_2, .ref p_16]) dX1_moveEntries_55 rfl gX1_moveEntries_X0_movedTo rfl (by decide +kernel) rfl (by decide) b9 (Nat.le_of_ble_eq_true rfl) k9 w9 F kQ_no (kQ_kk (fun o_23 h_20 F => ?_))
        obtain ⟨z9, F⟩ := F
        obtain ⟨h_24, g9, F⟩ := F
        refine J_aastq (t := 3) (ci := 0) dX1_moveEntries_58 rfl rfl z9 g9 ?_
        refine J_iinc (v := i_1 + nI 1) (lv' := [(4, .int (i_1 + nI 1)), (0, .ref a0), (1, .int x1), (2, .int x2), (3, .int x3), (5, .int i_2)]) dX1_moveEntries_59 4 rfl rfl (by decide) rfl ?_
        refine J_iinc (v := i_2 + nI 1) (lv' := [(5, .int (i_2 + nI 1)), (4, .int (i_1 + nI 1)), (0, .ref a0), (1, .int x1), (2, .int x2), (3, .int x3)]) dX1_moveEntries_62 5 rfl rfl (by decide) rfl ?_
        refine J_goto (tgt := 6) dX1_moveEntries_65 (by decide) ?_
        exact J_sub [2, 3, 4, 5, 1, 0] rfl F

abbrev mX1_sortKeysInto (l : Launch) (K : Kx) (As : List Value) (h : Hp) (Post : Rs → Hp → Prop) : Prop := MX l K yX1_sortKeysInto wsX1_sortKeysInto 1 60 0 0 As h Post
set_option maxRecDepth 100000 in
set_option maxHeartbeats 4000000 in
theorem fX1_sortKeysInto {l : Launch} {K : Kx} {a0 : Nat} {x1 : Nat} {x2 : Int32} {x3 : Int32} {x4 : Int32} {h : Hp} {Post : Rs → Hp → Prop} (htr : l.stackTraces = false)
    (F : (∀ X_4 : Int32 → Int32 → Hp → Prop, (∀ (i_1 : Int32) (i_2 : Int32) (h_3 : Hp), ((∃ p_5, gf h_3 a0 1 0 = some (.ref p_5) ∧ (∃ n_6, alen K 3 h_3 p_5 = some n_6 ∧ ((n_6 ≤ i_2 → (Post (.inl (some (.int i_1))) h_3)) ∧ (¬ n_6 ≤ i_2 → (∃ n_7, alen K 1 h_3 x1 = some n_7 ∧ ((n_7 ≤ i_1 → (Post (.inl (some (.int i_1))) h_3)) ∧ (¬ n_7 ≤ i_1 → (∃ p_8, gf h_3 a0 1 0 = some (.ref p_8) ∧ (∃ o_9, aQ K 3 h_3 p_8 i_2 = some o_9 ∧ ((o_9 = none → X_4 i_1 (i_2 + nI 1) h_3) ∧ (∀ a_10, o_9 = some a_10 → (∃ p_11, gf h_3 a0 1 0 = some (.ref p_11) ∧ (∃ o_12, aQ K 3 h_3 p_11 i_2 = some o_12 ∧ (∃ a_13, o_12 = some a_13 ∧ (∃ v_14, gf h_3 a_13 0 0 = some (.int v_14) ∧ ((¬ v_14 = x3 → X_4 i_1 (i_2 + nI 1) h_3) ∧ (v_14 = x3 → (∃ p_15, gf h_3 a0 1 0 = some (.ref p_15) ∧ (∃ o_16, aQ K 3 h_3 p_15 i_2 = some o_16 ∧ (∃ a_17, o_16 = some a_17 ∧ (∃ v_18, gf h_3 a_17 0 2 = some (.int v_18) ∧ ((¬ v_18 = x4 → X_4 i_1 (i_2 + nI 1) h_3) ∧ (v_18 = x4 → (∃ p_19, gf h_3 a0 1 0 = some (.ref p_19) ∧ (∃ o_20, aQ K 3 h_3 p_19 i_2 = some o_20 ∧ (∃ a_21, o_20 = some a_21 ∧ (∃ u_22, gf h_3 a_21 0 1 = some (.long u_22) ∧ mX3_countBelow l K [.ref x1, .int i_1, .long u_22] h_3 (kI (fun v_24 h_23 => (∃ N_25 f_26 N_27 f_28, h_23 x1 = some (xJ K N_25 f_26) ∧ h_23 x1 = some (xJ K N_27 f_28) ∧ kB K ≤ x1 ∧ ¬ v_24 < nI 0 ∧ ¬ (v_24 + (nI 1)) < nI 0 ∧ ¬ (i_1 - v_24) < nI 0 ∧ v_24.toNatClampNeg + (i_1 - v_24).toNatClampNeg ≤ N_25 ∧ (v_24 + (nI 1)).toNatClampNeg + (i_1 - v_24).toNatClampNeg ≤ N_27 ∧ ∀ h_29 : Hp, h_29 = va_up h_23 x1 (some (xJ K N_27 (va_cpy f_26 f_28 v_24.toNatClampNeg (v_24 + (nI 1)).toNatClampNeg (i_1 - v_24).toNatClampNeg))) → (∃ p_30, gf h_29 a0 1 0 = some (.ref p_30) ∧ (∃ o_31, aQ K 3 h_29 p_30 i_2 = some o_31 ∧ (∃ a_32, o_31 = some a_32 ∧ (∃ u_33, gf h_29 a_32 0 1 = some (.long u_33) ∧ (∃ h_34, wJ K h_29 x1 v_24 u_33 = some h_34 ∧ X_4 (i_1 + nI 1) (i_2 + nI 1) h_34)))))))))))))))))))))))))))))))))))) → X_4 i_1 i_2 h_3) → X_4 x2 (nI 0) h)) :
    mX1_sortKeysInto l K [.ref a0, .ref x1, .int x2, .int x3, .int x4] h Post := by
  refine MX.enter htr (by decide) rfl (Nat.le_of_ble_eq_true rfl) ?_
  refine J_lveq (lv' := [(0, .ref a0), (1, .ref x1), (2, .int x2), (3, .int x3), (4, .int x4)]) rfl ?_
  refine J_iload_n dX1_sortKeysInto_0 2 rfl ?_
  refine J_istore (lv' := [(5, .int x2), (0, .ref a0), (1, .ref x1), (2, .int x2), (3, .int x3), (4, .int x4)]) dX1_sortKeysInto_1 (by decide) rfl ?_
  refine J_iconst (v := nI 0) dX1_sortKeysInto_3 (by decide) ?_
  refine J_istore (lv' := [(6, .int (nI 0)), (5, .int x2), (0, .ref a0), (1, .ref x1), (2, .int x2), (3, .int x3), (4, .int x4)]) dX1_sortKeysInto_4 (by decide) rfl ?_
  refine J_sub [2, 3, 5, 6, 1, 0] rfl ?_
  refine F (fun (i_1 : Int32) (i_2 : Int32) (h_3 : Hp) => J l K yX1_sortKeysInto.cls cX1_sortKeysInto 8 (some .int) wsX1_sortKeysInto [] yX1_sortKeysInto.name 1 60 0 0 (QM K 0 0 Post) 6 [] [(0, .ref a0), (1, .ref x1), (3, .int x3), (4, .int x4), (5, .int i_1), (6, .int i_2)] h_3 0 0) ?_
  intro i_1 i_2 h_3 F
  refine J_iload dX1_sortKeysInto_6 5 rfl ?_
  refine J_aload_n dX1_sortKeysInto_8 0 rfl ?_
  obtain ⟨p_5, g9, F⟩ := F
  refine J_get (ci := 1) (k := 0) dX1_sortKeysInto_9 rfl in_X1_sortKeysInto_1 (by decide) lk_X1_sortKeysInto_11 g9 ?_
  obtain ⟨n_6, g9, F⟩ := F
  refine J_alen (t := 3) dX1_sortKeysInto_12 rfl g9 ?_
  refine J_icmp_ge (tgt := 119) dX1_sortKeysInto_13 (by decide) (fun c => ?_) (fun c => ?_)
  · replace F := F.1 c
    refine J_iload dX1_sortKeysInto_119 4 rfl ?_
    exact J_iret dX1_sortKeysInto_121 rfl (Nat.le_refl _) (Nat.le_refl _) F
  · replace F := F.2 c
    refine J_iload dX1_sortKeysInto_16 4 rfl ?_
    refine J_aload_n dX1_sortKeysInto_18 1 rfl ?_
    obtain ⟨n_7, g9, F⟩ := F
    refine J_alen (t := 1) dX1_sortKeysInto_19 rfl g9 ?_
    refine J_icmp_ge (tgt := 119) dX1_sortKeysInto_20 (by decide) (fun c => ?_) (fun c => ?_)
    · replace F := F.1 c
      refine J_iload dX1_sortKeysInto_119 4 rfl ?_
      exact J_iret dX1_sortKeysInto_121 rfl (Nat.le_refl _) (Nat.le_refl _) F
    · replace F := F.2 c
      refine J_aload_n dX1_sortKeysInto_23 0 rfl ?_
      obtain ⟨p_8, g9, F⟩ := F
      refine J_get (ci := 1) (k := 0) dX1_sortKeysInto_24 rfl in_X1_sortKeysInto_1 (by decide) lk_X1_sortKeysInto_11 g9 ?_
      refine J_iload dX1_sortKeysInto_27 5 rfl ?_
      obtain ⟨o_9, g9, F⟩ := F
      refine J_aald (t := 3) dX1_sortKeysInto_29 rfl g9 ?_
      refine J_ifnull (tgt := 113) dX1_sortKeysInto_30 (by decide) ?_ ?_
      · intro c
        replace F := F.1 c
        try rw [c]
        refine J_iinc (v := i_2 + nI 1) (lv' := [(6, .int (i_2 + nI 1)), (0, .ref a0), (1, .ref x1), (3, .int x3), (4, .int x4), (5, .int i_1)]) dX1_sortKeysInto_113 5 rfl rfl (by decide) rfl ?_
        refine J_goto (tgt := 6) dX1_sortKeysInto_116 (by decide) ?_
        exact J_sub [1, 2, 3, 4, 5, 0] rfl F
      · intro a_10 c
        replace F := F.2 a_10 c
        try rw [c]
        refine J_aload_n dX1_sortKeysInto_33 0 rfl ?_
        obtain ⟨p_11, g9, F⟩ := F
        refine J_get (ci := 1) (k := 0) dX1_sortKeysInto_34 rfl in_X1_sortKeysInto_1 (by decide) lk_X1_sortKeysInto_11 g9 ?_
        refine J_iload dX1_sortKeysInto_37 5 rfl ?_
        obtain ⟨o_12, g9, F⟩ := F
        refine J_aald (t := 3) dX1_sortKeysInto_39 rfl g9 ?_
        obtain ⟨a_13, hq9, F⟩ := F
        rw [hq9]
        obtain ⟨v_14, g9, F⟩ := F
        refine J_get (ci := 0) (k := 0) dX1_sortKeysInto_40 rfl in_X1_sortKeysInto_0 (by decide) lk_X1_sortKeysInto_31 g9 ?_
        refine J_iload_n dX1_sortKeysInto_43 2 rfl ?_
        refine J_icmp_ne (tgt := 113) dX1_sortKeysInto_44 (by decide) (fun c => ?_) (fun c => ?_)
        · replace F := F.1 c
          refine J_iinc (v := i_2 + nI 1) (lv' := [(6, .int (i_2 + nI 1)), (0, .ref a0), (1, .ref x1), (3, .int x3), (4, .int x4), (5, .int i_1)]) dX1_sortKeysInto_113 5 rfl rfl (by decide) rfl ?_
          refine J_goto (tgt := 6) dX1_sortKeysInto_116 (by decide) ?_
          exact J_sub [1, 2, 3, 4, 5, 0] rfl F
        · replace F := F.2 c
          refine J_aload_n dX1_sortKeysInto_47 0 rfl ?_
          obtain ⟨p_15, g9, F⟩ := F
          refine J_get (ci := 1) (k := 0) dX1_sortKeysInto_48 rfl in_X1_sortKeysInto_1 (by decide) lk_X1_sortKeysInto_11 g9 ?_
          refine J_iload dX1_sortKeysInto_51 5 rfl ?_
          obtain ⟨o_16, g9, F⟩ := F
          refine J_aald (t := 3) dX1_sortKeysInto_53 rfl g9 ?_
          obtain ⟨a_17, hq9, F⟩ := F
          rw [hq9]
          obtain ⟨v_18, g9, F⟩ := F
          refine J_get (ci := 0) (k := 2) dX1_sortKeysInto_54 rfl in_X1_sortKeysInto_0 (by decide) lk_X1_sortKeysInto_38 g9 ?_
          refine J_iload dX1_sortKeysInto_57 3 rfl ?_
          refine J_icmp_ne (tgt := 113) dX1_sortKeysInto_59 (by decide) (fun c => ?_) (fun c => ?_)
          · replace F := F.1 c
            refine J_iinc (v := i_2 + nI 1) (lv' := [(6, .int (i_2 + nI 1)), (0, .ref a0), (1, .ref x1), (3, .int x3), (4, .int x4), (5, .int i_1)]) dX1_sortKeysInto_113 5 rfl rfl (by decide) rfl ?_
            refine J_goto (tgt := 6) dX1_sortKeysInto_116 (by decide) ?_
            exact J_sub [1, 2, 3, 4, 5, 0] rfl F
          · replace F := F.2 c
            refine J_aload_n dX1_sortKeysInto_62 1 rfl ?_
            refine J_iload dX1_sortKeysInto_63 4 rfl ?_
            refine J_aload_n dX1_sortKeysInto_65 0 rfl ?_
            obtain ⟨p_19, g9, F⟩ := F
            refine J_get (ci := 1) (k := 0) dX1_sortKeysInto_66 rfl in_X1_sortKeysInto_1 (by decide) lk_X1_sortKeysInto_11 g9 ?_
            refine J_iload dX1_sortKeysInto_69 5 rfl ?_
            obtain ⟨o_20, g9, F⟩ := F
            refine J_aald (t := 3) dX1_sortKeysInto_71 rfl g9 ?_
            obtain ⟨a_21, hq9, F⟩ := F
            rw [hq9]
            obtain ⟨u_22, g9, F⟩ := F
            refine J_get (ci := 0) (k := 1) dX1_sortKeysInto_72 rfl in_X1_sortKeysInto_0 (by decide) lk_X1_sortKeysInto_34 g9 ?_
            refine J_callSN (host := "KeyStates") (n := 3) (As := [.ref x1, .int i_1, .long u_22]) (rest := []) dX1_sortKeysInto_75 gX1_sortKeysInto_X3_countBelow_n61 rfl wd_X1_sortKeysInto_iRX3 (by decide) wd_X1_sortKeysInto_st_X3_countBelow (by decide +kernel) rfl (by decide) (Nat.le_of_ble_eq_true rfl) (Nat.le_refl _) (Nat.le_refl _) F kI_no (kI_kk (fun v_24 h_23 F => ?_))
            refine J_istore (lv' := [(7, .int v_24), (0, .ref a0), (1, .ref x1), (3, .int x3), (4, .int x4), (5, .int i_1), (6, .int i_2)]) dX1_sortKeysInto_78 (by decide) rfl ?_
            refine J_aload_n dX1_sortKeysInto_80 2 rfl ?_
            refine J_iload dX1_sortKeysInto_81 0 rfl ?_
            refine J_aload_n dX1_sortKeysInto_83 2 rfl ?_
            refine J_iload dX1_sortKeysInto_84 0 rfl ?_
            refine J_iconst (v := nI 1) dX1_sortKeysInto_86 (by decide) ?_
            refine J_iadd dX1_sortKeysInto_87 ?_
            refine J_iload dX1_sortKeysInto_88 5 rfl ?_
            refine J_iload dX1_sortKeysInto_90 0 rfl ?_
            refine J_isub dX1_sortKeysInto_92 ?_
            obtain ⟨N_25, f_26, N_27, f_28, e9, e8, b9, z91, z92, z93, z94, z95, F⟩ := F
            refine J_copyl dX1_sortKeysInto_93 wd_X1_sortKeysInto_ac65 wd_X1_sortKeysInto_acn wd_X1_sortKeysInto_acs wd_X1_sortKeysInto_aci e9 e8 b9 z91 z92 z93 z94 z95 (by decide) (by first | exact Nat.le_of_ble_eq_true rfl | (simp only [List.map, rf_cat]; exact Nat.le_of_ble_eq_true rfl)) ?_
            replace F := F _ rfl
            generalize va_up h_23 x1 (some (xJ K N_27 (va_cpy f_26 f_28 v_24.toNatClampNeg (v_24 + (nI 1)).toNatClampNeg (i_1 - v_24).toNatClampNeg))) = h_29 at F ⊢
            refine J_aload_n dX1_sortKeysInto_96 2 rfl ?_
            refine J_iload dX1_sortKeysInto_97 0 rfl ?_
            refine J_aload_n dX1_sortKeysInto_99 1 rfl ?_
            obtain ⟨p_30, g9, F⟩ := F
            refine J_get (ci := 1) (k := 0) dX1_sortKeysInto_100 rfl in_X1_sortKeysInto_1 (by decide) lk_X1_sortKeysInto_11 g9 ?_
            refine J_iload dX1_sortKeysInto_103 6 rfl ?_
            obtain ⟨o_31, g9, F⟩ := F
            refine J_aald (t := 3) dX1_sortKeysInto_105 rfl g9 ?_
            obtain ⟨a_32, hq9, F⟩ := F
            rw [hq9]
            obtain ⟨u_33, g9, F⟩ := F
            refine J_get (ci := 0) (k := 1) dX1_sortKeysInto_106 rfl in_X1_sortKeysInto_0 (by decide) lk_X1_sortKeysInto_34 g9 ?_
            obtain ⟨h_34, g9, F⟩ := F
            refine J_last dX1_sortKeysInto_109 g9 ?_
            refine J_iinc (v := i_1 + nI 1) (lv' := [(5, .int (i_1 + nI 1)), (7, .int v_24), (0, .ref a0), (1, .ref x1), (3, .int x3), (4, .int x4), (6, .int i_2)]) dX1_sortKeysInto_110 5 rfl rfl (by decide) rfl ?_
            refine J_iinc (v := i_2 + nI 1) (lv' := [(6, .int (i_2 + nI 1)), (5, .int (i_1 + nI 1)), (7, .int v_24), (0, .ref a0), (1, .ref x1), (3, .int x3), (4, .int x4)]) dX1_sortKeysInto_113 6 rfl rfl (by decide) rfl ?_
            refine J_goto (tgt := 6) dX1_sortKeysInto_116 (by decide) ?_
            exact J_sub [3, 4, 5, 6, 1, 0] rfl F

abbrev mX2_allFit (l : Launch) (K : Kx) (As : List Value) (h : Hp) (Post : Rs → Hp → Prop) : Prop := MX l K yX2_allFit wsX2_allFit 3 70 0 0 As h Post
set_option maxRecDepth 100000 in
set_option maxHeartbeats 4000000 in
theorem fX2_allFit {l : Launch} {K : Kx} {a0 : Nat} {x1 : Int32} {x2 : Int32} {x3 : Int32} {h : Hp} {Post : Rs → Hp → Prop} (htr : l.stackTraces = false)
    (F : (∀ X_3 : Int32 → Hp → Prop, (∀ (i_1 : Int32) (h_2 : Hp), ((((nI 16) ≤ i_1 → (Post (.inl (some (.int (nI 1)))) h_2)) ∧ (¬ (nI 16) ≤ i_1 → (∃ p_4, gf h_2 a0 2 1 = some (.ref p_4) ∧ (∃ o_5, aQ K 4 h_2 p_4 i_1 = some o_5 ∧ (∃ a_6, o_5 = some a_6 ∧ ((∃ fs, h_2 a_6 = some (xO 1 fs)) ∧ mX1_allFit l K [.ref a_6, .int x1, .int x2, .int x3] h_2 (kI (fun v_8 h_7 => ((¬ v_8 = nI 0 → X_3 (i_1 + nI 1) h_7) ∧ (v_8 = nI 0 → (Post (.inl (some (.int (nI 0)))) h_7)))))))))))) → X_3 i_1 h_2) → X_3 (nI 0) h)) :
    mX2_allFit l K [.ref a0, .int x1, .int x2, .int x3] h Post := by
  refine MX.enter htr (by decide) rfl (Nat.le_of_ble_eq_true rfl) ?_
  refine J_lveq (lv' := [(0, .ref a0), (1, .int x1), (2, .int x2), (3, .int x3)]) rfl ?_
  refine J_iconst (v := nI 0) dX2_allFit_0 (by decide) ?_
  refine J_istore (lv' := [(4, .int (nI 0)), (0, .ref a0), (1, .int x1), (2, .int x2), (3, .int x3)]) dX2_allFit_1 (by decide) rfl ?_
  refine J_sub [1, 2, 3, 4, 0] rfl ?_
  refine F (fun (i_1 : Int32) (h_2 : Hp) => J l K yX2_allFit.cls cX2_allFit 5 (some .boolean) wsX2_allFit [] yX2_allFit.name 3 70 0 0 (QM K 0 0 Post) 3 [] [(0, .ref a0), (1, .int x1), (2, .int x2), (3, .int x3), (4, .int i_1)] h_2 0 0) ?_
  intro i_1 h_2 F
  refine J_iload dX2_allFit_3 4 rfl ?_
  refine J_bipush (v := nI 16) dX2_allFit_5 (by decide) ?_
  refine J_icmp_ge (tgt := 34) dX2_allFit_7 (by decide) (fun c => ?_) (fun c => ?_)
  · replace F := F.1 c
    refine J_iconst (v := nI 1) dX2_allFit_34 (by decide) ?_
    exact J_zret dX2_allFit_35 rfl (by decide) (Nat.le_refl _) (Nat.le_refl _) F
  · replace F := F.2 c
    refine J_aload_n dX2_allFit_10 0 rfl ?_
    obtain ⟨p_4, g9, F⟩ := F
    refine J_get (ci := 2) (k := 1) dX2_allFit_11 rfl in_X2_allFit_2 (by decide) lk_X2_allFit_11 g9 ?_
    refine J_iload dX2_allFit_14 4 rfl ?_
    obtain ⟨o_5, g9, F⟩ := F
    refine J_aald (t := 4) dX2_allFit_16 rfl g9 ?_
    refine J_iload_n dX2_allFit_17 1 rfl ?_
    refine J_iload_n dX2_allFit_18 2 rfl ?_
    refine J_iload_n dX2_allFit_19 3 rfl ?_
    obtain ⟨a_6, hq9, F⟩ := F
    rw [hq9]
    obtain ⟨b9, F⟩ := F
    refine J_callV0 (ci := 1) (n := 3) (As := [.int x1, .int x2, .int x3]) (rest := []) dX2_allFit_20 rfl gX2_allFit_X1_allFit rfl (by decide +kernel) rfl (by decide) b9 (Nat.le_of_ble_eq_true rfl) (Nat.le_refl _) (Nat.le_refl _) F kI_no (kI_kk (fun v_8 h_7 F => ?_))
    refine J_if_ne (tgt := 28) dX2_allFit_23 (by decide) (fun c => ?_) (fun c => ?_)
    · replace F := F.1 c
      refine J_iinc (v := i_1 + nI 1) (lv' := [(4, .int (i_1 + nI 1)), (0, .ref a0), (1, .int x1), (2, .int x2), (3, .int x3)]) dX2_allFit_28 4 rfl rfl (by decide) rfl ?_
      refine J_goto (tgt := 3) dX2_allFit_31 (by decide) ?_
      exact J_sub [1, 2, 3, 4, 0] rfl F
    · replace F := F.2 c
      refine J_iconst (v := nI 0) dX2_allFit_26 (by decide) ?_
      exact J_zret dX2_allFit_27 rfl (by decide) (Nat.le_refl _) (Nat.le_refl _) F

abbrev mX2_becomeLike (l : Launch) (K : Kx) (As : List Value) (h : Hp) (Post : Rs → Hp → Prop) : Prop := MX l K yX2_becomeLike wsX2_becomeLike 0 0 0 0 As h Post
set_option maxRecDepth 100000 in
set_option maxHeartbeats 4000000 in
theorem fX2_becomeLike {l : Launch} {K : Kx} {a0 : Nat} {x1 : Nat} {h : Hp} {Post : Rs → Hp → Prop} (htr : l.stackTraces = false)
    (F : (∀ X_3 : Int32 → Hp → Prop, (∀ (i_1 : Int32) (h_2 : Hp), ((((nI 16) ≤ i_1 → (∀ X_6 : Int32 → Hp → Prop, (∀ (i_4 : Int32) (h_5 : Hp), ((∃ v_7, gf h_5 x1 2 4 = some (.int v_7) ∧ ((v_7 ≤ i_4 → (Post (.inl none) h_5)) ∧ (¬ v_7 ≤ i_4 → (∃ p_8, gf h_5 a0 2 2 = some (.ref p_8) ∧ (∃ p_9, gf h_5 x1 2 2 = some (.ref p_9) ∧ (∃ v_10, aI K h_5 p_9 i_4 = some v_10 ∧ (∃ h_11, wI K h_5 p_8 i_4 v_10 = some h_11 ∧ (∃ p_12, gf h_11 a0 2 3 = some (.ref p_12) ∧ (∃ p_13, gf h_11 x1 2 3 = some (.ref p_13) ∧ (∃ v_14, aI K h_11 p_13 i_4 = some v_14 ∧ (∃ h_15, wI K h_11 p_12 i_4 v_14 = some h_15 ∧ X_6 (i_4 + nI 1) h_15)))))))))))) → X_6 i_4 h_5) → X_6 (nI 0) h_2)) ∧ (¬ (nI 16) ≤ i_1 → (∃ p_16, gf h_2 a0 2 1 = some (.ref p_16) ∧ (∃ p_17, gf h_2 x1 2 1 = some (.ref p_17) ∧ (∃ o_18, aQ K 4 h_2 p_17 i_1 = some o_18 ∧ ((∀ v9, o_18 = some v9 → ∃ fs, h_2 v9 = some (xO 1 fs)) ∧ ∃ h_19, wQ K 4 h_2 p_16 i_1 o_18 = some h_19 ∧ X_3 (i_1 + nI 1) h_19))))))) → X_3 i_1 h_2) → X_3 (nI 0) h)) :
    mX2_becomeLike l K [.ref a0, .ref x1] h Post := by
  refine MX.enter htr (by decide) rfl (Nat.le_of_ble_eq_true rfl) ?_
  refine J_lveq (lv' := [(0, .ref a0), (1, .ref x1)]) rfl ?_
  refine J_iconst (v := nI 0) dX2_becomeLike_0 (by decide) ?_
  refine J_istore_n (lv' := [(2, .int (nI 0)), (0, .ref a0), (1, .ref x1)]) dX2_becomeLike_1 rfl (by decide) rfl ?_
  refine J_sub [1, 2, 0] rfl ?_
  refine F (fun (i_1 : Int32) (h_2 : Hp) => J l K yX2_becomeLike.cls cX2_becomeLike 3 none wsX2_becomeLike [] yX2_becomeLike.name 0 0 0 0 (QM K 0 0 Post) 2 [] [(0, .ref a0), (1, .ref x1), (2, .int i_1)] h_2 0 0) ?_
  intro i_1 h_2 F
  refine J_iload_n dX2_becomeLike_2 2 rfl ?_
  refine J_bipush (v := nI 16) dX2_becomeLike_3 (by decide) ?_
  refine J_icmp_ge (tgt := 26) dX2_becomeLike_5 (by decide) (fun c => ?_) (fun c => ?_)
  · replace F := F.1 c
    refine J_iconst (v := nI 0) dX2_becomeLike_26 (by decide) ?_
    refine J_istore_n (lv' := [(2, .int (nI 0)), (0, .ref a0), (1, .ref x1)]) dX2_becomeLike_27 rfl (by decide) rfl ?_
    refine J_sub [1, 2, 0] rfl ?_
    refine F (fun (i_4 : Int32) (h_5 : Hp) => J l K yX2_becomeLike.cls cX2_becomeLike 3 none wsX2_becomeLike [] yX2_becomeLike.name 0 0 0 0 (QM K 0 0 Post) 28 [] [(0, .ref a0), (1, .ref x1), (2, .int i_4)] h_5 0 0) ?_
    intro i_4 h_5 F
    refine J_iload_n dX2_becomeLike_28 2 rfl ?_
    refine J_aload_n dX2_becomeLike_29 1 rfl ?_
    obtain ⟨v_7, g9, F⟩ := F
    refine J_get (ci := 2) (k := 4) dX2_becomeLike_30 rfl in_X2_becomeLike_2 (by decide) lk_X2_becomeLike_24 g9 ?_
    refine J_icmp_ge (tgt := 66) dX2_becomeLike_33 (by decide) (fun c => ?_) (fun c => ?_)
    · replace F := F.1 c
      exact J_vret dX2_becomeLike_66 rfl (Nat.le_refl _) (Nat.le_refl _) F
    · replace F := F.2 c
      refine J_aload_n dX2_becomeLike_36 0 rfl ?_
      obtain ⟨p_8, g9, F⟩ := F
      refine J_get (ci := 2) (k := 2) dX2_becomeLike_37 rfl in_X2_becomeLike_2 (by decide) lk_X2_becomeLike_17 g9 ?_
      refine J_iload_n dX2_becomeLike_40 2 rfl ?_
      refine J_aload_n dX2_becomeLike_41 1 rfl ?_
      obtain ⟨p_9, g9, F⟩ := F
      refine J_get (ci := 2) (k := 2) dX2_becomeLike_42 rfl in_X2_becomeLike_2 (by decide) lk_X2_becomeLike_17 g9 ?_
      refine J_iload_n dX2_becomeLike_45 2 rfl ?_
      obtain ⟨v_10, g9, F⟩ := F
      refine J_iald dX2_becomeLike_46 g9 ?_
      obtain ⟨h_11, g9, F⟩ := F
      refine J_iast dX2_becomeLike_47 g9 ?_
      refine J_aload_n dX2_becomeLike_48 0 rfl ?_
      obtain ⟨p_12, g9, F⟩ := F
      refine J_get (ci := 2) (k := 3) dX2_becomeLike_49 rfl in_X2_becomeLike_2 (by decide) lk_X2_becomeLike_21 g9 ?_
      refine J_iload_n dX2_becomeLike_52 2 rfl ?_
      refine J_aload_n dX2_becomeLike_53 1 rfl ?_
      obtain ⟨p_13, g9, F⟩ := F
      refine J_get (ci := 2) (k := 3) dX2_becomeLike_54 rfl in_X2_becomeLike_2 (by decide) lk_X2_becomeLike_21 g9 ?_
      refine J_iload_n dX2_becomeLike_57 2 rfl ?_
      obtain ⟨v_14, g9, F⟩ := F
      refine J_iald dX2_becomeLike_58 g9 ?_
      obtain ⟨h_15, g9, F⟩ := F
      refine J_iast dX2_becomeLike_59 g9 ?_
      refine J_iinc (v := i_4 + nI 1) (lv' := [(2, .int (i_4 + nI 1)), (0, .ref a0), (1, .ref x1)]) dX2_becomeLike_60 2 rfl rfl (by decide) rfl ?_
      refine J_goto (tgt := 28) dX2_becomeLike_63 (by decide) ?_
      exact J_sub [1, 2, 0] rfl F
  · replace F := F.2 c
    refine J_aload_n dX2_becomeLike_8 0 rfl ?_
    obtain ⟨p_16, g9, F⟩ := F
    refine J_get (ci := 2) (k := 1) dX2_becomeLike_9 rfl in_X2_becomeLike_2 (by decide) lk_X2_becomeLike_11 g9 ?_
    refine J_iload_n dX2_becomeLike_12 2 rfl ?_
    refine J_aload_n dX2_becomeLike_13 1 rfl ?_
    obtain ⟨p_17, g9, F⟩ := F
    refine J_get (ci := 2) (k := 1) dX2_becomeLike_14 rfl in_X2_becomeLike_2 (by decide) lk_X2_becomeLike_11 g9 ?_
    refine J_iload_n dX2_becomeLike_17 2 rfl ?_
    obtain ⟨o_18, g9, F⟩ := F
    refine J_aald (t := 4) dX2_becomeLike_18 rfl g9 ?_
    obtain ⟨z9, F⟩ := F
    obtain ⟨h_19, g9, F⟩ := F
    refine J_aastq (t := 4) (ci := 1) dX2_becomeLike_19 rfl rfl z9 g9 ?_
    refine J_iinc (v := i_1 + nI 1) (lv' := [(2, .int (i_1 + nI 1)), (0, .ref a0), (1, .ref x1)]) dX2_becomeLike_20 2 rfl rfl (by decide) rfl ?_
    refine J_goto (tgt := 2) dX2_becomeLike_23 (by decide) ?_
    exact J_sub [1, 2, 0] rfl F

abbrev mX2_countEntries (l : Launch) (K : Kx) (As : List Value) (h : Hp) (Post : Rs → Hp → Prop) : Prop := MX l K yX2_countEntries wsX2_countEntries 1 22 0 0 As h Post
set_option maxRecDepth 100000 in
set_option maxHeartbeats 4000000 in
theorem fX2_countEntries {l : Launch} {K : Kx} {a0 : Nat} {h : Hp} {Post : Rs → Hp → Prop} (htr : l.stackTraces = false)
    (F : (∀ X_4 : Int32 → Int32 → Hp → Prop, (∀ (i_1 : Int32) (i_2 : Int32) (h_3 : Hp), ((((nI 16) ≤ i_2 → (Post (.inl (some (.int i_1))) h_3)) ∧ (¬ (nI 16) ≤ i_2 → (∃ p_5, gf h_3 a0 2 1 = some (.ref p_5) ∧ (∃ o_6, aQ K 4 h_3 p_5 i_2 = some o_6 ∧ (∃ a_7, o_6 = some a_7 ∧ ((∃ fs, h_3 a_7 = some (xO 1 fs)) ∧ mX1_countEntries l K [.ref a_7] h_3 (kI (fun v_9 h_8 => X_4 (i_1 + v_9) (i_2 + nI 1) h_8))))))))) → X_4 i_1 i_2 h_3) → X_4 (nI 0) (nI 0) h)) :
    mX2_countEntries l K [.ref a0] h Post := by
  refine MX.enter htr (by decide) rfl (Nat.le_of_ble_eq_true rfl) ?_
  refine J_lveq (lv' := [(0, .ref a0)]) rfl ?_
  refine J_iconst (v := nI 0) dX2_countEntries_0 (by decide) ?_
  refine J_istore_n (lv' := [(1, .int (nI 0)), (0, .ref a0)]) dX2_countEntries_1 rfl (by decide) rfl ?_
  refine J_iconst (v := nI 0) dX2_countEntries_2 (by decide) ?_
  refine J_istore_n (lv' := [(2, .int (nI 0)), (1, .int (nI 0)), (0, .ref a0)]) dX2_countEntries_3 rfl (by decide) rfl ?_
  refine J_sub [2, 1, 0] rfl ?_
  refine F (fun (i_1 : Int32) (i_2 : Int32) (h_3 : Hp) => J l K yX2_countEntries.cls cX2_countEntries 3 (some .int) wsX2_countEntries [] yX2_countEntries.name 1 22 0 0 (QM K 0 0 Post) 4 [] [(0, .ref a0), (1, .int i_1), (2, .int i_2)] h_3 0 0) ?_
  intro i_1 i_2 h_3 F
  refine J_iload_n dX2_countEntries_4 2 rfl ?_
  refine J_bipush (v := nI 16) dX2_countEntries_5 (by decide) ?_
  refine J_icmp_ge (tgt := 28) dX2_countEntries_7 (by decide) (fun c => ?_) (fun c => ?_)
  · replace F := F.1 c
    refine J_iload_n dX2_countEntries_28 1 rfl ?_
    exact J_iret dX2_countEntries_29 rfl (Nat.le_refl _) (Nat.le_refl _) F
  · replace F := F.2 c
    refine J_iload_n dX2_countEntries_10 1 rfl ?_
    refine J_aload_n dX2_countEntries_11 0 rfl ?_
    obtain ⟨p_5, g9, F⟩ := F
    refine J_get (ci := 2) (k := 1) dX2_countEntries_12 rfl in_X2_countEntries_2 (by decide) lk_X2_countEntries_11 g9 ?_
    refine J_iload_n dX2_countEntries_15 2 rfl ?_
    obtain ⟨o_6, g9, F⟩ := F
    refine J_aald (t := 4) dX2_countEntries_16 rfl g9 ?_
    obtain ⟨a_7, hq9, F⟩ := F
    rw [hq9]
    obtain ⟨b9, F⟩ := F
    refine J_callV0 (ci := 1) (n := 0) (As := []) (rest := [.int i_1]) dX2_countEntries_17 rfl gX2_countEntries_X1_countEntries rfl (by decide +kernel) rfl (by decide) b9 (Nat.le_of_ble_eq_true rfl) (Nat.le_refl _) (Nat.le_refl _) F kI_no (kI_kk (fun v_9 h_8 F => ?_))
    refine J_iadd dX2_countEntries_20 ?_
    refine J_istore_n (lv' := [(1, .int (i_1 + v_9)), (0, .ref a0), (2, .int i_2)]) dX2_countEntries_21 rfl (by decide) rfl ?_
    refine J_iinc (v := i_2 + nI 1) (lv' := [(2, .int (i_2 + nI 1)), (1, .int (i_1 + v_9)), (0, .ref a0)]) dX2_countEntries_22 2 rfl rfl (by decide) rfl ?_
    refine J_goto (tgt := 4) dX2_countEntries_25 (by decide) ?_
    exact J_sub [2, 1, 0] rfl F

abbrev mX2_countEntriesOf (l : Launch) (K : Kx) (As : List Value) (h : Hp) (Post : Rs → Hp → Prop) : Prop := MX l K yX2_countEntriesOf wsX2_countEntriesOf 1 23 0 0 As h Post
set_option maxRecDepth 100000 in
set_option maxHeartbeats 4000000 in
theorem fX2_countEntriesOf {l : Launch} {K : Kx} {a0 : Nat} {x1 : Int32} {h : Hp} {Post : Rs → Hp → Prop} (htr : l.stackTraces = false)
    (F : (∀ X_4 : Int32 → Int32 → Hp → Prop, (∀ (i_1 : Int32) (i_2 : Int32) (h_3 : Hp), ((((nI 16) ≤ i_2 → (Post (.inl (some (.int i_1))) h_3)) ∧ (¬ (nI 16) ≤ i_2 → (∃ p_5, gf h_3 a0 2 1 = some (.ref p_5) ∧ (∃ o_6, aQ K 4 h_3 p_5 i_2 = some o_6 ∧ (∃ a_7, o_6 = some a_7 ∧ ((∃ fs, h_3 a_7 = some (xO 1 fs)) ∧ mX1_countEntriesOf l K [.ref a_7, .int x1] h_3 (kI (fun v_9 h_8 => X_4 (i_1 + v_9) (i_2 + nI 1) h_8))))))))) → X_4 i_1 i_2 h_3) → X_4 (nI 0) (nI 0) h)) :
    mX2_countEntriesOf l K [.ref a0, .int x1] h Post := by
  refine MX.enter htr (by decide) rfl (Nat.le_of_ble_eq_true rfl) ?_
  refine J_lveq (lv' := [(0, .ref a0), (1, .int x1)]) rfl ?_
  refine J_iconst (v := nI 0) dX2_countEntriesOf_0 (by decide) ?_
  refine J_istore_n (lv' := [(2, .int (nI 0)), (0, .ref a0), (1, .int x1)]) dX2_countEntriesOf_1 rfl (by decide) rfl ?_
  refine J_iconst (v := nI 0) dX2_countEntriesOf_2 (by decide) ?_
  refine J_istore_n (lv' := [(3, .int (nI 0)), (2, .int (nI 0)), (0, .ref a0), (1, .int x1)]) dX2_countEntriesOf_3 rfl (by decide) rfl ?_
  refine J_sub [2, 3, 1, 0] rfl ?_
  refine F (fun (i_1 : Int32) (i_2 : Int32) (h_3 : Hp) => J l K yX2_countEntriesOf.cls cX2_countEntriesOf 4 (some .int) wsX2_countEntriesOf [] yX2_countEntriesOf.name 1 23 0 0 (QM K 0 0 Post) 4 [] [(0, .ref a0), (1, .int x1), (2, .int i_1), (3, .int i_2)] h_3 0 0) ?_
  intro i_1 i_2 h_3 F
  refine J_iload_n dX2_countEntriesOf_4 3 rfl ?_
  refine J_bipush (v := nI 16) dX2_countEntriesOf_5 (by decide) ?_
  refine J_icmp_ge (tgt := 29) dX2_countEntriesOf_7 (by decide) (fun c => ?_) (fun c => ?_)
  · replace F := F.1 c
    refine J_iload_n dX2_countEntriesOf_29 2 rfl ?_
    exact J_iret dX2_countEntriesOf_30 rfl (Nat.le_refl _) (Nat.le_refl _) F
  · replace F := F.2 c
    refine J_iload_n dX2_countEntriesOf_10 2 rfl ?_
    refine J_aload_n dX2_countEntriesOf_11 0 rfl ?_
    obtain ⟨p_5, g9, F⟩ := F
    refine J_get (ci := 2) (k := 1) dX2_countEntriesOf_12 rfl in_X2_countEntriesOf_2 (by decide) lk_X2_countEntriesOf_11 g9 ?_
    refine J_iload_n dX2_countEntriesOf_15 3 rfl ?_
    obtain ⟨o_6, g9, F⟩ := F
    refine J_aald (t := 4) dX2_countEntriesOf_16 rfl g9 ?_
    refine J_iload_n dX2_countEntriesOf_17 1 rfl ?_
    obtain ⟨a_7, hq9, F⟩ := F
    rw [hq9]
    obtain ⟨b9, F⟩ := F
    refine J_callV0 (ci := 1) (n := 1) (As := [.int x1]) (rest := [.int i_1]) dX2_countEntriesOf_18 rfl gX2_countEntriesOf_X1_countEntriesOf rfl (by decide +kernel) rfl (by decide) b9 (Nat.le_of_ble_eq_true rfl) (Nat.le_refl _) (Nat.le_refl _) F kI_no (kI_kk (fun v_9 h_8 F => ?_))
    refine J_iadd dX2_countEntriesOf_21 ?_
    refine J_istore_n (lv' := [(2, .int (i_1 + v_9)), (0, .ref a0), (1, .int x1), (3, .int i_2)]) dX2_countEntriesOf_22 rfl (by decide) rfl ?_
    refine J_iinc (v := i_2 + nI 1) (lv' := [(3, .int (i_2 + nI 1)), (2, .int (i_1 + v_9)), (0, .ref a0), (1, .int x1)]) dX2_countEntriesOf_23 3 rfl rfl (by decide) rfl ?_
    refine J_goto (tgt := 4) dX2_countEntriesOf_26 (by decide) ?_
    exact J_sub [2, 3, 1, 0] rfl F

abbrev mX2_countNumbers (l : Launch) (K : Kx) (As : List Value) (h : Hp) (Post : Rs → Hp → Prop) : Prop := MX l K yX2_countNumbers wsX2_countNumbers 1 22 0 0 As h Post
set_option maxRecDepth 100000 in
set_option maxHeartbeats 4000000 in
theorem fX2_countNumbers {l : Launch} {K : Kx} {a0 : Nat} {h : Hp} {Post : Rs → Hp → Prop} (htr : l.stackTraces = false)
    (F : (∀ X_4 : Int32 → Int32 → Hp → Prop, (∀ (i_1 : Int32) (i_2 : Int32) (h_3 : Hp), ((((nI 16) ≤ i_2 → (Post (.inl (some (.int i_1))) h_3)) ∧ (¬ (nI 16) ≤ i_2 → (∃ p_5, gf h_3 a0 2 1 = some (.ref p_5) ∧ (∃ o_6, aQ K 4 h_3 p_5 i_2 = some o_6 ∧ (∃ a_7, o_6 = some a_7 ∧ ((∃ fs, h_3 a_7 = some (xO 1 fs)) ∧ mX1_countNumbers l K [.ref a_7] h_3 (kI (fun v_9 h_8 => X_4 (i_1 + v_9) (i_2 + nI 1) h_8))))))))) → X_4 i_1 i_2 h_3) → X_4 (nI 0) (nI 0) h)) :
    mX2_countNumbers l K [.ref a0] h Post := by
  refine MX.enter htr (by decide) rfl (Nat.le_of_ble_eq_true rfl) ?_
  refine J_lveq (lv' := [(0, .ref a0)]) rfl ?_
  refine J_iconst (v := nI 0) dX2_countNumbers_0 (by decide) ?_
  refine J_istore_n (lv' := [(1, .int (nI 0)), (0, .ref a0)]) dX2_countNumbers_1 rfl (by decide) rfl ?_
  refine J_iconst (v := nI 0) dX2_countNumbers_2 (by decide) ?_
  refine J_istore_n (lv' := [(2, .int (nI 0)), (1, .int (nI 0)), (0, .ref a0)]) dX2_countNumbers_3 rfl (by decide) rfl ?_
  refine J_sub [2, 1, 0] rfl ?_
  refine F (fun (i_1 : Int32) (i_2 : Int32) (h_3 : Hp) => J l K yX2_countNumbers.cls cX2_countNumbers 3 (some .int) wsX2_countNumbers [] yX2_countNumbers.name 1 22 0 0 (QM K 0 0 Post) 4 [] [(0, .ref a0), (1, .int i_1), (2, .int i_2)] h_3 0 0) ?_
  intro i_1 i_2 h_3 F
  refine J_iload_n dX2_countNumbers_4 2 rfl ?_
  refine J_bipush (v := nI 16) dX2_countNumbers_5 (by decide) ?_
  refine J_icmp_ge (tgt := 28) dX2_countNumbers_7 (by decide) (fun c => ?_) (fun c => ?_)
  · replace F := F.1 c
    refine J_iload_n dX2_countNumbers_28 1 rfl ?_
    exact J_iret dX2_countNumbers_29 rfl (Nat.le_refl _) (Nat.le_refl _) F
  · replace F := F.2 c
    refine J_iload_n dX2_countNumbers_10 1 rfl ?_
    refine J_aload_n dX2_countNumbers_11 0 rfl ?_
    obtain ⟨p_5, g9, F⟩ := F
    refine J_get (ci := 2) (k := 1) dX2_countNumbers_12 rfl in_X2_countNumbers_2 (by decide) lk_X2_countNumbers_11 g9 ?_
    refine J_iload_n dX2_countNumbers_15 2 rfl ?_
    obtain ⟨o_6, g9, F⟩ := F
    refine J_aald (t := 4) dX2_countNumbers_16 rfl g9 ?_
    obtain ⟨a_7, hq9, F⟩ := F
    rw [hq9]
    obtain ⟨b9, F⟩ := F
    refine J_callV0 (ci := 1) (n := 0) (As := []) (rest := [.int i_1]) dX2_countNumbers_17 rfl gX2_countNumbers_X1_countNumbers rfl (by decide +kernel) rfl (by decide) b9 (Nat.le_of_ble_eq_true rfl) (Nat.le_refl _) (Nat.le_refl _) F kI_no (kI_kk (fun v_9 h_8 F => ?_))
    refine J_iadd dX2_countNumbers_20 ?_
    refine J_istore_n (lv' := [(1, .int (i_1 + v_9)), (0, .ref a0), (2, .int i_2)]) dX2_countNumbers_21 rfl (by decide) rfl ?_
    refine J_iinc (v := i_2 + nI 1) (lv' := [(2, .int (i_2 + nI 1)), (1, .int (i_1 + v_9)), (0, .ref a0)]) dX2_countNumbers_22 2 rfl rfl (by decide) rfl ?_
    refine J_goto (tgt := 4) dX2_countNumbers_25 (by decide) ?_
    exact J_sub [2, 1, 0] rfl F

abbrev mX2_countPagesInUse (l : Launch) (K : Kx) (As : List Value) (h : Hp) (Post : Rs → Hp → Prop) : Prop := MX l K yX2_countPagesInUse wsX2_countPagesInUse 1 22 0 0 As h Post
set_option maxRecDepth 100000 in
set_option maxHeartbeats 4000000 in
theorem fX2_countPagesInUse {l : Launch} {K : Kx} {a0 : Nat} {h : Hp} {Post : Rs → Hp → Prop} (htr : l.stackTraces = false)
    (F : (∀ X_4 : Int32 → Int32 → Hp → Prop, (∀ (i_1 : Int32) (i_2 : Int32) (h_3 : Hp), ((((nI 16) ≤ i_2 → (Post (.inl (some (.int i_1))) h_3)) ∧ (¬ (nI 16) ≤ i_2 → (∃ p_5, gf h_3 a0 2 1 = some (.ref p_5) ∧ (∃ o_6, aQ K 4 h_3 p_5 i_2 = some o_6 ∧ (∃ a_7, o_6 = some a_7 ∧ ((∃ fs, h_3 a_7 = some (xO 1 fs)) ∧ mX1_countEntries l K [.ref a_7] h_3 (kI (fun v_9 h_8 => ((v_9 ≤ nI 0 → X_4 i_1 (i_2 + nI 1) h_8) ∧ (¬ v_9 ≤ nI 0 → X_4 (i_1 + nI 1) (i_2 + nI 1) h_8))))))))))) → X_4 i_1 i_2 h_3) → X_4 (nI 0) (nI 0) h)) :
    mX2_countPagesInUse l K [.ref a0] h Post := by
  refine MX.enter htr (by decide) rfl (Nat.le_of_ble_eq_true rfl) ?_
  refine J_lveq (lv' := [(0, .ref a0)]) rfl ?_
  refine J_iconst (v := nI 0) dX2_countPagesInUse_0 (by decide) ?_
  refine J_istore_n (lv' := [(1, .int (nI 0)), (0, .ref a0)]) dX2_countPagesInUse_1 rfl (by decide) rfl ?_
  refine J_iconst (v := nI 0) dX2_countPagesInUse_2 (by decide) ?_
  refine J_istore_n (lv' := [(2, .int (nI 0)), (1, .int (nI 0)), (0, .ref a0)]) dX2_countPagesInUse_3 rfl (by decide) rfl ?_
  refine J_sub [2, 1, 0] rfl ?_
  refine F (fun (i_1 : Int32) (i_2 : Int32) (h_3 : Hp) => J l K yX2_countPagesInUse.cls cX2_countPagesInUse 3 (some .int) wsX2_countPagesInUse [] yX2_countPagesInUse.name 1 22 0 0 (QM K 0 0 Post) 4 [] [(0, .ref a0), (1, .int i_1), (2, .int i_2)] h_3 0 0) ?_
  intro i_1 i_2 h_3 F
  refine J_iload_n dX2_countPagesInUse_4 2 rfl ?_
  refine J_bipush (v := nI 16) dX2_countPagesInUse_5 (by decide) ?_
  refine J_icmp_ge (tgt := 31) dX2_countPagesInUse_7 (by decide) (fun c => ?_) (fun c => ?_)
  · replace F := F.1 c
    refine J_iload_n dX2_countPagesInUse_31 1 rfl ?_
    exact J_iret dX2_countPagesInUse_32 rfl (Nat.le_refl _) (Nat.le_refl _) F
  · replace F := F.2 c
    refine J_aload_n dX2_countPagesInUse_10 0 rfl ?_
    obtain ⟨p_5, g9, F⟩ := F
    refine J_get (ci := 2) (k := 1) dX2_countPagesInUse_11 rfl in_X2_countPagesInUse_2 (by decide) lk_X2_countPagesInUse_11 g9 ?_
    refine J_iload_n dX2_countPagesInUse_14 2 rfl ?_
    obtain ⟨o_6, g9, F⟩ := F
    refine J_aald (t := 4) dX2_countPagesInUse_15 rfl g9 ?_
    obtain ⟨a_7, hq9, F⟩ := F
    rw [hq9]
    obtain ⟨b9, F⟩ := F
    refine J_callV0 (ci := 1) (n := 0) (As := []) (rest := []) dX2_countPagesInUse_16 rfl gX2_countPagesInUse_X1_countEntries rfl (by decide +kernel) rfl (by decide) b9 (Nat.le_of_ble_eq_true rfl) (Nat.le_refl _) (Nat.le_refl _) F kI_no (kI_kk (fun v_9 h_8 F => ?_))
    refine J_if_le (tgt := 25) dX2_countPagesInUse_19 (by decide) (fun c => ?_) (fun c => ?_)
    · replace F := F.1 c
      refine J_iinc (v := i_2 + nI 1) (lv' := [(2, .int (i_2 + nI 1)), (0, .ref a0), (1, .int i_1)]) dX2_countPagesInUse_25 2 rfl rfl (by decide) rfl ?_
      refine J_goto (tgt := 4) dX2_countPagesInUse_28 (by decide) ?_
      exact J_sub [1, 2, 0] rfl F
    · replace F := F.2 c
      refine J_iinc (v := i_1 + nI 1) (lv' := [(1, .int (i_1 + nI 1)), (0, .ref a0), (2, .int i_2)]) dX2_countPagesInUse_22 1 rfl rfl (by decide) rfl ?_
      refine J_iinc (v := i_2 + nI 1) (lv' := [(2, .int (i_2 + nI 1)), (1, .int (i_1 + nI 1)), (0, .ref a0)]) dX2_countPagesInUse_25 2 rfl rfl (by decide) rfl ?_
      refine J_goto (tgt := 4) dX2_countPagesInUse_28 (by decide) ?_
      exact J_sub [2, 1, 0] rfl F

abbrev mX2_countShared (l : Launch) (K : Kx) (As : List Value) (h : Hp) (Post : Rs → Hp → Prop) : Prop := MX l K yX2_countShared wsX2_countShared 1 20 0 0 As h Post
set_option maxRecDepth 100000 in
set_option maxHeartbeats 4000000 in
theorem fX2_countShared {l : Launch} {K : Kx} {a0 : Nat} {h : Hp} {Post : Rs → Hp → Prop} (htr : l.stackTraces = false)
    (F : (∀ X_4 : Int32 → Int32 → Hp → Prop, (∀ (i_1 : Int32) (i_2 : Int32) (h_3 : Hp), ((((nI 16) ≤ i_2 → (Post (.inl (some (.int i_1))) h_3)) ∧ (¬ (nI 16) ≤ i_2 → (∃ p_5, gf h_3 a0 2 1 = some (.ref p_5) ∧ (∃ o_6, aQ K 4 h_3 p_5 i_2 = some o_6 ∧ (∃ a_7, o_6 = some a_7 ∧ ((∃ fs, h_3 a_7 = some (xO 1 fs)) ∧ mX1_isShared l K [.ref a_7] h_3 (kI (fun v_9 h_8 => ((v_9 = nI 0 → X_4 i_1 (i_2 + nI 1) h_8) ∧ (¬ v_9 = nI 0 → X_4 (i_1 + nI 1) (i_2 + nI 1) h_8))))))))))) → X_4 i_1 i_2 h_3) → X_4 (nI 0) (nI 0) h)) :
    mX2_countShared l K [.ref a0] h Post := by
  refine MX.enter htr (by decide) rfl (Nat.le_of_ble_eq_true rfl) ?_
  refine J_lveq (lv' := [(0, .ref a0)]) rfl ?_
  refine J_iconst (v := nI 0) dX2_countShared_0 (by decide) ?_
  refine J_istore_n (lv' := [(1, .int (nI 0)), (0, .ref a0)]) dX2_countShared_1 rfl (by decide) rfl ?_
  refine J_iconst (v := nI 0) dX2_countShared_2 (by decide) ?_
  refine J_istore_n (lv' := [(2, .int (nI 0)), (1, .int (nI 0)), (0, .ref a0)]) dX2_countShared_3 rfl (by decide) rfl ?_
  refine J_sub [2, 1, 0] rfl ?_
  refine F (fun (i_1 : Int32) (i_2 : Int32) (h_3 : Hp) => J l K yX2_countShared.cls cX2_countShared 3 (some .int) wsX2_countShared [] yX2_countShared.name 1 20 0 0 (QM K 0 0 Post) 4 [] [(0, .ref a0), (1, .int i_1), (2, .int i_2)] h_3 0 0) ?_
  intro i_1 i_2 h_3 F
  refine J_iload_n dX2_countShared_4 2 rfl ?_
  refine J_bipush (v := nI 16) dX2_countShared_5 (by decide) ?_
  refine J_icmp_ge (tgt := 31) dX2_countShared_7 (by decide) (fun c => ?_) (fun c => ?_)
  · replace F := F.1 c
    refine J_iload_n dX2_countShared_31 1 rfl ?_
    exact J_iret dX2_countShared_32 rfl (Nat.le_refl _) (Nat.le_refl _) F
  · replace F := F.2 c
    refine J_aload_n dX2_countShared_10 0 rfl ?_
    obtain ⟨p_5, g9, F⟩ := F
    refine J_get (ci := 2) (k := 1) dX2_countShared_11 rfl in_X2_countShared_2 (by decide) lk_X2_countShared_11 g9 ?_
    refine J_iload_n dX2_countShared_14 2 rfl ?_
    obtain ⟨o_6, g9, F⟩ := F
    refine J_aald (t := 4) dX2_countShared_15 rfl g9 ?_
    obtain ⟨a_7, hq9, F⟩ := F
    rw [hq9]
    obtain ⟨b9, F⟩ := F
    refine J_callV0 (ci := 1) (n := 0) (As := []) (rest := []) dX2_countShared_16 rfl gX2_countShared_X1_isShared rfl (by decide +kernel) rfl (by decide) b9 (Nat.le_of_ble_eq_true rfl) (Nat.le_refl _) (Nat.le_refl _) F kI_no (kI_kk (fun v_9 h_8 F => ?_))
    refine J_if_eq (tgt := 25) dX2_countShared_19 (by decide) (fun c => ?_) (fun c => ?_)
    · replace F := F.1 c
      refine J_iinc (v := i_2 + nI 1) (lv' := [(2, .int (i_2 + nI 1)), (0, .ref a0), (1, .int i_1)]) dX2_countShared_25 2 rfl rfl (by decide) rfl ?_
      refine J_goto (tgt := 4) dX2_countShared_28 (by decide) ?_
      exact J_sub [1, 2, 0] rfl F
    · replace F := F.2 c
      refine J_iinc (v := i_1 + nI 1) (lv' := [(1, .int (i_1 + nI 1)), (0, .ref a0), (2, .int i_2)]) dX2_countShared_22 1 rfl rfl (by decide) rfl ?_
      refine J_iinc (v := i_2 + nI 1) (lv' := [(2, .int (i_2 + nI 1)), (1, .int (i_1 + nI 1)), (0, .ref a0)]) dX2_countShared_25 2 rfl rfl (by decide) rfl ?_
      refine J_goto (tgt := 4) dX2_countShared_28 (by decide) ?_
      exact J_sub [2, 1, 0] rfl F

abbrev mX3_pageNumber (l : Launch) (K : Kx) (As : List Value) (h : Hp) (Post : Rs → Hp → Prop) : Prop := MX l K yX3_pageNumber wsX3_pageNumber 0 0 0 0 As h Post
set_option maxRecDepth 100000 in
set_option maxHeartbeats 4000000 in
theorem fX3_pageNumber {l : Launch} {K : Kx} {x1 : Int32} {x2 : Int64} {x3 : Int32} {h : Hp} {Post : Rs → Hp → Prop} (htr : l.stackTraces = false)
    (F : (Post (.inl (some (.int ((((((x2.toInt32 ^^^ (((x2.toUInt64 >>> ((nI 32).toInt64.toUInt64 &&& Int64.toUInt64 63)).toInt64).toInt32)) * (nI 31)) + x3) * (nI 31)) + x1) &&& (nI 15))))) h)) :
    mX3_pageNumber l K [.int x1, .long x2, .int x3] h Post := by
  refine MX.enter htr (by decide) rfl (Nat.le_of_ble_eq_true rfl) ?_
  refine J_lveq (lv' := [(0, .int x1), (1, .long x2), (3, .int x3)]) rfl ?_
  refine J_lload_n dX3_pageNumber_0 1 rfl ?_
  refine J_l2i dX3_pageNumber_1 ?_
  refine J_lload_n dX3_pageNumber_2 1 rfl ?_
  refine J_bipush (v := nI 32) dX3_pageNumber_3 (by decide) ?_
  refine J_lushr dX3_pageNumber_5 ?_
  refine J_l2i dX3_pageNumber_6 ?_
  refine J_ixor dX3_pageNumber_7 ?_
  refine J_istore (lv' := [(4, .int (x2.toInt32 ^^^ (((x2.toUInt64 >>> ((nI 32).toInt64.toUInt64 &&& Int64.toUInt64 63)).toInt64).toInt32))), (0, .int x1), (1, .long x2), (3, .int x3)]) dX3_pageNumber_8 (by decide) rfl ?_
  refine J_iload dX3_pageNumber_10 0 rfl ?_
  refine J_bipush (v := nI 31) dX3_pageNumber_12 (by decide) ?_
  refine J_imul dX3_pageNumber_14 ?_
  refine J_iload_n dX3_pageNumber_15 3 rfl ?_
  refine J_iadd dX3_pageNumber_16 ?_
  refine J_bipush (v := nI 31) dX3_pageNumber_17 (by decide) ?_
  refine J_imul dX3_pageNumber_19 ?_
  refine J_iload_n dX3_pageNumber_20 1 rfl ?_
  refine J_iadd dX3_pageNumber_21 ?_
  refine J_bipush (v := nI 15) dX3_pageNumber_22 (by decide) ?_
  refine J_iand dX3_pageNumber_24 ?_
  exact J_iret dX3_pageNumber_25 rfl (Nat.le_refl _) (Nat.le_refl _) F

abbrev mX2_entryOf (l : Launch) (K : Kx) (mc ms : Nat) (As : List Value) (h : Hp) (Post : Rs → Hp → Prop) : Prop := MX l K yX2_entryOf wsX2_entryOf 2 84 mc ms As h Post
set_option maxRecDepth 100000 in
set_option maxHeartbeats 4000000 in
theorem fX2_entryOf {l : Launch} {K : Kx} {mc ms : Nat} {a0 : Nat} {x1 : Int32} {x2 : Int64} {x3 : Int32} {h : Hp} {Post : Rs → Hp → Prop} (htr : l.stackTraces = false)
    (F : (∃ p_1, gf h a0 2 1 = some (.ref p_1) ∧ (0 + 0 ≤ mc ∧ 0 + 0 ≤ ms ∧ mX3_pageNumber l K [.int x1, .long x2, .int x3] h (kI (fun v_3 h_2 => (∃ o_4, aQ K 4 h_2 p_1 v_3 = some o_4 ∧ (∃ a_5, o_4 = some a_5 ∧ ((∃ fs, h_2 a_5 = some (xO 1 fs)) ∧ ((0 + 0) + 0 ≤ mc ∧ (0 + 0) + 0 ≤ ms ∧ mX1_rowOf l K [.ref a_5, .int x1, .long x2, .int x3] h_2 (kI (fun v_7 h_6 => ((¬ v_7 = (-nI 1) → (∃ p_8, gf h_6 a_5 1 0 = some (.ref p_8) ∧ (∃ o_9, aQ K 3 h_6 p_8 v_7 = some o_9 ∧ ((((0 + 0) + 0) ≤ mc ∧ ((0 + 0) + 0) ≤ ms) ∧ Post (.inl (some (va_rf o_9))) h_6)))) ∧ (v_7 = (-nI 1) → (((0 + 0) + 0) + 1 ≤ mc ∧ ((0 + 0) + 0) + 6 ≤ ms ∧ ∀ (q_10 : Nat) (h_11 : Hp), h_6 q_10 = none → kB K ≤ q_10 → h_11 = va_up h_6 q_10 (some (xO 0 [.int 0, .long 0, .int 0, .null, .null, .int 0])) → ((((0 + 0) + 0) + 1) + 0 ≤ mc ∧ (((0 + 0) + 0) + 6) + 0 ≤ ms ∧ mX0_init l K [.ref q_10, .int x1, .long x2, .int x3] h_11 (kV (fun h_12 => ((((((0 + 0) + 0) + 1) + 0) ≤ mc ∧ ((((0 + 0) + 0) + 6) + 0) ≤ ms) ∧ Post (.inl (some (.ref q_10))) h_12)))))))))))))))))) :
    mX2_entryOf l K mc ms [.ref a0, .int x1, .long x2, .int x3] h Post := by
  refine MX.enter htr (by decide) rfl (Nat.le_of_ble_eq_true rfl) ?_
  refine J_lveq (lv' := [(0, .ref a0), (1, .int x1), (2, .long x2), (4, .int x3)]) rfl ?_
  refine J_aload_n dX2_entryOf_0 0 rfl ?_
  obtain ⟨p_1, g9, F⟩ := F
  refine J_get (ci := 2) (k := 1) dX2_entryOf_1 rfl in_X2_entryOf_2 (by decide) lk_X2_entryOf_11 g9 ?_
  refine J_iload_n dX2_entryOf_4 1 rfl ?_
  refine J_lload_n dX2_entryOf_5 2 rfl ?_
  refine J_iload dX2_entryOf_6 3 rfl ?_
  obtain ⟨k9, w9, F⟩ := F
  refine J_callSN (host := "KeyStates") (n := 3) (As := [.int x1, .long x2, .int x3]) (rest := [.ref p_1]) dX2_entryOf_8 gX2_entryOf_X3_pageNumber_n38 rfl wd_X2_entryOf_iRX3 (by decide) wd_X2_entryOf_st_X3_pageNumber (by decide +kernel) rfl (by decide) (Nat.le_of_ble_eq_true rfl) k9 w9 F kI_no (kI_kk (fun v_3 h_2 F => ?_))
  obtain ⟨o_4, g9, F⟩ := F
  refine J_aald (t := 4) dX2_entryOf_11 rfl g9 ?_
  refine J_astoreq (lv' := [(5, va_rf o_4), (0, .ref a0), (1, .int x1), (2, .long x2), (4, .int x3)]) dX2_entryOf_12 (by decide) rfl ?_
  refine J_aloadq dX2_entryOf_14 0 rfl ?_
  refine J_iload_n dX2_entryOf_16 2 rfl ?_
  refine J_lload_n dX2_entryOf_17 3 rfl ?_
  refine J_iload dX2_entryOf_18 4 rfl ?_
  obtain ⟨a_5, hq9, F⟩ := F
  rw [hq9]
  obtain ⟨b9, F⟩ := F
  obtain ⟨k9, w9, F⟩ := F
  refine J_callV0 (ci := 1) (n := 3) (As := [.int x1, .long x2, .int x3]) (rest := []) dX2_entryOf_20 rfl gX2_entryOf_X1_rowOf rfl (by decide +kernel) rfl (by decide) b9 (Nat.le_of_ble_eq_true rfl) k9 w9 F kI_no (kI_kk (fun v_7 h_6 F => ?_))
  refine J_istore (lv' := [(6, .int v_7), (5, .ref a_5), (0, .ref a0), (1, .int x1), (2, .long x2), (4, .int x3)]) dX2_entryOf_23 (by decide) rfl ?_
  refine J_iload dX2_entryOf_25 0 rfl ?_
  refine J_iconst (v := -nI 1) dX2_entryOf_27 (by decide) ?_
  refine J_icmp_ne (tgt := 45) dX2_entryOf_28 (by decide) (fun c => ?_) (fun c => ?_)
  · replace F := F.1 c
    refine J_aload dX2_entryOf_45 1 rfl ?_
    obtain ⟨p_8, g9, F⟩ := F
    refine J_get (ci := 1) (k := 0) dX2_entryOf_47 rfl in_X2_entryOf_1 (by decide) lk_X2_entryOf_50 g9 ?_
    refine J_iload dX2_entryOf_50 0 rfl ?_
    obtain ⟨o_9, g9, F⟩ := F
    refine J_aald (t := 3) dX2_entryOf_52 rfl g9 ?_
    obtain ⟨k9, F⟩ := F
    exact J_aret (x := o_9) dX2_entryOf_53 rfl (Or.inl ⟨_, rfl⟩) k9.1 k9.2 F
  · replace F := F.2 c
    obtain ⟨k9, w9, F⟩ := F
    refine J_new (ci := 0) (fs := [.int 0, .long 0, .int 0, .null, .null, .int 0]) dX2_entryOf_31 rfl in_X2_entryOf_0 tyX0 tyX0_ok wd_X2_entryOf_k45 wd_X2_entryOf_n0 wd_X2_entryOf_i0 dfX0 k9 w9 (fun q_10 h9 i9 => ?_)
    replace F := F q_10 _ h9 i9 rfl
    generalize va_up h_6 q_10 (some (xO 0 [.int 0, .long 0, .int 0, .null, .null, .int 0])) = h_11 at F ⊢
    refine J_dup dX2_entryOf_34 (rfl) ?_
    refine J_iload_n dX2_entryOf_35 3 rfl ?_
    refine J_lload_n dX2_entryOf_36 4 rfl ?_
    refine J_iload dX2_entryOf_37 5 rfl ?_
    obtain ⟨k9, w9, F⟩ := F
    refine J_callI (n := 3) (As := [.int x1, .long x2, .int x3]) (rest := [.ref q_10]) dX2_entryOf_39 gX2_entryOf_X0_init rfl wd_X2_entryOf_iRX0 wd_X2_entryOf_ml47 wd_X2_entryOf_im_X0_init rfl (by decide +kernel) rfl (by decide) (Nat.le_of_ble_eq_true rfl) k9 w9 F kV_no (kV_kk (fun h_12 F => ?_))
    refine J_goto (tgt := 53) dX2_entryOf_42 (by decide) ?_
    obtain ⟨k9, F⟩ := F
    exact J_aret (x := some q_10) dX2_entryOf_53 rfl (Or.inl ⟨_, rfl⟩) k9.1 k9.2 F

abbrev mX2_init (l : Launch) (K : Kx) (mc ms : Nat) (As : List Value) (h : Hp) (Post : Rs → Hp → Prop) : Prop := MX l K yX2_init wsX2_init 2 80 mc ms As h Post
set_option maxRecDepth 100000 in
set_option maxHeartbeats 4000000 in
theorem fX2_init {l : Launch} {K : Kx} {mc ms : Nat} {a0 : Nat} {h : Hp} {Post : Rs → Hp → Prop} (htr : l.stackTraces = false)
    (F : (∃ N_3, nI 16 = nI N_3 ∧ N_3 ≤ 60000000 ∧ 0 + 1 ≤ mc ∧ 0 + N_3 ≤ ms ∧ ∀ (q_1 : Nat) (h_2 : Hp), h q_1 = none → kB K ≤ q_1 → h_2 = va_up h q_1 (some (xQ K 4 N_3 (fun _ => none))) → (∃ h_4, pf h_2 a0 2 1 (.ref q_1) = some h_4 ∧ (∃ N_7, nI 8 = nI N_7 ∧ N_7 ≤ 60000000 ∧ (0 + 1) + 1 ≤ mc ∧ (0 + N_3) + N_7 ≤ ms ∧ ∀ (q_5 : Nat) (h_6 : Hp), h_4 q_5 = none → kB K ≤ q_5 → h_6 = va_up h_4 q_5 (some (xI K N_7 (fun _ => 0))) → (∃ h_8, pf h_6 a0 2 2 (.ref q_5) = some h_8 ∧ (∃ N_11, nI 8 = nI N_11 ∧ N_11 ≤ 60000000 ∧ ((0 + 1) + 1) + 1 ≤ mc ∧ ((0 + N_3) + N_7) + N_11 ≤ ms ∧ ∀ (q_9 : Nat) (h_10 : Hp), h_8 q_9 = none → kB K ≤ q_9 → h_10 = va_up h_8 q_9 (some (xI K N_11 (fun _ => 0))) → (∃ h_12, pf h_10 a0 2 3 (.ref q_9) = some h_12 ∧ (∃ h_13, pf h_12 a0 2 4 (.int (nI 0)) = some h_13 ∧ (∃ h_14, pf h_13 a0 2 0 (.int (-nI 1)) = some h_14 ∧ (∀ X_19 : Int32 → Hp → Nat → Nat → Prop, (∀ (i_15 : Int32) (h_16 : Hp) (kc_17 : Nat) (ks_18 : Nat), ((((nI 16) ≤ i_15 → ((kc_17 ≤ mc ∧ ks_18 ≤ ms) ∧ Post (.inl none) h_16)) ∧ (¬ (nI 16) ≤ i_15 → (∃ p_20, gf h_16 a0 2 1 = some (.ref p_20) ∧ (kc_17 + 1 ≤ mc ∧ ks_18 + 2 ≤ ms ∧ ∀ (q_21 : Nat) (h_22 : Hp), h_16 q_21 = none → kB K ≤ q_21 → h_22 = va_up h_16 q_21 (some (xO 1 [.null, .int 0])) → (∃ c_24 w_25, (kc_17 + 1) + c_24 ≤ mc ∧ (ks_18 + 2) + w_25 ≤ ms ∧ mX1_init l K c_24 w_25 [.ref q_21] h_22 (kV (fun h_23 => ((∃ fs, h_23 q_21 = some (xO 1 fs)) ∧ ∃ h_26, wQ K 4 h_23 p_20 i_15 (some q_21) = some h_26 ∧ X_19 (i_15 + nI 1) h_26 ((kc_17 + 1) + c_24) ((ks_18 + 2) + w_25)))))))))) → X_19 i_15 h_16 kc_17 ks_18) → X_19 (nI 0) h_14 (((0 + 1) + 1) + 1) (((0 + N_3) + N_7) + N_11))))))))))) :
    mX2_init l K mc ms [.ref a0] h Post := by
  refine MX.enter htr (by decide) rfl (Nat.le_of_ble_eq_true rfl) ?_
  refine J_lveq (lv' := [(0, .ref a0)]) rfl ?_
  refine J_aload_n dX2_init_0 0 rfl ?_
  refine J_objInit dX2_init_1 wd_X2_init_m3 wd_X2_init_oi wd_X2_init_oc (by decide) (Nat.le_of_ble_eq_true rfl) ?_
  refine J_aload_n dX2_init_4 0 rfl ?_
  refine J_bipush (v := nI 16) dX2_init_5 (by decide) ?_
  obtain ⟨N_3, e9, b9, k9, w9, F⟩ := F
  refine J_anew (t := 4) (N' := N_3) dX2_init_7 wd_X2_init_k9 rfl (fun U k9 => k9.2.2.2.2.2.2.2.2.2.2.1) e9 b9 k9 w9 (fun q_1 h9 i9 => ?_)
  replace F := F q_1 _ h9 i9 rfl
  generalize va_up h q_1 (some (xQ K 4 N_3 (fun _ => none))) = h_2 at F ⊢
  obtain ⟨h_4, g9, F⟩ := F
  refine J_putF (ci := 2) (k := 1) dX2_init_10 rfl in_X2_init_2 tyX2 tyX2_ok nmX2 (by decide) lk_X2_init_11 rfl rfl rfl rfl rfl rfl g9 ?_
  refine J_aload_n dX2_init_13 0 rfl ?_
  refine J_bipush (v := nI 8) dX2_init_14 (by decide) ?_
  obtain ⟨N_7, e9, b9, k9, w9, F⟩ := F
  refine J_newa (t := 0) (N' := N_7) (a0 := (N_7, .inl (fun _ => 0))) dX2_init_16 wd_X2_init_a0 rfl rfl ra_i (fun _ => rfl) e9 b9 (by decide) k9 w9 (fun q_5 h9 i9 => ?_)
  replace F := F q_5 _ h9 i9 rfl
  generalize va_up h_4 q_5 (some (xI K N_7 (fun _ => 0))) = h_6 at F ⊢
  obtain ⟨h_8, g9, F⟩ := F
  refine J_putF (ci := 2) (k := 2) dX2_init_18 rfl in_X2_init_2 tyX2 tyX2_ok nmX2 (by decide) lk_X2_init_17 rfl rfl rfl rfl rfl rfl g9 ?_
  refine J_aload_n dX2_init_21 0 rfl ?_
  refine J_bipush (v := nI 8) dX2_init_22 (by decide) ?_
  obtain ⟨N_11, e9, b9, k9, w9, F⟩ := F
  refine J_newa (t := 0) (N' := N_11) (a0 := (N_11, .inl (fun _ => 0))) dX2_init_24 wd_X2_init_a0 rfl rfl ra_i (fun _ => rfl) e9 b9 (by decide) k9 w9 (fun q_9 h9 i9 => ?_)
  replace F := F q_9 _ h9 i9 rfl
  generalize va_up h_8 q_9 (some (xI K N_11 (fun _ => 0))) = h_10 at F ⊢
  obtain ⟨h_12, g9, F⟩ := F
  refine J_putF (ci := 2) (k := 3) dX2_init_26 rfl in_X2_init_2 tyX2 tyX2_ok nmX2 (by decide) lk_X2_init_21 rfl rfl rfl rfl rfl rfl g9 ?_
  refine J_aload_n dX2_init_29 0 rfl ?_
  refine J_iconst (v := nI 0) dX2_init_30 (by decide) ?_
  obtain ⟨h_13, g9, F⟩ := F
  refine J_put (ci := 2) (k := 4) dX2_init_31 rfl in_X2_init_2 tyX2 tyX2_ok nmX2 (by decide) lk_X2_init_24 rfl rfl rfl rfl g9 ?_
  refine J_aload_n dX2_init_34 0 rfl ?_
  refine J_iconst (v := -nI 1) dX2_init_35 (by decide) ?_
  obtain ⟨h_14, g9, F⟩ := F
  refine J_putF (ci := 2) (k := 0) dX2_init_36 rfl in_X2_init_2 tyX2 tyX2_ok nmX2 (by decide) lk_X2_init_28 rfl rfl rfl rfl rfl rfl g9 ?_
  refine J_iconst (v := nI 0) dX2_init_39 (by decide) ?_
  refine J_istore_n (lv' := [(1, .int (nI 0)), (0, .ref a0)]) dX2_init_40 rfl (by decide) rfl ?_
  refine J_sub [1, 0] rfl ?_
  refine F (fun (i_15 : Int32) (h_16 : Hp) (kc_17 : Nat) (ks_18 : Nat) => J l K yX2_init.cls cX2_init 2 none wsX2_init [] yX2_init.name 2 80 mc ms (QM K mc ms Post) 41 [] [(0, .ref a0), (1, .int i_15)] h_16 kc_17 ks_18) ?_
  intro i_15 h_16 kc_17 ks_18 F
  refine J_iload_n dX2_init_41 1 rfl ?_
  refine J_bipush (v := nI 16) dX2_init_42 (by decide) ?_
  refine J_icmp_ge (tgt := 66) dX2_init_44 (by decide) (fun c => ?_) (fun c => ?_)
  · replace F := F.1 c
    obtain ⟨k9, F⟩ := F
    exact J_vret dX2_init_66 rfl k9.1 k9.2 F
  · replace F := F.2 c
    refine J_aload_n dX2_init_47 0 rfl ?_
    obtain ⟨p_20, g9, F⟩ := F
    refine J_get (ci := 2) (k := 1) dX2_init_48 rfl in_X2_init_2 (by decide) lk_X2_init_11 g9 ?_
    refine J_iload_n dX2_init_51 1 rfl ?_
    obtain ⟨k9, w9, F⟩ := F
    refine J_new (ci := 1) (fs := [.null, .int 0]) dX2_init_52 rfl in_X2_init_1 tyX1 tyX1_ok wd_X2_init_k9 wd_X2_init_n1 wd_X2_init_i1 dfX1 k9 w9 (fun q_21 h9 i9 => ?_)
    replace F := F q_21 _ h9 i9 rfl
    generalize va_up h_16 q_21 (some (xO 1 [.null, .int 0])) = h_22 at F ⊢
    refine J_dup dX2_init_55 (rfl) ?_
    obtain ⟨c_24, w_25, k9, w9, F⟩ := F
    refine J_callIN (host := "KeyStates") (n := 0) (As := []) (rest := [.ref q_21, .int i_15, .ref p_20]) dX2_init_56 gX2_init_X1_init_n31 rfl wd_X2_init_iRX1 (by decide) wd_X2_init_im_X1_init rfl (by decide +kernel) rfl (by decide) (Nat.le_of_ble_eq_true rfl) k9 w9 F kV_no (kV_kk (fun h_23 F => ?_))
    obtain ⟨z9, F⟩ := F
    obtain ⟨h_26, g9, F⟩ := F
    refine J_aast (t := 4) (ci := 1) dX2_init_59 rfl rfl z9 g9 ?_
    refine J_iinc (v := i_15 + nI 1) (lv' := [(1, .int (i_15 + nI 1)), (0, .ref a0)]) dX2_init_60 1 rfl rfl (by decide) rfl ?_
    refine J_goto (tgt := 41) dX2_init_63 (by decide) ?_
    exact J_sub [1, 0] rfl F

abbrev mX2_init_ (l : Launch) (K : Kx) (mc ms : Nat) (As : List Value) (h : Hp) (Post : Rs → Hp → Prop) : Prop := MX l K yX2_init_ wsX2_init_ 1 60 mc ms As h Post
set_option maxRecDepth 100000 in
set_option maxHeartbeats 4000000 in
theorem fX2_init_ {l : Launch} {K : Kx} {mc ms : Nat} {a0 : Nat} {x1 : Nat} {x2 : Int32} {h : Hp} {Post : Rs → Hp → Prop} (htr : l.stackTraces = false)
    (F : (∃ N_3, nI 16 = nI N_3 ∧ N_3 ≤ 60000000 ∧ 0 + 1 ≤ mc ∧ 0 + N_3 ≤ ms ∧ ∀ (q_1 : Nat) (h_2 : Hp), h q_1 = none → kB K ≤ q_1 → h_2 = va_up h q_1 (some (xQ K 4 N_3 (fun _ => none))) → (∃ h_4, pf h_2 a0 2 1 (.ref q_1) = some h_4 ∧ (∃ N_7, nI 8 = nI N_7 ∧ N_7 ≤ 60000000 ∧ (0 + 1) + 1 ≤ mc ∧ (0 + N_3) + N_7 ≤ ms ∧ ∀ (q_5 : Nat) (h_6 : Hp), h_4 q_5 = none → kB K ≤ q_5 → h_6 = va_up h_4 q_5 (some (xI K N_7 (fun _ => 0))) → (∃ h_8, pf h_6 a0 2 2 (.ref q_5) = some h_8 ∧ (∃ N_11, nI 8 = nI N_11 ∧ N_11 ≤ 60000000 ∧ ((0 + 1) + 1) + 1 ≤ mc ∧ ((0 + N_3) + N_7) + N_11 ≤ ms ∧ ∀ (q_9 : Nat) (h_10 : Hp), h_8 q_9 = none → kB K ≤ q_9 → h_10 = va_up h_8 q_9 (some (xI K N_11 (fun _ => 0))) → (∃ h_12, pf h_10 a0 2 3 (.ref q_9) = some h_12 ∧ (∃ h_13, pf h_12 a0 2 4 (.int (nI 0)) = some h_13 ∧ (∃ h_14, pf h_13 a0 2 0 (.int x2) = some h_14 ∧ (∃ v_15, gf h_14 x1 2 4 = some (.int v_15) ∧ (∃ h_16, pf h_14 a0 2 4 (.int v_15) = some h_16 ∧ (∀ X_21 : Int32 → Hp → Nat → Nat → Prop, (∀ (i_17 : Int32) (h_18 : Hp) (kc_19 : Nat) (ks_20 : Nat), ((((nI 16) ≤ i_17 → (∀ X_26 : Int32 → Hp → Nat → Nat → Prop, (∀ (i_22 : Int32) (h_23 : Hp) (kc_24 : Nat) (ks_25 : Nat), ((((nI 8) ≤ i_22 → ((kc_24 ≤ mc ∧ ks_25 ≤ ms) ∧ Post (.inl none) h_23)) ∧ (¬ (nI 8) ≤ i_22 → (∃ p_27, gf h_23 a0 2 2 = some (.ref p_27) ∧ (∃ p_28, gf h_23 x1 2 2 = some (.ref p_28) ∧ (∃ v_29, aI K h_23 p_28 i_22 = some v_29 ∧ (∃ h_30, wI K h_23 p_27 i_22 v_29 = some h_30 ∧ (∃ p_31, gf h_30 a0 2 3 = some (.ref p_31) ∧ (∃ p_32, gf h_30 x1 2 3 = some (.ref p_32) ∧ (∃ v_33, aI K h_30 p_32 i_22 = some v_33 ∧ (∃ h_34, wI K h_30 p_31 i_22 v_33 = some h_34 ∧ X_26 (i_22 + nI 1) h_34 kc_24 ks_25))))))))))) → X_26 i_22 h_23 kc_24 ks_25) → X_26 (nI 0) h_18 kc_19 ks_20)) ∧ (¬ (nI 16) ≤ i_17 → (∃ p_35, gf h_18 a0 2 1 = some (.ref p_35) ∧ (∃ p_36, gf h_18 x1 2 1 = some (.ref p_36) ∧ (∃ o_37, aQ K 4 h_18 p_36 i_17 = some o_37 ∧ ((∀ v9, o_37 = some v9 → ∃ fs, h_18 v9 = some (xO 1 fs)) ∧ ∃ h_38, wQ K 4 h_18 p_35 i_17 o_37 = some h_38 ∧ X_21 (i_17 + nI 1) h_38 kc_19 ks_20))))))) → X_21 i_17 h_18 kc_19 ks_20) → X_21 (nI 0) h_16 (((0 + 1) + 1) + 1) (((0 + N_3) + N_7) + N_11))))))))))))) :
    mX2_init_ l K mc ms [.ref a0, .ref x1, .int x2] h Post := by
  refine MX.enter htr (by decide) rfl (Nat.le_of_ble_eq_true rfl) ?_
  refine J_lveq (lv' := [(0, .ref a0), (1, .ref x1), (2, .int x2)]) rfl ?_
  refine J_aload_n dX2_init__0 0 rfl ?_
  refine J_objInit dX2_init__1 wd_X2_init__m3 wd_X2_init__oi wd_X2_init__oc (by decide) (Nat.le_of_ble_eq_true rfl) ?_
  refine J_aload_n dX2_init__4 0 rfl ?_
  refine J_bipush (v := nI 16) dX2_init__5 (by decide) ?_
  obtain ⟨N_3, e9, b9, k9, w9, F⟩ := F
  refine J_anew (t := 4) (N' := N_3) dX2_init__7 wd_X2_init__k9 rfl (fun U k9 => k9.2.2.2.2.2.2.2.2.2.2.1) e9 b9 k9 w9 (fun q_1 h9 i9 => ?_)
  replace F := F q_1 _ h9 i9 rfl
  generalize va_up h q_1 (some (xQ K 4 N_3 (fun _ => none))) = h_2 at F ⊢
  obtain ⟨h_4, g9, F⟩ := F
  refine J_putF (ci := 2) (k := 1) dX2_init__10 rfl in_X2_init__2 tyX2 tyX2_ok nmX2 (by decide) lk_X2_init__11 rfl rfl rfl rfl rfl rfl g9 ?_
  refine J_aload_n dX2_init__13 0 rfl ?_
  refine J_bipush (v := nI 8) dX2_init__14 (by decide) ?_
  obtain ⟨N_7, e9, b9, k9, w9, F⟩ := F
  refine J_newa (t := 0) (N' := N_7) (a0 := (N_7, .inl (fun _ => 0))) dX2_init__16 wd_X2_init__a0 rfl rfl ra_i (fun _ => rfl) e9 b9 (by decide) k9 w9 (fun q_5 h9 i9 => ?_)
  replace F := F q_5 _ h9 i9 rfl
  generalize va_up h_4 q_5 (some (xI K N_7 (fun _ => 0))) = h_6 at F ⊢
  obtain ⟨h_8, g9, F⟩ := F
  refine J_putF (ci := 2) (k := 2) dX2_init__18 rfl in_X2_init__2 tyX2 tyX2_ok nmX2 (by decide) lk_X2_init__17 rfl rfl rfl rfl rfl rfl g9 ?_
  refine J_aload_n dX2_init__21 0 rfl ?_
  refine J_bipush (v := nI 8) dX2_init__22 (by decide) ?_
  obtain ⟨N_11, e9, b9, k9, w9, F⟩ := F
  refine J_newa (t := 0) (N' := N_11) (a0 := (N_11, .inl (fun _ => 0))) dX2_init__24 wd_X2_init__a0 rfl rfl ra_i (fun _ => rfl) e9 b9 (by decide) k9 w9 (fun q_9 h9 i9 => ?_)
  replace F := F q_9 _ h9 i9 rfl
  generalize va_up h_8 q_9 (some (xI K N_11 (fun _ => 0))) = h_10 at F ⊢
  obtain ⟨h_12, g9, F⟩ := F
  refine J_putF (ci := 2) (k := 3) dX2_init__26 rfl in_X2_init__2 tyX2 tyX2_ok nmX2 (by decide) lk_X2_init__21 rfl rfl rfl rfl rfl rfl g9 ?_
  refine J_aload_n dX2_init__29 0 rfl ?_
  refine J_iconst (v := nI 0) dX2_init__30 (by decide) ?_
  obtain ⟨h_13, g9, F⟩ := F
  refine J_put (ci := 2) (k := 4) dX2_init__31 rfl in_X2_init__2 tyX2 tyX2_ok nmX2 (by decide) lk_X2_init__24 rfl rfl rfl rfl g9 ?_
  refine J_aload_n dX2_init__34 0 rfl ?_
  refine J_iload_n dX2_init__35 2 rfl ?_
  obtain ⟨h_14, g9, F⟩ := F
  refine J_putF (ci := 2) (k := 0) dX2_init__36 rfl in_X2_init__2 tyX2 tyX2_ok nmX2 (by decide) lk_X2_init__28 rfl rfl rfl rfl rfl rfl g9 ?_
  refine J_aload_n dX2_init__39 0 rfl ?_
  refine J_aload_n dX2_init__40 1 rfl ?_
  obtain ⟨v_15, g9, F⟩ := F
  refine J_get (ci := 2) (k := 4) dX2_init__41 rfl in_X2_init__2 (by decide) lk_X2_init__24 g9 ?_
  obtain ⟨h_16, g9, F⟩ := F
  refine J_put (ci := 2) (k := 4) dX2_init__44 rfl in_X2_init__2 tyX2 tyX2_ok nmX2 (by decide) lk_X2_init__24 rfl rfl rfl rfl g9 ?_
  refine J_iconst (v := nI 0) dX2_init__47 (by decide) ?_
  refine J_istore_n (lv' := [(3, .int (nI 0)), (0, .ref a0), (1, .ref x1), (2, .int x2)]) dX2_init__48 rfl (by decide) rfl ?_
  refine J_sub [1, 2, 0] rfl ?_
  refine F (fun (i_17 : Int32) (h_18 : Hp) (kc_19 : Nat) (ks_20 : Nat) => J l K yX2_init_.cls cX2_init_ 4 none wsX2_init_ [] yX2_init_.name 1 60 mc ms (QM K mc ms Post) 49 [] [(0, .ref a0), (1, .ref x1), (3, .int i_17)] h_18 kc_19 ks_20) ?_
  intro i_17 h_18 kc_19 ks_20 F
  refine J_iload_n dX2_init__49 2 rfl ?_
  refine J_bipush (v := nI 16) dX2_init__50 (by decide) ?_
  refine J_icmp_ge (tgt := 73) dX2_init__52 (by decide) (fun c => ?_) (fun c => ?_)
  · replace F := F.1 c
    refine J_iconst (v := nI 0) dX2_init__73 (by decide) ?_
    refine J_istore_n (lv' := [(3, .int (nI 0)), (0, .ref a0), (1, .ref x1)]) dX2_init__74 rfl (by decide) rfl ?_
    refine J_sub [1, 2, 0] rfl ?_
    refine F (fun (i_22 : Int32) (h_23 : Hp) (kc_24 : Nat) (ks_25 : Nat) => J l K yX2_init_.cls cX2_init_ 4 none wsX2_init_ [] yX2_init_.name 1 60 mc ms (QM K mc ms Post) 75 [] [(0, .ref a0), (1, .ref x1), (3, .int i_22)] h_23 kc_24 ks_25) ?_
    intro i_22 h_23 kc_24 ks_25 F
    refine J_iload_n dX2_init__75 2 rfl ?_
    refine J_bipush (v := nI 8) dX2_init__76 (by decide) ?_
    refine J_icmp_ge (tgt := 111) dX2_init__78 (by decide) (fun c => ?_) (fun c => ?_)
    · replace F := F.1 c
      obtain ⟨k9, F⟩ := F
      exact J_vret dX2_init__111 rfl k9.1 k9.2 F
    · replace F := F.2 c
      refine J_aload_n dX2_init__81 0 rfl ?_
      obtain ⟨p_27, g9, F⟩ := F
      refine J_get (ci := 2) (k := 2) dX2_init__82 rfl in_X2_init__2 (by decide) lk_X2_init__17 g9 ?_
      refine J_iload_n dX2_init__85 2 rfl ?_
      refine J_aload_n dX2_init__86 1 rfl ?_
      obtain ⟨p_28, g9, F⟩ := F
      refine J_get (ci := 2) (k := 2) dX2_init__87 rfl in_X2_init__2 (by decide) lk_X2_init__17 g9 ?_
      refine J_iload_n dX2_init__90 2 rfl ?_
      obtain ⟨v_29, g9, F⟩ := F
      refine J_iald dX2_init__91 g9 ?_
      obtain ⟨h_30, g9, F⟩ := F
      refine J_iast dX2_init__92 g9 ?_
      refine J_aload_n dX2_init__93 0 rfl ?_
      obtain ⟨p_31, g9, F⟩ := F
      refine J_get (ci := 2) (k := 3) dX2_init__94 rfl in_X2_init__2 (by decide) lk_X2_init__21 g9 ?_
      refine J_iload_n dX2_init__97 2 rfl ?_
      refine J_aload_n dX2_init__98 1 rfl ?_
      obtain ⟨p_32, g9, F⟩ := F
      refine J_get (ci := 2) (k := 3) dX2_init__99 rfl in_X2_init__2 (by decide) lk_X2_init__21 g9 ?_
      refine J_iload_n dX2_init__102 2 rfl ?_
      obtain ⟨v_33, g9, F⟩ := F
      refine J_iald dX2_init__103 g9 ?_
      obtain ⟨h_34, g9, F⟩ := F
      refine J_iast dX2_init__104 g9 ?_
      refine J_iinc (v := i_22 + nI 1) (lv' := [(3, .int (i_22 + nI 1)), (0, .ref a0), (1, .ref x1)]) dX2_init__105 2 rfl rfl (by decide) rfl ?_
      refine J_goto (tgt := 75) dX2_init__108 (by decide) ?_
      exact J_sub [1, 2, 0] rfl F
  · replace F := F.2 c
    refine J_aload_n dX2_init__55 0 rfl ?_
    obtain ⟨p_35, g9, F⟩ := F
    refine J_get (ci := 2) (k := 1) dX2_init__56 rfl in_X2_init__2 (by decide) lk_X2_init__11 g9 ?_
    refine J_iload_n dX2_init__59 2 rfl ?_
    refine J_aload_n dX2_init__60 1 rfl ?_
    obtain ⟨p_36, g9, F⟩ := F
    refine J_get (ci := 2) (k := 1) dX2_init__61 rfl in_X2_init__2 (by decide) lk_X2_init__11 g9 ?_
    refine J_iload_n dX2_init__64 2 rfl ?_
    obtain ⟨o_37, g9, F⟩ := F
    refine J_aald (t := 4) dX2_init__65 rfl g9 ?_
    obtain ⟨z9, F⟩ := F
    obtain ⟨h_38, g9, F⟩ := F
    refine J_aastq (t := 4) (ci := 1) dX2_init__66 rfl rfl z9 g9 ?_
    refine J_iinc (v := i_17 + nI 1) (lv' := [(3, .int (i_17 + nI 1)), (0, .ref a0), (1, .ref x1)]) dX2_init__67 2 rfl rfl (by decide) rfl ?_
    refine J_goto (tgt := 49) dX2_init__70 (by decide) ?_
    exact J_sub [1, 2, 0] rfl F

abbrev mX2_releasePages (l : Launch) (K : Kx) (As : List Value) (h : Hp) (Post : Rs → Hp → Prop) : Prop := MX l K yX2_releasePages wsX2_releasePages 0 0 0 0 As h Post
set_option maxRecDepth 100000 in
set_option maxHeartbeats 4000000 in
theorem fX2_releasePages {l : Launch} {K : Kx} {a0 : Nat} {h : Hp} {Post : Rs → Hp → Prop} (htr : l.stackTraces = false)
    (F : (∀ X_3 : Int32 → Hp → Prop, (∀ (i_1 : Int32) (h_2 : Hp), ((((nI 16) ≤ i_1 → (Post (.inl none) h_2)) ∧ (¬ (nI 16) ≤ i_1 → (∃ p_4, gf h_2 a0 2 1 = some (.ref p_4) ∧ (∃ o_5, aQ K 4 h_2 p_4 i_1 = some o_5 ∧ (∃ a_6, o_5 = some a_6 ∧ (∃ v_7, gf h_2 a_6 1 1 = some (.int v_7) ∧ (∃ h_8, pf h_2 a_6 1 1 (.int (v_7 - (nI 1))) = some h_8 ∧ X_3 (i_1 + nI 1) h_8)))))))) → X_3 i_1 h_2) → X_3 (nI 0) h)) :
    mX2_releasePages l K [.ref a0] h Post := by
  refine MX.enter htr (by decide) rfl (Nat.le_of_ble_eq_true rfl) ?_
  refine J_lveq (lv' := [(0, .ref a0)]) rfl ?_
  refine J_iconst (v := nI 0) dX2_releasePages_0 (by decide) ?_
  refine J_istore_n (lv' := [(1, .int (nI 0)), (0, .ref a0)]) dX2_releasePages_1 rfl (by decide) rfl ?_
  refine J_sub [1, 0] rfl ?_
  refine F (fun (i_1 : Int32) (h_2 : Hp) => J l K yX2_releasePages.cls cX2_releasePages 2 none wsX2_releasePages [] yX2_releasePages.name 0 0 0 0 (QM K 0 0 Post) 2 [] [(0, .ref a0), (1, .int i_1)] h_2 0 0) ?_
  intro i_1 h_2 F
  refine J_iload_n dX2_releasePages_2 1 rfl ?_
  refine J_bipush (v := nI 16) dX2_releasePages_3 (by decide) ?_
  refine J_icmp_ge (tgt := 29) dX2_releasePages_5 (by decide) (fun c => ?_) (fun c => ?_)
  · replace F := F.1 c
    exact J_vret dX2_releasePages_29 rfl (Nat.le_refl _) (Nat.le_refl _) F
  · replace F := F.2 c
    refine J_aload_n dX2_releasePages_8 0 rfl ?_
    obtain ⟨p_4, g9, F⟩ := F
    refine J_get (ci := 2) (k := 1) dX2_releasePages_9 rfl in_X2_releasePages_2 (by decide) lk_X2_releasePages_11 g9 ?_
    refine J_iload_n dX2_releasePages_12 1 rfl ?_
    obtain ⟨o_5, g9, F⟩ := F
    refine J_aald (t := 4) dX2_releasePages_13 rfl g9 ?_
    refine J_dup dX2_releasePages_14 (rf_cat _) ?_
    obtain ⟨a_6, hq9, F⟩ := F
    rw [hq9]
    obtain ⟨v_7, g9, F⟩ := F
    refine J_get (ci := 1) (k := 1) dX2_releasePages_15 rfl in_X2_releasePages_1 (by decide) lk_X2_releasePages_35 g9 ?_
    refine J_iconst (v := nI 1) dX2_releasePages_18 (by decide) ?_
    refine J_isub dX2_releasePages_19 ?_
    obtain ⟨h_8, g9, F⟩ := F
    refine J_put (ci := 1) (k := 1) dX2_releasePages_20 rfl in_X2_releasePages_1 tyX1 tyX1_ok nmX1 (by decide) lk_X2_releasePages_35 rfl rfl rfl rfl g9 ?_
    refine J_iinc (v := i_1 + nI 1) (lv' := [(1, .int (i_1 + nI 1)), (0, .ref a0)]) dX2_releasePages_23 1 rfl rfl (by decide) rfl ?_
    refine J_goto (tgt := 2) dX2_releasePages_26 (by decide) ?_
    exact J_sub [1, 0] rfl F

abbrev mX2_taken (l : Launch) (K : Kx) (mc ms : Nat) (As : List Value) (h : Hp) (Post : Rs → Hp → Prop) : Prop := MX l K yX2_taken wsX2_taken 2 83 mc ms As h Post
set_option maxRecDepth 100000 in
set_option maxHeartbeats 4000000 in
theorem fX2_taken {l : Launch} {K : Kx} {mc ms : Nat} {a0 : Nat} {x1 : Int32} {h : Hp} {Post : Rs → Hp → Prop} (htr : l.stackTraces = false)
    (F : (0 + 1 ≤ mc ∧ 0 + 5 ≤ ms ∧ ∀ (q_1 : Nat) (h_2 : Hp), h q_1 = none → kB K ≤ q_1 → h_2 = va_up h q_1 (some (xO 2 [.int 0, .null, .null, .null, .int 0])) → (∃ c_4 w_5, (0 + 1) + c_4 ≤ mc ∧ (0 + 5) + w_5 ≤ ms ∧ mX2_init_ l K c_4 w_5 [.ref q_1, .ref a0, .int x1] h_2 (kV (fun h_3 => (∀ X_10 : Int32 → Hp → Nat → Nat → Prop, (∀ (i_6 : Int32) (h_7 : Hp) (kc_8 : Nat) (ks_9 : Nat), ((((nI 16) ≤ i_6 → ((kc_8 ≤ mc ∧ ks_9 ≤ ms) ∧ Post (.inl (some (.ref q_1))) h_7)) ∧ (¬ (nI 16) ≤ i_6 → (∃ p_11, gf h_7 a0 2 1 = some (.ref p_11) ∧ (∃ o_12, aQ K 4 h_7 p_11 i_6 = some o_12 ∧ (∃ a_13, o_12 = some a_13 ∧ (∃ v_14, gf h_7 a_13 1 1 = some (.int v_14) ∧ (∃ h_15, pf h_7 a_13 1 1 (.int (v_14 + (nI 1))) = some h_15 ∧ X_10 (i_6 + nI 1) h_15 kc_8 ks_9)))))))) → X_10 i_6 h_7 kc_8 ks_9) → X_10 (nI 0) h_3 ((0 + 1) + c_4) ((0 + 5) + w_5))))))) :
    mX2_taken l K mc ms [.ref a0, .int x1] h Post := by
  refine MX.enter htr (by decide) rfl (Nat.le_of_ble_eq_true rfl) ?_
  refine J_lveq (lv' := [(0, .ref a0), (1, .int x1)]) rfl ?_
  obtain ⟨k9, w9, F⟩ := F
  refine J_new (ci := 2) (fs := [.int 0, .null, .null, .null, .int 0]) dX2_taken_0 rfl in_X2_taken_2 tyX2 tyX2_ok wd_X2_taken_k12 wd_X2_taken_n2 wd_X2_taken_i2 dfX2 k9 w9 (fun q_1 h9 i9 => ?_)
  replace F := F q_1 _ h9 i9 rfl
  generalize va_up h q_1 (some (xO 2 [.int 0, .null, .null, .null, .int 0])) = h_2 at F ⊢
  refine J_dup dX2_taken_3 (rfl) ?_
  refine J_aload_n dX2_taken_4 0 rfl ?_
  refine J_iload_n dX2_taken_5 1 rfl ?_
  obtain ⟨c_4, w_5, k9, w9, F⟩ := F
  refine J_callI (n := 2) (As := [.ref a0, .int x1]) (rest := [.ref q_1]) dX2_taken_6 gX2_taken_X2_init_ rfl wd_X2_taken_iRX2 wd_X2_taken_ml32 wd_X2_taken_im_X2_init_ rfl (by decide +kernel) rfl (by decide) (Nat.le_of_ble_eq_true rfl) k9 w9 F kV_no (kV_kk (fun h_3 F => ?_))
  refine J_astore_n (lv' := [(2, .ref q_1), (0, .ref a0), (1, .int x1)]) dX2_taken_9 rfl (by decide) rfl ?_
  refine J_iconst (v := nI 0) dX2_taken_10 (by decide) ?_
  refine J_istore_n (lv' := [(3, .int (nI 0)), (2, .ref q_1), (0, .ref a0), (1, .int x1)]) dX2_taken_11 rfl (by decide) rfl ?_
  refine J_sub [2, 1, 0] rfl ?_
  refine F (fun (i_6 : Int32) (h_7 : Hp) (kc_8 : Nat) (ks_9 : Nat) => J l K yX2_taken.cls cX2_taken 4 (some (.object "KeyStates$Picture")) wsX2_taken [] yX2_taken.name 2 83 mc ms (QM K mc ms Post) 12 [] [(0, .ref a0), (2, .ref q_1), (3, .int i_6)] h_7 kc_8 ks_9) ?_
  intro i_6 h_7 kc_8 ks_9 F
  refine J_iload_n dX2_taken_12 2 rfl ?_
  refine J_bipush (v := nI 16) dX2_taken_13 (by decide) ?_
  refine J_icmp_ge (tgt := 39) dX2_taken_15 (by decide) (fun c => ?_) (fun c => ?_)
  · replace F := F.1 c
    refine J_aload_n dX2_taken_39 1 rfl ?_
    obtain ⟨k9, F⟩ := F
    exact J_aret (x := some q_1) dX2_taken_40 rfl (Or.inl ⟨_, rfl⟩) k9.1 k9.2 F
  · replace F := F.2 c
    refine J_aload_n dX2_taken_18 0 rfl ?_
    obtain ⟨p_11, g9, F⟩ := F
    refine J_get (ci := 2) (k := 1) dX2_taken_19 rfl in_X2_taken_2 (by decide) lk_X2_taken_11 g9 ?_
    refine J_iload_n dX2_taken_22 2 rfl ?_
    obtain ⟨o_12, g9, F⟩ := F
    refine J_aald (t := 4) dX2_taken_23 rfl g9 ?_
    refine J_dup dX2_taken_24 (rf_cat _) ?_
    obtain ⟨a_13, hq9, F⟩ := F
    rw [hq9]
    obtain ⟨v_14, g9, F⟩ := F
    refine J_get (ci := 1) (k := 1) dX2_taken_25 rfl in_X2_taken_1 (by decide) lk_X2_taken_35 g9 ?_
    refine J_iconst (v := nI 1) dX2_taken_28 (by decide) ?_
    refine J_iadd dX2_taken_29 ?_
    obtain ⟨h_15, g9, F⟩ := F
    refine J_put (ci := 1) (k := 1) dX2_taken_30 rfl in_X2_taken_1 tyX1 tyX1_ok nmX1 (by decide) lk_X2_taken_35 rfl rfl rfl rfl g9 ?_
    refine J_iinc (v := i_6 + nI 1) (lv' := [(3, .int (i_6 + nI 1)), (0, .ref a0), (2, .ref q_1)]) dX2_taken_33 2 rfl rfl (by decide) rfl ?_
    refine J_goto (tgt := 12) dX2_taken_36 (by decide) ?_
    exact J_sub [1, 2, 0] rfl F

abbrev mX2_tellState (l : Launch) (K : Kx) (As : List Value) (h : Hp) (Post : Rs → Hp → Prop) : Prop := MX l K yX2_tellState wsX2_tellState 0 0 0 0 As h Post
set_option maxRecDepth 100000 in
set_option maxHeartbeats 4000000 in
theorem fX2_tellState {l : Launch} {K : Kx} {a0 : Nat} {x1 : Int32} {x2 : Int32} {h : Hp} {Post : Rs → Hp → Prop} (htr : l.stackTraces = false)
    (F : (∃ v_1, gf h a0 2 4 = some (.int v_1) ∧ (∃ p_2, gf h a0 2 2 = some (.ref p_2) ∧ (∃ h_3, wI K h p_2 v_1 x1 = some h_3 ∧ (∃ p_4, gf h_3 a0 2 3 = some (.ref p_4) ∧ (∃ h_5, wI K h_3 p_4 v_1 x2 = some h_5 ∧ (∃ v_6, gf h_5 a0 2 4 = some (.int v_6) ∧ (∃ h_7, pf h_5 a0 2 4 (.int (v_6 + (nI 1))) = some h_7 ∧ (Post (.inl (some (.int v_1))) h_7))))))))) :
    mX2_tellState l K [.ref a0, .int x1, .int x2] h Post := by
  refine MX.enter htr (by decide) rfl (Nat.le_of_ble_eq_true rfl) ?_
  refine J_lveq (lv' := [(0, .ref a0), (1, .int x1), (2, .int x2)]) rfl ?_
  refine J_aload_n dX2_tellState_0 0 rfl ?_
  obtain ⟨v_1, g9, F⟩ := F
  refine J_get (ci := 2) (k := 4) dX2_tellState_1 rfl in_X2_tellState_2 (by decide) lk_X2_tellState_24 g9 ?_
  refine J_istore_n (lv' := [(3, .int v_1), (0, .ref a0), (1, .int x1), (2, .int x2)]) dX2_tellState_4 rfl (by decide) rfl ?_
  refine J_aload_n dX2_tellState_5 1 rfl ?_
  obtain ⟨p_2, g9, F⟩ := F
  refine J_get (ci := 2) (k := 2) dX2_tellState_6 rfl in_X2_tellState_2 (by decide) lk_X2_tellState_17 g9 ?_
  refine J_iload_n dX2_tellState_9 0 rfl ?_
  refine J_iload_n dX2_tellState_10 2 rfl ?_
  obtain ⟨h_3, g9, F⟩ := F
  refine J_iast dX2_tellState_11 g9 ?_
  refine J_aload_n dX2_tellState_12 1 rfl ?_
  obtain ⟨p_4, g9, F⟩ := F
  refine J_get (ci := 2) (k := 3) dX2_tellState_13 rfl in_X2_tellState_2 (by decide) lk_X2_tellState_21 g9 ?_
  refine J_iload_n dX2_tellState_16 0 rfl ?_
  refine J_iload_n dX2_tellState_17 3 rfl ?_
  obtain ⟨h_5, g9, F⟩ := F
  refine J_iast dX2_tellState_18 g9 ?_
  refine J_aload_n dX2_tellState_19 1 rfl ?_
  refine J_dup dX2_tellState_20 (rfl) ?_
  obtain ⟨v_6, g9, F⟩ := F
  refine J_get (ci := 2) (k := 4) dX2_tellState_21 rfl in_X2_tellState_2 (by decide) lk_X2_tellState_24 g9 ?_
  refine J_iconst (v := nI 1) dX2_tellState_24 (by decide) ?_
  refine J_iadd dX2_tellState_25 ?_
  obtain ⟨h_7, g9, F⟩ := F
  refine J_put (ci := 2) (k := 4) dX2_tellState_26 rfl in_X2_tellState_2 tyX2 tyX2_ok nmX2 (by decide) lk_X2_tellState_24 rfl rfl rfl rfl g9 ?_
  refine J_iload_n dX2_tellState_29 0 rfl ?_
  exact J_iret dX2_tellState_30 rfl (Nat.le_refl _) (Nat.le_refl _) F

