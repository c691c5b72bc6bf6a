theorem dJ9_max_f86c9_0 : decode cJ9_max_f86c9 0 = .ok (.lload_n 0, 1) := by decide +kernel
theorem dJ9_max_f86c9_1 : decode cJ9_max_f86c9 1 = .ok (.lload_n 2, 1) := by decide +kernel
theorem dJ9_max_f86c9_2 : decode cJ9_max_f86c9 2 = .ok (.lcmp, 1) := by decide +kernel
theorem dJ9_max_f86c9_3 : decode cJ9_max_f86c9 3 = .ok (.ifCond .lt 7, 3) := by decide +kernel
theorem dJ9_max_f86c9_6 : decode cJ9_max_f86c9 6 = .ok (.lload_n 0, 1) := by decide +kernel
theorem dJ9_max_f86c9_7 : decode cJ9_max_f86c9 7 = .ok (.goto 4, 3) := by decide +kernel
theorem dJ9_max_f86c9_10 : decode cJ9_max_f86c9 10 = .ok (.lload_n 2, 1) := by decide +kernel
theorem dJ9_max_f86c9_11 : decode cJ9_max_f86c9 11 = .ok (.lreturn, 1) := by decide +kernel
theorem dJ9_min_7cf53_0 : decode cJ9_min_7cf53 0 = .ok (.iload_n 0, 1) := by decide +kernel
theorem dJ9_min_7cf53_1 : decode cJ9_min_7cf53 1 = .ok (.iload_n 1, 1) := by decide +kernel
theorem dJ9_min_7cf53_2 : decode cJ9_min_7cf53 2 = .ok (.if_icmp .gt 7, 3) := by decide +kernel
theorem dJ9_min_7cf53_5 : decode cJ9_min_7cf53 5 = .ok (.iload_n 0, 1) := by decide +kernel
theorem dJ9_min_7cf53_6 : decode cJ9_min_7cf53 6 = .ok (.goto 4, 3) := by decide +kernel
theorem dJ9_min_7cf53_9 : decode cJ9_min_7cf53 9 = .ok (.iload_n 1, 1) := by decide +kernel
theorem dJ9_min_7cf53_10 : decode cJ9_min_7cf53 10 = .ok (.ireturn, 1) := by decide +kernel
theorem dJ9_min_f86c9_0 : decode cJ9_min_f86c9 0 = .ok (.lload_n 0, 1) := by decide +kernel
theorem dJ9_min_f86c9_1 : decode cJ9_min_f86c9 1 = .ok (.lload_n 2, 1) := by decide +kernel
theorem dJ9_min_f86c9_2 : decode cJ9_min_f86c9 2 = .ok (.lcmp, 1) := by decide +kernel
theorem dJ9_min_f86c9_3 : decode cJ9_min_f86c9 3 = .ok (.ifCond .gt 7, 3) := by decide +kernel
theorem dJ9_min_f86c9_6 : decode cJ9_min_f86c9 6 = .ok (.lload_n 0, 1) := by decide +kernel
theorem dJ9_min_f86c9_7 : decode cJ9_min_f86c9 7 = .ok (.goto 4, 3) := by decide +kernel
theorem dJ9_min_f86c9_10 : decode cJ9_min_f86c9 10 = .ok (.lload_n 2, 1) := by decide +kernel
theorem dJ9_min_f86c9_11 : decode cJ9_min_f86c9 11 = .ok (.lreturn, 1) := by decide +kernel
theorem dJ7_copyOf_c38d5_0 : decode cJ7_copyOf_c38d5 0 = .ok (.iload_n 1, 1) := by decide +kernel
theorem dJ7_copyOf_c38d5_1 : decode cJ7_copyOf_c38d5 1 = .ok (.aload_n 0, 1) := by decide +kernel
theorem dJ7_copyOf_c38d5_2 : decode cJ7_copyOf_c38d5 2 = .ok (.arraylength, 1) := by decide +kernel
theorem dJ7_copyOf_c38d5_3 : decode cJ7_copyOf_c38d5 3 = .ok (.if_icmp .ne 11, 3) := by decide +kernel
theorem dJ7_copyOf_c38d5_6 : decode cJ7_copyOf_c38d5 6 = .ok (.aload_n 0, 1) := by decide +kernel
theorem dJ7_copyOf_c38d5_7 : decode cJ7_copyOf_c38d5 7 = .ok (.invokevirtual 319, 3) := by decide +kernel
theorem dJ7_copyOf_c38d5_10 : decode cJ7_copyOf_c38d5 10 = .ok (.checkcast 320, 3) := by decide +kernel
theorem dJ7_copyOf_c38d5_13 : decode cJ7_copyOf_c38d5 13 = .ok (.areturn, 1) := by decide +kernel
theorem dJ7_copyOf_c38d5_14 : decode cJ7_copyOf_c38d5 14 = .ok (.iload_n 1, 1) := by decide +kernel
theorem dJ7_copyOf_c38d5_15 : decode cJ7_copyOf_c38d5 15 = .ok (.newarray .long, 2) := by decide +kernel
theorem dJ7_copyOf_c38d5_17 : decode cJ7_copyOf_c38d5 17 = .ok (.astore_n 2, 1) := by decide +kernel
theorem dJ7_copyOf_c38d5_18 : decode cJ7_copyOf_c38d5 18 = .ok (.aload_n 0, 1) := by decide +kernel
theorem dJ7_copyOf_c38d5_19 : decode cJ7_copyOf_c38d5 19 = .ok (.iconst 0, 1) := by decide +kernel
theorem dJ7_copyOf_c38d5_20 : decode cJ7_copyOf_c38d5 20 = .ok (.aload_n 2, 1) := by decide +kernel
theorem dJ7_copyOf_c38d5_21 : decode cJ7_copyOf_c38d5 21 = .ok (.iconst 0, 1) := by decide +kernel
theorem dJ7_copyOf_c38d5_22 : decode cJ7_copyOf_c38d5 22 = .ok (.aload_n 0, 1) := by decide +kernel
theorem dJ7_copyOf_c38d5_23 : decode cJ7_copyOf_c38d5 23 = .ok (.arraylength, 1) := by decide +kernel
theorem dJ7_copyOf_c38d5_24 : decode cJ7_copyOf_c38d5 24 = .ok (.iload_n 1, 1) := by decide +kernel
theorem dJ7_copyOf_c38d5_25 : decode cJ7_copyOf_c38d5 25 = .ok (.invokestatic 304, 3) := by decide +kernel
theorem dJ7_copyOf_c38d5_28 : decode cJ7_copyOf_c38d5 28 = .ok (.invokestatic 150, 3) := by decide +kernel
theorem dJ7_copyOf_c38d5_31 : decode cJ7_copyOf_c38d5 31 = .ok (.aload_n 2, 1) := by decide +kernel
theorem dJ7_copyOf_c38d5_32 : decode cJ7_copyOf_c38d5 32 = .ok (.areturn, 1) := by decide +kernel
theorem dX0_init_0 : decode cX0_init 0 = .ok (.aload_n 0, 1) := by decide +kernel
theorem dX0_init_1 : decode cX0_init 1 = .ok (.invokespecial 3, 3) := by decide +kernel
theorem dX0_init_4 : decode cX0_init 4 = .ok (.aload_n 0, 1) := by decide +kernel
theorem dX0_init_5 : decode cX0_init 5 = .ok (.iload_n 1, 1) := by decide +kernel
theorem dX0_init_6 : decode cX0_init 6 = .ok (.putfield 9, 3) := by decide +kernel
theorem dX0_init_9 : decode cX0_init 9 = .ok (.aload_n 0, 1) := by decide +kernel
theorem dX0_init_10 : decode cX0_init 10 = .ok (.lload_n 2, 1) := by decide +kernel
theorem dX0_init_11 : decode cX0_init 11 = .ok (.putfield 15, 3) := by decide +kernel
theorem dX0_init_14 : decode cX0_init 14 = .ok (.aload_n 0, 1) := by decide +kernel
theorem dX0_init_15 : decode cX0_init 15 = .ok (.iload 4, 2) := by decide +kernel
theorem dX0_init_17 : decode cX0_init 17 = .ok (.putfield 19, 3) := by decide +kernel
theorem dX0_init_20 : decode cX0_init 20 = .ok (.aload_n 0, 1) := by decide +kernel
theorem dX0_init_21 : decode cX0_init 21 = .ok (.getstatic 22, 3) := by decide +kernel
theorem dX0_init_24 : decode cX0_init 24 = .ok (.putfield 26, 3) := by decide +kernel
theorem dX0_init_27 : decode cX0_init 27 = .ok (.aload_n 0, 1) := by decide +kernel
theorem dX0_init_28 : decode cX0_init 28 = .ok (.getstatic 22, 3) := by decide +kernel
theorem dX0_init_31 : decode cX0_init 31 = .ok (.putfield 29, 3) := by decide +kernel
theorem dX0_init_34 : decode cX0_init 34 = .ok (.aload_n 0, 1) := by decide +kernel
theorem dX0_init_35 : decode cX0_init 35 = .ok (.iconst 0, 1) := by decide +kernel
theorem dX0_init_36 : decode cX0_init 36 = .ok (.putfield 32, 3) := by decide +kernel
theorem dX0_init_39 : decode cX0_init 39 = .ok (.return_, 1) := by decide +kernel
theorem dX0_init__0 : decode cX0_init_ 0 = .ok (.aload_n 0, 1) := by decide +kernel
theorem dX0_init__1 : decode cX0_init_ 1 = .ok (.invokespecial 3, 3) := by decide +kernel
theorem dX0_init__4 : decode cX0_init_ 4 = .ok (.aload_n 0, 1) := by decide +kernel
theorem dX0_init__5 : decode cX0_init_ 5 = .ok (.aload_n 1, 1) := by decide +kernel
theorem dX0_init__6 : decode cX0_init_ 6 = .ok (.getfield 9, 3) := by decide +kernel
theorem dX0_init__9 : decode cX0_init_ 9 = .ok (.putfield 9, 3) := by decide +kernel
theorem dX0_init__12 : decode cX0_init_ 12 = .ok (.aload_n 0, 1) := by decide +kernel
theorem dX0_init__13 : decode cX0_init_ 13 = .ok (.aload_n 1, 1) := by decide +kernel
theorem dX0_init__14 : decode cX0_init_ 14 = .ok (.getfield 15, 3) := by decide +kernel
theorem dX0_init__17 : decode cX0_init_ 17 = .ok (.putfield 15, 3) := by decide +kernel
theorem dX0_init__20 : decode cX0_init_ 20 = .ok (.aload_n 0, 1) := by decide +kernel
theorem dX0_init__21 : decode cX0_init_ 21 = .ok (.aload_n 1, 1) := by decide +kernel
theorem dX0_init__22 : decode cX0_init_ 22 = .ok (.getfield 19, 3) := by decide +kernel
theorem dX0_init__25 : decode cX0_init_ 25 = .ok (.putfield 19, 3) := by decide +kernel
theorem dX0_init__28 : decode cX0_init_ 28 = .ok (.aload_n 0, 1) := by decide +kernel
theorem dX0_init__29 : decode cX0_init_ 29 = .ok (.aload_n 2, 1) := by decide +kernel
theorem dX0_init__30 : decode cX0_init_ 30 = .ok (.putfield 26, 3) := by decide +kernel
theorem dX0_init__33 : decode cX0_init_ 33 = .ok (.aload_n 0, 1) := by decide +kernel
theorem dX0_init__34 : decode cX0_init_ 34 = .ok (.aload_n 3, 1) := by decide +kernel
theorem dX0_init__35 : decode cX0_init_ 35 = .ok (.putfield 29, 3) := by decide +kernel
theorem dX0_init__38 : decode cX0_init_ 38 = .ok (.aload_n 0, 1) := by decide +kernel
theorem dX0_init__39 : decode cX0_init_ 39 = .ok (.iload 4, 2) := by decide +kernel
theorem dX0_init__41 : decode cX0_init_ 41 = .ok (.putfield 32, 3) := by decide +kernel
theorem dX0_init__44 : decode cX0_init_ 44 = .ok (.return_, 1) := by decide +kernel
theorem dX0_isNone_0 : decode cX0_isNone 0 = .ok (.aload_n 0, 1) := by decide +kernel
theorem dX0_isNone_1 : decode cX0_isNone 1 = .ok (.getfield 26, 3) := by decide +kernel
theorem dX0_isNone_4 : decode cX0_isNone 4 = .ok (.arraylength, 1) := by decide +kernel
theorem dX0_isNone_5 : decode cX0_isNone 5 = .ok (.ifCond .ne 7, 3) := by decide +kernel
theorem dX0_isNone_8 : decode cX0_isNone 8 = .ok (.iconst 1, 1) := by decide +kernel
theorem dX0_isNone_9 : decode cX0_isNone 9 = .ok (.goto 4, 3) := by decide +kernel
theorem dX0_isNone_12 : decode cX0_isNone 12 = .ok (.iconst 0, 1) := by decide +kernel
theorem dX0_isNone_13 : decode cX0_isNone 13 = .ok (.ireturn, 1) := by decide +kernel
theorem dX0_isAt_0 : decode cX0_isAt 0 = .ok (.aload_n 0, 1) := by decide +kernel
theorem dX0_isAt_1 : decode cX0_isAt 1 = .ok (.getfield 9, 3) := by decide +kernel
theorem dX0_isAt_4 : decode cX0_isAt 4 = .ok (.iload_n 1, 1) := by decide +kernel
theorem dX0_isAt_5 : decode cX0_isAt 5 = .ok (.if_icmp .ne 25, 3) := by decide +kernel
theorem dX0_isAt_8 : decode cX0_isAt 8 = .ok (.aload_n 0, 1) := by decide +kernel
theorem dX0_isAt_9 : decode cX0_isAt 9 = .ok (.getfield 15, 3) := by decide +kernel
theorem dX0_isAt_12 : decode cX0_isAt 12 = .ok (.lload_n 2, 1) := by decide +kernel
theorem dX0_isAt_13 : decode cX0_isAt 13 = .ok (.lcmp, 1) := by decide +kernel
theorem dX0_isAt_14 : decode cX0_isAt 14 = .ok (.ifCond .ne 16, 3) := by decide +kernel
theorem dX0_isAt_17 : decode cX0_isAt 17 = .ok (.aload_n 0, 1) := by decide +kernel
theorem dX0_isAt_18 : decode cX0_isAt 18 = .ok (.getfield 19, 3) := by decide +kernel
theorem dX0_isAt_21 : decode cX0_isAt 21 = .ok (.iload 4, 2) := by decide +kernel
theorem dX0_isAt_23 : decode cX0_isAt 23 = .ok (.if_icmp .ne 7, 3) := by decide +kernel
theorem dX0_isAt_26 : decode cX0_isAt 26 = .ok (.iconst 1, 1) := by decide +kernel
theorem dX0_isAt_27 : decode cX0_isAt 27 = .ok (.goto 4, 3) := by decide +kernel
theorem dX0_isAt_30 : decode cX0_isAt 30 = .ok (.iconst 0, 1) := by decide +kernel
theorem dX0_isAt_31 : decode cX0_isAt 31 = .ok (.ireturn, 1) := by decide +kernel
set_option maxRecDepth 20000 in
theorem ggX0_placeOf_X3_countBelow : GoodIn wsX0_placeOf wsX3_countBelow := goodIn_r _ [4] (by decide +kernel) (by decide +kernel)
set_option maxRecDepth 20000 in
theorem gX0_placeOf_X3_countBelow_n35 : GoodIn wsX0_placeOf (wsX3_countBelow) := ggX0_placeOf_X3_countBelow
theorem dX0_placeOf_0 : decode cX0_placeOf 0 = .ok (.aload_n 0, 1) := by decide +kernel
theorem dX0_placeOf_1 : decode cX0_placeOf 1 = .ok (.getfield 29, 3) := by decide +kernel
theorem dX0_placeOf_4 : decode cX0_placeOf 4 = .ok (.aload_n 0, 1) := by decide +kernel
theorem dX0_placeOf_5 : decode cX0_placeOf 5 = .ok (.getfield 29, 3) := by decide +kernel
theorem dX0_placeOf_8 : decode cX0_placeOf 8 = .ok (.arraylength, 1) := by decide +kernel
theorem dX0_placeOf_9 : decode cX0_placeOf 9 = .ok (.lload_n 1, 1) := by decide +kernel
theorem dX0_placeOf_10 : decode cX0_placeOf 10 = .ok (.invokestatic 35, 3) := by decide +kernel
theorem dX0_placeOf_13 : decode cX0_placeOf 13 = .ok (.ireturn, 1) := by decide +kernel
theorem dX0_hasMember_0 : decode cX0_hasMember 0 = .ok (.iload_n 1, 1) := by decide +kernel
theorem dX0_hasMember_1 : decode cX0_hasMember 1 = .ok (.aload_n 0, 1) := by decide +kernel
theorem dX0_hasMember_2 : decode cX0_hasMember 2 = .ok (.getfield 29, 3) := by decide +kernel
theorem dX0_hasMember_5 : decode cX0_hasMember 5 = .ok (.arraylength, 1) := by decide +kernel
theorem dX0_hasMember_6 : decode cX0_hasMember 6 = .ok (.if_icmp .ge 18, 3) := by decide +kernel
theorem dX0_hasMember_9 : decode cX0_hasMember 9 = .ok (.aload_n 0, 1) := by decide +kernel
theorem dX0_hasMember_10 : decode cX0_hasMember 10 = .ok (.getfield 29, 3) := by decide +kernel
theorem dX0_hasMember_13 : decode cX0_hasMember 13 = .ok (.iload_n 1, 1) := by decide +kernel
theorem dX0_hasMember_14 : decode cX0_hasMember 14 = .ok (.laload, 1) := by decide +kernel
theorem dX0_hasMember_15 : decode cX0_hasMember 15 = .ok (.lload_n 2, 1) := by decide +kernel
theorem dX0_hasMember_16 : decode cX0_hasMember 16 = .ok (.lcmp, 1) := by decide +kernel
theorem dX0_hasMember_17 : decode cX0_hasMember 17 = .ok (.ifCond .ne 7, 3) := by decide +kernel
theorem dX0_hasMember_20 : decode cX0_hasMember 20 = .ok (.iconst 1, 1) := by decide +kernel
theorem dX0_hasMember_21 : decode cX0_hasMember 21 = .ok (.goto 4, 3) := by decide +kernel
theorem dX0_hasMember_24 : decode cX0_hasMember 24 = .ok (.iconst 0, 1) := by decide +kernel
theorem dX0_hasMember_25 : decode cX0_hasMember 25 = .ok (.ireturn, 1) := by decide +kernel
set_option maxRecDepth 20000 in
theorem ggX0_withNothing_X0_init_ : GoodIn wsX0_withNothing wsX0_init_ := goodIn_r _ [6, 7, 8, 9, 10, 11, 12, 13, 14, 15, 16, 17, 18, 19, 20, 21] (by decide +kernel) (by decide +kernel)
set_option maxRecDepth 20000 in
theorem gX0_withNothing_X0_init_ : GoodIn wsX0_withNothing (wsX0_init_) := ggX0_withNothing_X0_init_
theorem dX0_withNothing_0 : decode cX0_withNothing 0 = .ok (.new 10, 3) := by decide +kernel
theorem dX0_withNothing_3 : decode cX0_withNothing 3 = .ok (.dup, 1) := by decide +kernel
theorem dX0_withNothing_4 : decode cX0_withNothing 4 = .ok (.aload_n 0, 1) := by decide +kernel
theorem dX0_withNothing_5 : decode cX0_withNothing 5 = .ok (.getstatic 22, 3) := by decide +kernel
theorem dX0_withNothing_8 : decode cX0_withNothing 8 = .ok (.getstatic 22, 3) := by decide +kernel
theorem dX0_withNothing_11 : decode cX0_withNothing 11 = .ok (.iconst 0, 1) := by decide +kernel
theorem dX0_withNothing_12 : decode cX0_withNothing 12 = .ok (.invokespecial 39, 3) := by decide +kernel
theorem dX0_withNothing_15 : decode cX0_withNothing 15 = .ok (.areturn, 1) := by decide +kernel
set_option maxRecDepth 20000 in
theorem ggX0_withOnly_X0_init_ : GoodIn wsX0_withOnly wsX0_init_ := goodIn_r _ [7, 8, 9, 10, 11, 12, 13, 14, 15, 16, 17, 18, 19, 20, 21, 22] (by decide +kernel) (by decide +kernel)
set_option maxRecDepth 20000 in
theorem gX0_withOnly_X0_init_ : GoodIn wsX0_withOnly (wsX0_init_) := ggX0_withOnly_X0_init_
theorem dX0_withOnly_0 : decode cX0_withOnly 0 = .ok (.new 10, 3) := by decide +kernel
theorem dX0_withOnly_3 : decode cX0_withOnly 3 = .ok (.dup, 1) := by decide +kernel
theorem dX0_withOnly_4 : decode cX0_withOnly 4 = .ok (.aload_n 0, 1) := by decide +kernel
theorem dX0_withOnly_5 : decode cX0_withOnly 5 = .ok (.iconst 1, 1) := by decide +kernel
theorem dX0_withOnly_6 : decode cX0_withOnly 6 = .ok (.newarray .long, 2) := by decide +kernel
theorem dX0_withOnly_8 : decode cX0_withOnly 8 = .ok (.dup, 1) := by decide +kernel
theorem dX0_withOnly_9 : decode cX0_withOnly 9 = .ok (.iconst 0, 1) := by decide +kernel
theorem dX0_withOnly_10 : decode cX0_withOnly 10 = .ok (.lload_n 1, 1) := by decide +kernel
theorem dX0_withOnly_11 : decode cX0_withOnly 11 = .ok (.lastore, 1) := by decide +kernel
theorem dX0_withOnly_12 : decode cX0_withOnly 12 = .ok (.getstatic 22, 3) := by decide +kernel
theorem dX0_withOnly_15 : decode cX0_withOnly 15 = .ok (.iconst 0, 1) := by decide +kernel
theorem dX0_withOnly_16 : decode cX0_withOnly 16 = .ok (.invokespecial 39, 3) := by decide +kernel
theorem dX0_withOnly_19 : decode cX0_withOnly 19 = .ok (.areturn, 1) := by decide +kernel
set_option maxRecDepth 20000 in
theorem ggX0_withOneMore_X0_inserted : GoodIn wsX0_withOneMore wsX0_inserted := goodIn_r _ [7, 8, 9, 10, 11, 12] (by decide +kernel) (by decide +kernel)
set_option maxRecDepth 20000 in
theorem gX0_withOneMore_X0_inserted : GoodIn wsX0_withOneMore (va_wsS RX0 42 yX0_inserted wsX0_inserted) := goodIn_app (goodIn_of _ (by decide +kernel)) ggX0_withOneMore_X0_inserted
set_option maxRecDepth 20000 in
theorem ggX0_withOneMore_X0_init_ : GoodIn wsX0_withOneMore wsX0_init_ := goodIn_r _ [15, 16, 17, 18, 19, 20, 21, 4, 22, 23, 24, 25, 26, 27, 28, 29] (by decide +kernel) (by decide +kernel)
set_option maxRecDepth 20000 in
theorem gX0_withOneMore_X0_init_ : GoodIn wsX0_withOneMore (wsX0_init_) := ggX0_withOneMore_X0_init_
theorem dX0_withOneMore_0 : decode cX0_withOneMore 0 = .ok (.new 10, 3) := by decide +kernel
theorem dX0_withOneMore_3 : decode cX0_withOneMore 3 = .ok (.dup, 1) := by decide +kernel
theorem dX0_withOneMore_4 : decode cX0_withOneMore 4 = .ok (.aload_n 0, 1) := by decide +kernel
theorem dX0_withOneMore_5 : decode cX0_withOneMore 5 = .ok (.aload_n 0, 1) := by decide +kernel
theorem dX0_withOneMore_6 : decode cX0_withOneMore 6 = .ok (.getfield 26, 3) := by decide +kernel
theorem dX0_withOneMore_9 : decode cX0_withOneMore 9 = .ok (.aload_n 0, 1) := by decide +kernel
theorem dX0_withOneMore_10 : decode cX0_withOneMore 10 = .ok (.getfield 26, 3) := by decide +kernel
theorem dX0_withOneMore_13 : decode cX0_withOneMore 13 = .ok (.arraylength, 1) := by decide +kernel
theorem dX0_withOneMore_14 : decode cX0_withOneMore 14 = .ok (.lload_n 1, 1) := by decide +kernel
theorem dX0_withOneMore_15 : decode cX0_withOneMore 15 = .ok (.invokestatic 42, 3) := by decide +kernel
theorem dX0_withOneMore_18 : decode cX0_withOneMore 18 = .ok (.getstatic 22, 3) := by decide +kernel
theorem dX0_withOneMore_21 : decode cX0_withOneMore 21 = .ok (.iconst 0, 1) := by decide +kernel
theorem dX0_withOneMore_22 : decode cX0_withOneMore 22 = .ok (.invokespecial 39, 3) := by decide +kernel
theorem dX0_withOneMore_25 : decode cX0_withOneMore 25 = .ok (.areturn, 1) := by decide +kernel
set_option maxRecDepth 20000 in
theorem ggX0_withNumberAt_J7_copyOf_c38d5 : GoodIn wsX0_withNumberAt wsJ7_copyOf_c38d5 := goodIn_r _ [9, 10, 11, 12, 13, 14, 15, 16, 17, 18, 19, 20, 21, 22, 23, 24] (by decide +kernel) (by decide +kernel)
set_option maxRecDepth 20000 in
theorem gX0_withNumberAt_J7_copyOf_c38d5 : GoodIn wsX0_withNumberAt (va_wsS RX0 46 yJ7_copyOf_c38d5 wsJ7_copyOf_c38d5) := goodIn_app (goodIn_of _ (by decide +kernel)) ggX0_withNumberAt_J7_copyOf_c38d5
set_option maxRecDepth 20000 in
theorem ggX0_withNumberAt_X0_init_ : GoodIn wsX0_withNumberAt wsX0_init_ := goodIn_r _ [27, 28, 29, 30, 31, 32, 33, 1, 5, 34, 35, 36, 37, 38, 39, 40] (by decide +kernel) (by decide +kernel)
set_option maxRecDepth 20000 in
theorem gX0_withNumberAt_X0_init_ : GoodIn wsX0_withNumberAt (wsX0_init_) := ggX0_withNumberAt_X0_init_
theorem dX0_withNumberAt_0 : decode cX0_withNumberAt 0 = .ok (.aload_n 0, 1) := by decide +kernel
theorem dX0_withNumberAt_1 : decode cX0_withNumberAt 1 = .ok (.getfield 26, 3) := by decide +kernel
theorem dX0_withNumberAt_4 : decode cX0_withNumberAt 4 = .ok (.aload_n 0, 1) := by decide +kernel
theorem dX0_withNumberAt_5 : decode cX0_withNumberAt 5 = .ok (.getfield 26, 3) := by decide +kernel
theorem dX0_withNumberAt_8 : decode cX0_withNumberAt 8 = .ok (.arraylength, 1) := by decide +kernel
theorem dX0_withNumberAt_9 : decode cX0_withNumberAt 9 = .ok (.invokestatic 46, 3) := by decide +kernel
theorem dX0_withNumberAt_12 : decode cX0_withNumberAt 12 = .ok (.astore 4, 2) := by decide +kernel
theorem dX0_withNumberAt_14 : decode cX0_withNumberAt 14 = .ok (.aload 4, 2) := by decide +kernel
theorem dX0_withNumberAt_16 : decode cX0_withNumberAt 16 = .ok (.iload_n 1, 1) := by decide +kernel
theorem dX0_withNumberAt_17 : decode cX0_withNumberAt 17 = .ok (.lload_n 2, 1) := by decide +kernel
theorem dX0_withNumberAt_18 : decode cX0_withNumberAt 18 = .ok (.lastore, 1) := by decide +kernel
theorem dX0_withNumberAt_19 : decode cX0_withNumberAt 19 = .ok (.new 10, 3) := by decide +kernel
theorem dX0_withNumberAt_22 : decode cX0_withNumberAt 22 = .ok (.dup, 1) := by decide +kernel
theorem dX0_withNumberAt_23 : decode cX0_withNumberAt 23 = .ok (.aload_n 0, 1) := by decide +kernel
theorem dX0_withNumberAt_24 : decode cX0_withNumberAt 24 = .ok (.aload 4, 2) := by decide +kernel
theorem dX0_withNumberAt_26 : decode cX0_withNumberAt 26 = .ok (.aload_n 0, 1) := by decide +kernel
theorem dX0_withNumberAt_27 : decode cX0_withNumberAt 27 = .ok (.getfield 29, 3) := by decide +kernel
theorem dX0_withNumberAt_30 : decode cX0_withNumberAt 30 = .ok (.iconst 0, 1) := by decide +kernel
theorem dX0_withNumberAt_31 : decode cX0_withNumberAt 31 = .ok (.invokespecial 39, 3) := by decide +kernel
theorem dX0_withNumberAt_34 : decode cX0_withNumberAt 34 = .ok (.areturn, 1) := by decide +kernel
set_option maxRecDepth 20000 in
theorem ggX0_withMember_X0_inserted : GoodIn wsX0_withMember wsX0_inserted := goodIn_r _ [8, 9, 10, 11, 12, 13] (by decide +kernel) (by decide +kernel)
set_option maxRecDepth 20000 in
theorem gX0_withMember_X0_inserted : GoodIn wsX0_withMember (va_wsS RX0 42 yX0_inserted wsX0_inserted) := goodIn_app (goodIn_of _ (by decide +kernel)) ggX0_withMember_X0_inserted
set_option maxRecDepth 20000 in
theorem ggX0_withMember_X0_init_ : GoodIn wsX0_withMember wsX0_init_ := goodIn_r _ [16, 17, 18, 19, 20, 21, 22, 4, 5, 23, 24, 25, 26, 27, 28, 29] (by decide +kernel) (by decide +kernel)
set_option maxRecDepth 20000 in
theorem gX0_withMember_X0_init_ : GoodIn wsX0_withMember (wsX0_init_) := ggX0_withMember_X0_init_
theorem dX0_withMember_0 : decode cX0_withMember 0 = .ok (.new 10, 3) := by decide +kernel
theorem dX0_withMember_3 : decode cX0_withMember 3 = .ok (.dup, 1) := by decide +kernel
theorem dX0_withMember_4 : decode cX0_withMember 4 = .ok (.aload_n 0, 1) := by decide +kernel
theorem dX0_withMember_5 : decode cX0_withMember 5 = .ok (.aload_n 0, 1) := by decide +kernel
theorem dX0_withMember_6 : decode cX0_withMember 6 = .ok (.getfield 26, 3) := by decide +kernel
theorem dX0_withMember_9 : decode cX0_withMember 9 = .ok (.iload_n 1, 1) := by decide +kernel
theorem dX0_withMember_10 : decode cX0_withMember 10 = .ok (.lload 4, 2) := by decide +kernel
theorem dX0_withMember_12 : decode cX0_withMember 12 = .ok (.invokestatic 42, 3) := by decide +kernel
theorem dX0_withMember_15 : decode cX0_withMember 15 = .ok (.aload_n 0, 1) := by decide +kernel
theorem dX0_withMember_16 : decode cX0_withMember 16 = .ok (.getfield 29, 3) := by decide +kernel
theorem dX0_withMember_19 : decode cX0_withMember 19 = .ok (.iload_n 1, 1) := by decide +kernel
theorem dX0_withMember_20 : decode cX0_withMember 20 = .ok (.lload_n 2, 1) := by decide +kernel
theorem dX0_withMember_21 : decode cX0_withMember 21 = .ok (.invokestatic 42, 3) := by decide +kernel
theorem dX0_withMember_24 : decode cX0_withMember 24 = .ok (.iconst 0, 1) := by decide +kernel
theorem dX0_withMember_25 : decode cX0_withMember 25 = .ok (.invokespecial 39, 3) := by decide +kernel
theorem dX0_withMember_28 : decode cX0_withMember 28 = .ok (.areturn, 1) := by decide +kernel
set_option maxRecDepth 20000 in
theorem ggX0_withoutMember_X0_without : GoodIn wsX0_withoutMember wsX0_without := goodIn_r _ [8, 9, 10, 11, 12, 13] (by decide +kernel) (by decide +kernel)
set_option maxRecDepth 20000 in
theorem gX0_withoutMember_X0_without : GoodIn wsX0_withoutMember (va_wsS RX0 52 yX0_without wsX0_without) := goodIn_app (goodIn_of _ (by decide +kernel)) ggX0_withoutMember_X0_without
set_option maxRecDepth 20000 in
theorem ggX0_withoutMember_X0_init_ : GoodIn wsX0_withoutMember wsX0_init_ := goodIn_r _ [16, 17, 18, 19, 20, 21, 22, 4, 5, 23, 24, 25, 26, 27, 28, 29] (by decide +kernel) (by decide +kernel)
set_option maxRecDepth 20000 in
theorem gX0_withoutMember_X0_init_ : GoodIn wsX0_withoutMember (wsX0_init_) := ggX0_withoutMember_X0_init_
theorem dX0_withoutMember_0 : decode cX0_withoutMember 0 = .ok (.new 10, 3) := by decide +kernel
theorem dX0_withoutMember_3 : decode cX0_withoutMember 3 = .ok (.dup, 1) := by decide +kernel
theorem dX0_withoutMember_4 : decode cX0_withoutMember 4 = .ok (.aload_n 0, 1) := by decide +kernel
theorem dX0_withoutMember_5 : decode cX0_withoutMember 5 = .ok (.aload_n 0, 1) := by decide +kernel
theorem dX0_withoutMember_6 : decode cX0_withoutMember 6 = .ok (.getfield 26, 3) := by decide +kernel
theorem dX0_withoutMember_9 : decode cX0_withoutMember 9 = .ok (.iload_n 1, 1) := by decide +kernel
theorem dX0_withoutMember_10 : decode cX0_withoutMember 10 = .ok (.invokestatic 52, 3) := by decide +kernel
theorem dX0_withoutMember_13 : decode cX0_withoutMember 13 = .ok (.aload_n 0, 1) := by decide +kernel
theorem dX0_withoutMember_14 : decode cX0_withoutMember 14 = .ok (.getfield 29, 3) := by decide +kernel
theorem dX0_withoutMember_17 : decode cX0_withoutMember 17 = .ok (.iload_n 1, 1) := by decide +kernel
theorem dX0_withoutMember_18 : decode cX0_withoutMember 18 = .ok (.invokestatic 52, 3) := by decide +kernel
theorem dX0_withoutMember_21 : decode cX0_withoutMember 21 = .ok (.iconst 0, 1) := by decide +kernel
theorem dX0_withoutMember_22 : decode cX0_withoutMember 22 = .ok (.invokespecial 39, 3) := by decide +kernel
theorem dX0_withoutMember_25 : decode cX0_withoutMember 25 = .ok (.areturn, 1) := by decide +kernel
set_option maxRecDepth 20000 in
theorem ggX0_withFolded_X0_isNone : GoodIn wsX0_withFolded wsX0_isNone := goodIn_r _ [10, 1, 31, 32, 33, 34, 35, 36] (by decide +kernel) (by decide +kernel)
set_option maxRecDepth 20000 in
theorem gX0_withFolded_X0_isNone : GoodIn wsX0_withFolded (wsV RX0 55 RX0 yX0_isNone wsX0_isNone) := goodIn_app (goodIn_of _ (by decide +kernel)) ggX0_withFolded_X0_isNone
set_option maxRecDepth 20000 in
theorem ggX0_withFolded_X3_joined : GoodIn wsX0_withFolded wsX3_joined := goodIn_r _ [13, 14, 15, 16, 17, 18, 19, 20] (by decide +kernel) (by decide +kernel)
set_option maxRecDepth 20000 in
theorem gX0_withFolded_X3_joined_n59 : GoodIn wsX0_withFolded (wsX3_joined) := ggX0_withFolded_X3_joined
set_option maxRecDepth 20000 in
theorem ggX0_withFolded_X0_init_ : GoodIn wsX0_withFolded wsX0_init_ := goodIn_r _ [23, 24, 25, 26, 27, 28, 29, 1, 30, 6, 31, 32, 33, 34, 35, 36] (by decide +kernel) (by decide +kernel)
set_option maxRecDepth 20000 in
theorem gX0_withFolded_X0_init_ : GoodIn wsX0_withFolded (wsX0_init_) := ggX0_withFolded_X0_init_
theorem dX0_withFolded_0 : decode cX0_withFolded 0 = .ok (.aload_n 0, 1) := by decide +kernel
theorem dX0_withFolded_1 : decode cX0_withFolded 1 = .ok (.invokevirtual 55, 3) := by decide +kernel
theorem dX0_withFolded_4 : decode cX0_withFolded 4 = .ok (.ifCond .eq 7, 3) := by decide +kernel
theorem dX0_withFolded_7 : decode cX0_withFolded 7 = .ok (.lload_n 2, 1) := by decide +kernel
theorem dX0_withFolded_8 : decode cX0_withFolded 8 = .ok (.goto 14, 3) := by decide +kernel
theorem dX0_withFolded_11 : decode cX0_withFolded 11 = .ok (.iload_n 1, 1) := by decide +kernel
theorem dX0_withFolded_12 : decode cX0_withFolded 12 = .ok (.aload_n 0, 1) := by decide +kernel
theorem dX0_withFolded_13 : decode cX0_withFolded 13 = .ok (.getfield 26, 3) := by decide +kernel
theorem dX0_withFolded_16 : decode cX0_withFolded 16 = .ok (.iconst 0, 1) := by decide +kernel
theorem dX0_withFolded_17 : decode cX0_withFolded 17 = .ok (.laload, 1) := by decide +kernel
theorem dX0_withFolded_18 : decode cX0_withFolded 18 = .ok (.lload_n 2, 1) := by decide +kernel
theorem dX0_withFolded_19 : decode cX0_withFolded 19 = .ok (.invokestatic 59, 3) := by decide +kernel
theorem dX0_withFolded_22 : decode cX0_withFolded 22 = .ok (.lstore 4, 2) := by decide +kernel
theorem dX0_withFolded_24 : decode cX0_withFolded 24 = .ok (.new 10, 3) := by decide +kernel
theorem dX0_withFolded_27 : decode cX0_withFolded 27 = .ok (.dup, 1) := by decide +kernel
theorem dX0_withFolded_28 : decode cX0_withFolded 28 = .ok (.aload_n 0, 1) := by decide +kernel
theorem dX0_withFolded_29 : decode cX0_withFolded 29 = .ok (.iconst 1, 1) := by decide +kernel
theorem dX0_withFolded_30 : decode cX0_withFolded 30 = .ok (.newarray .long, 2) := by decide +kernel
theorem dX0_withFolded_32 : decode cX0_withFolded 32 = .ok (.dup, 1) := by decide +kernel
theorem dX0_withFolded_33 : decode cX0_withFolded 33 = .ok (.iconst 0, 1) := by decide +kernel
theorem dX0_withFolded_34 : decode cX0_withFolded 34 = .ok (.lload 4, 2) := by decide +kernel
theorem dX0_withFolded_36 : decode cX0_withFolded 36 = .ok (.lastore, 1) := by decide +kernel
theorem dX0_withFolded_37 : decode cX0_withFolded 37 = .ok (.getstatic 22, 3) := by decide +kernel
theorem dX0_withFolded_40 : decode cX0_withFolded 40 = .ok (.aload_n 0, 1) := by decide +kernel
theorem dX0_withFolded_41 : decode cX0_withFolded 41 = .ok (.getfield 32, 3) := by decide +kernel
theorem dX0_withFolded_44 : decode cX0_withFolded 44 = .ok (.iconst 1, 1) := by decide +kernel
theorem dX0_withFolded_45 : decode cX0_withFolded 45 = .ok (.iadd, 1) := by decide +kernel
theorem dX0_withFolded_46 : decode cX0_withFolded 46 = .ok (.invokespecial 39, 3) := by decide +kernel
theorem dX0_withFolded_49 : decode cX0_withFolded 49 = .ok (.areturn, 1) := by decide +kernel
set_option maxRecDepth 20000 in
theorem ggX0_allFit_X3_fits : GoodIn wsX0_allFit wsX3_fits := goodIn_r _ [4, 5, 6] (by decide +kernel) (by decide +kernel)
set_option maxRecDepth 20000 in
theorem gX0_allFit_X3_fits_n63 : GoodIn wsX0_allFit (wsX3_fits) := ggX0_allFit_X3_fits
theorem dX0_allFit_0 : decode cX0_allFit 0 = .ok (.iconst 0, 1) := by decide +kernel
theorem dX0_allFit_1 : decode cX0_allFit 1 = .ok (.istore_n 3, 1) := by decide +kernel
theorem dX0_allFit_2 : decode cX0_allFit 2 = .ok (.iload_n 3, 1) := by decide +kernel
theorem dX0_allFit_3 : decode cX0_allFit 3 = .ok (.aload_n 0, 1) := by decide +kernel
theorem dX0_allFit_4 : decode cX0_allFit 4 = .ok (.getfield 26, 3) := by decide +kernel
theorem dX0_allFit_7 : decode cX0_allFit 7 = .ok (.arraylength, 1) := by decide +kernel
theorem dX0_allFit_8 : decode cX0_allFit 8 = .ok (.if_icmp .ge 25, 3) := by decide +kernel
theorem dX0_allFit_11 : decode cX0_allFit 11 = .ok (.iload_n 1, 1) := by decide +kernel
theorem dX0_allFit_12 : decode cX0_allFit 12 = .ok (.iload_n 2, 1) := by decide +kernel
theorem dX0_allFit_13 : decode cX0_allFit 13 = .ok (.aload_n 0, 1) := by decide +kernel
theorem dX0_allFit_14 : decode cX0_allFit 14 = .ok (.getfield 26, 3) := by decide +kernel
theorem dX0_allFit_17 : decode cX0_allFit 17 = .ok (.iload_n 3, 1) := by decide +kernel
theorem dX0_allFit_18 : decode cX0_allFit 18 = .ok (.laload, 1) := by decide +kernel
theorem dX0_allFit_19 : decode cX0_allFit 19 = .ok (.invokestatic 63, 3) := by decide +kernel
theorem dX0_allFit_22 : decode cX0_allFit 22 = .ok (.ifCond .ne 5, 3) := by decide +kernel
theorem dX0_allFit_25 : decode cX0_allFit 25 = .ok (.iconst 0, 1) := by decide +kernel
theorem dX0_allFit_26 : decode cX0_allFit 26 = .ok (.ireturn, 1) := by decide +kernel
theorem dX0_allFit_27 : decode cX0_allFit 27 = .ok (.iinc 3 1, 3) := by decide +kernel
theorem dX0_allFit_30 : decode cX0_allFit 30 = .ok (.goto (-28), 3) := by decide +kernel
theorem dX0_allFit_33 : decode cX0_allFit 33 = .ok (.iconst 1, 1) := by decide +kernel
theorem dX0_allFit_34 : decode cX0_allFit 34 = .ok (.ireturn, 1) := by decide +kernel
set_option maxRecDepth 20000 in
theorem ggX0_movedTo_X0_foldedUp : GoodIn wsX0_movedTo wsX0_foldedUp := goodIn_r _ [10, 6, 3, 4, 5, 11, 12, 13, 14, 15, 16, 17, 18, 19, 20, 21, 22, 23, 24, 25, 26, 27, 28, 29, 30, 31, 32, 33, 34, 1, 2, 35, 36, 37, 38, 39, 40] (by decide +kernel) (by decide +kernel)
set_option maxRecDepth 20000 in
theorem gX0_movedTo_X0_foldedUp : GoodIn wsX0_movedTo (wsV RX0 67 RX0 yX0_foldedUp wsX0_foldedUp) := goodIn_app (goodIn_of _ (by decide +kernel)) ggX0_movedTo_X0_foldedUp
set_option maxRecDepth 20000 in
theorem ggX0_movedTo_X0_init_ : GoodIn wsX0_movedTo wsX0_init_ := goodIn_r _ [28, 29, 30, 31, 32, 33, 34, 6, 1, 2, 35, 36, 37, 38, 39, 40] (by decide +kernel) (by decide +kernel)
set_option maxRecDepth 20000 in
theorem gX0_movedTo_X0_init_ : GoodIn wsX0_movedTo (wsX0_init_) := ggX0_movedTo_X0_init_
theorem dX0_movedTo_0 : decode cX0_movedTo 0 = .ok (.iload_n 1, 1) := by decide +kernel
theorem dX0_movedTo_1 : decode cX0_movedTo 1 = .ok (.iconst 3, 1) := by decide +kernel
theorem dX0_movedTo_2 : decode cX0_movedTo 2 = .ok (.if_icmp .ne 9, 3) := by decide +kernel
theorem dX0_movedTo_5 : decode cX0_movedTo 5 = .ok (.aload_n 0, 1) := by decide +kernel
theorem dX0_movedTo_6 : decode cX0_movedTo 6 = .ok (.iload_n 2, 1) := by decide +kernel
theorem dX0_movedTo_7 : decode cX0_movedTo 7 = .ok (.invokevirtual 67, 3) := by decide +kernel
theorem dX0_movedTo_10 : decode cX0_movedTo 10 = .ok (.areturn, 1) := by decide +kernel
theorem dX0_movedTo_11 : decode cX0_movedTo 11 = .ok (.iload_n 1, 1) := by decide +kernel
theorem dX0_movedTo_12 : decode cX0_movedTo 12 = .ok (.iconst 2, 1) := by decide +kernel
theorem dX0_movedTo_13 : decode cX0_movedTo 13 = .ok (.if_icmp .eq 18, 3) := by decide +kernel
theorem dX0_movedTo_16 : decode cX0_movedTo 16 = .ok (.aload_n 0, 1) := by decide +kernel
theorem dX0_movedTo_17 : decode cX0_movedTo 17 = .ok (.getfield 29, 3) := by decide +kernel
theorem dX0_movedTo_20 : decode cX0_movedTo 20 = .ok (.arraylength, 1) := by decide +kernel
theorem dX0_movedTo_21 : decode cX0_movedTo 21 = .ok (.ifCond .ne 12, 3) := by decide +kernel
theorem dX0_movedTo_24 : decode cX0_movedTo 24 = .ok (.aload_n 0, 1) := by decide +kernel
theorem dX0_movedTo_25 : decode cX0_movedTo 25 = .ok (.getfield 32, 3) := by decide +kernel
theorem dX0_movedTo_28 : decode cX0_movedTo 28 = .ok (.ifCond .ne 5, 3) := by decide +kernel
theorem dX0_movedTo_31 : decode cX0_movedTo 31 = .ok (.aload_n 0, 1) := by decide +kernel
theorem dX0_movedTo_32 : decode cX0_movedTo 32 = .ok (.areturn, 1) := by decide +kernel
theorem dX0_movedTo_33 : decode cX0_movedTo 33 = .ok (.new 10, 3) := by decide +kernel
theorem dX0_movedTo_36 : decode cX0_movedTo 36 = .ok (.dup, 1) := by decide +kernel
theorem dX0_movedTo_37 : decode cX0_movedTo 37 = .ok (.aload_n 0, 1) := by decide +kernel
theorem dX0_movedTo_38 : decode cX0_movedTo 38 = .ok (.aload_n 0, 1) := by decide +kernel
theorem dX0_movedTo_39 : decode cX0_movedTo 39 = .ok (.getfield 26, 3) := by decide +kernel
theorem dX0_movedTo_42 : decode cX0_movedTo 42 = .ok (.getstatic 22, 3) := by decide +kernel
theorem dX0_movedTo_45 : decode cX0_movedTo 45 = .ok (.iconst 0, 1) := by decide +kernel
theorem dX0_movedTo_46 : decode cX0_movedTo 46 = .ok (.invokespecial 39, 3) := by decide +kernel
theorem dX0_movedTo_49 : decode cX0_movedTo 49 = .ok (.areturn, 1) := by decide +kernel
set_option maxRecDepth 20000 in
theorem ggX0_foldedUp_X0_isNone : GoodIn wsX0_foldedUp wsX0_isNone := goodIn_r _ [9, 1, 31, 32, 33, 34, 35, 36] (by decide +kernel) (by decide +kernel)
set_option maxRecDepth 20000 in
theorem gX0_foldedUp_X0_isNone : GoodIn wsX0_foldedUp (wsV RX0 55 RX0 yX0_isNone wsX0_isNone) := goodIn_app (goodIn_of _ (by decide +kernel)) ggX0_foldedUp_X0_isNone
set_option maxRecDepth 20000 in
theorem ggX0_foldedUp_X3_joined : GoodIn wsX0_foldedUp wsX3_joined := goodIn_r _ [12, 13, 14, 15, 16, 17, 18, 19] (by decide +kernel) (by decide +kernel)
set_option maxRecDepth 20000 in
theorem gX0_foldedUp_X3_joined_n59 : GoodIn wsX0_foldedUp (wsX3_joined) := ggX0_foldedUp_X3_joined
set_option maxRecDepth 20000 in
theorem ggX0_foldedUp_X0_init_ : GoodIn wsX0_foldedUp wsX0_init_ := goodIn_r _ [22, 23, 24, 25, 26, 27, 28, 1, 29, 30, 31, 32, 33, 34, 35, 36] (by decide +kernel) (by decide +kernel)
set_option maxRecDepth 20000 in
theorem gX0_foldedUp_X0_init_ : GoodIn wsX0_foldedUp (wsX0_init_) := ggX0_foldedUp_X0_init_
theorem dX0_foldedUp_0 : decode cX0_foldedUp 0 = .ok (.aload_n 0, 1) := by decide +kernel
theorem dX0_foldedUp_1 : decode cX0_foldedUp 1 = .ok (.invokevirtual 55, 3) := by decide +kernel
theorem dX0_foldedUp_4 : decode cX0_foldedUp 4 = .ok (.ifCond .eq 5, 3) := by decide +kernel
theorem dX0_foldedUp_7 : decode cX0_foldedUp 7 = .ok (.aload_n 0, 1) := by decide +kernel
theorem dX0_foldedUp_8 : decode cX0_foldedUp 8 = .ok (.areturn, 1) := by decide +kernel
theorem dX0_foldedUp_9 : decode cX0_foldedUp 9 = .ok (.aload_n 0, 1) := by decide +kernel
theorem dX0_foldedUp_10 : decode cX0_foldedUp 10 = .ok (.getfield 26, 3) := by decide +kernel
theorem dX0_foldedUp_13 : decode cX0_foldedUp 13 = .ok (.iconst 0, 1) := by decide +kernel
theorem dX0_foldedUp_14 : decode cX0_foldedUp 14 = .ok (.laload, 1) := by decide +kernel
theorem dX0_foldedUp_15 : decode cX0_foldedUp 15 = .ok (.lstore_n 2, 1) := by decide +kernel
theorem dX0_foldedUp_16 : decode cX0_foldedUp 16 = .ok (.iconst 1, 1) := by decide +kernel
theorem dX0_foldedUp_17 : decode cX0_foldedUp 17 = .ok (.istore 4, 2) := by decide +kernel
theorem dX0_foldedUp_19 : decode cX0_foldedUp 19 = .ok (.iload 4, 2) := by decide +kernel
theorem dX0_foldedUp_21 : decode cX0_foldedUp 21 = .ok (.aload_n 0, 1) := by decide +kernel
theorem dX0_foldedUp_22 : decode cX0_foldedUp 22 = .ok (.getfield 26, 3) := by decide +kernel
theorem dX0_foldedUp_25 : decode cX0_foldedUp 25 = .ok (.arraylength, 1) := by decide +kernel
theorem dX0_foldedUp_26 : decode cX0_foldedUp 26 = .ok (.if_icmp .ge 22, 3) := by decide +kernel
theorem dX0_foldedUp_29 : decode cX0_foldedUp 29 = .ok (.iload_n 1, 1) := by decide +kernel
theorem dX0_foldedUp_30 : decode cX0_foldedUp 30 = .ok (.lload_n 2, 1) := by decide +kernel
theorem dX0_foldedUp_31 : decode cX0_foldedUp 31 = .ok (.aload_n 0, 1) := by decide +kernel
theorem dX0_foldedUp_32 : decode cX0_foldedUp 32 = .ok (.getfield 26, 3) := by decide +kernel
theorem dX0_foldedUp_35 : decode cX0_foldedUp 35 = .ok (.iload 4, 2) := by decide +kernel
theorem dX0_foldedUp_37 : decode cX0_foldedUp 37 = .ok (.laload, 1) := by decide +kernel
theorem dX0_foldedUp_38 : decode cX0_foldedUp 38 = .ok (.invokestatic 59, 3) := by decide +kernel
theorem dX0_foldedUp_41 : decode cX0_foldedUp 41 = .ok (.lstore_n 2, 1) := by decide +kernel
theorem dX0_foldedUp_42 : decode cX0_foldedUp 42 = .ok (.iinc 4 1, 3) := by decide +kernel
theorem dX0_foldedUp_45 : decode cX0_foldedUp 45 = .ok (.goto (-26), 3) := by decide +kernel
theorem dX0_foldedUp_48 : decode cX0_foldedUp 48 = .ok (.new 10, 3) := by decide +kernel
theorem dX0_foldedUp_51 : decode cX0_foldedUp 51 = .ok (.dup, 1) := by decide +kernel
theorem dX0_foldedUp_52 : decode cX0_foldedUp 52 = .ok (.aload_n 0, 1) := by decide +kernel
theorem dX0_foldedUp_53 : decode cX0_foldedUp 53 = .ok (.iconst 1, 1) := by decide +kernel
theorem dX0_foldedUp_54 : decode cX0_foldedUp 54 = .ok (.newarray .long, 2) := by decide +kernel
theorem dX0_foldedUp_56 : decode cX0_foldedUp 56 = .ok (.dup, 1) := by decide +kernel
theorem dX0_foldedUp_57 : decode cX0_foldedUp 57 = .ok (.iconst 0, 1) := by decide +kernel
theorem dX0_foldedUp_58 : decode cX0_foldedUp 58 = .ok (.lload_n 2, 1) := by decide +kernel
theorem dX0_foldedUp_59 : decode cX0_foldedUp 59 = .ok (.lastore, 1) := by decide +kernel
theorem dX0_foldedUp_60 : decode cX0_foldedUp 60 = .ok (.getstatic 22, 3) := by decide +kernel
theorem dX0_foldedUp_63 : decode cX0_foldedUp 63 = .ok (.aload_n 0, 1) := by decide +kernel
theorem dX0_foldedUp_64 : decode cX0_foldedUp 64 = .ok (.getfield 26, 3) := by decide +kernel
theorem dX0_foldedUp_67 : decode cX0_foldedUp 67 = .ok (.arraylength, 1) := by decide +kernel
theorem dX0_foldedUp_68 : decode cX0_foldedUp 68 = .ok (.invokespecial 39, 3) := by decide +kernel
theorem dX0_foldedUp_71 : decode cX0_foldedUp 71 = .ok (.areturn, 1) := by decide +kernel
theorem dX0_inserted_0 : decode cX0_inserted 0 = .ok (.aload_n 0, 1) := by decide +kernel
theorem dX0_inserted_1 : decode cX0_inserted 1 = .ok (.arraylength, 1) := by decide +kernel
theorem dX0_inserted_2 : decode cX0_inserted 2 = .ok (.iconst 1, 1) := by decide +kernel
theorem dX0_inserted_3 : decode cX0_inserted 3 = .ok (.iadd, 1) := by decide +kernel
theorem dX0_inserted_4 : decode cX0_inserted 4 = .ok (.newarray .long, 2) := by decide +kernel
theorem dX0_inserted_6 : decode cX0_inserted 6 = .ok (.astore 4, 2) := by decide +kernel
theorem dX0_inserted_8 : decode cX0_inserted 8 = .ok (.aload_n 0, 1) := by decide +kernel
theorem dX0_inserted_9 : decode cX0_inserted 9 = .ok (.iconst 0, 1) := by decide +kernel
theorem dX0_inserted_10 : decode cX0_inserted 10 = .ok (.aload 4, 2) := by decide +kernel
theorem dX0_inserted_12 : decode cX0_inserted 12 = .ok (.iconst 0, 1) := by decide +kernel
theorem dX0_inserted_13 : decode cX0_inserted 13 = .ok (.iload_n 1, 1) := by decide +kernel
theorem dX0_inserted_14 : decode cX0_inserted 14 = .ok (.invokestatic 71, 3) := by decide +kernel
theorem dX0_inserted_17 : decode cX0_inserted 17 = .ok (.aload 4, 2) := by decide +kernel
theorem dX0_inserted_19 : decode cX0_inserted 19 = .ok (.iload_n 1, 1) := by decide +kernel
theorem dX0_inserted_20 : decode cX0_inserted 20 = .ok (.lload_n 2, 1) := by decide +kernel
theorem dX0_inserted_21 : decode cX0_inserted 21 = .ok (.lastore, 1) := by decide +kernel
theorem dX0_inserted_22 : decode cX0_inserted 22 = .ok (.aload_n 0, 1) := by decide +kernel
theorem dX0_inserted_23 : decode cX0_inserted 23 = .ok (.iload_n 1, 1) := by decide +kernel
theorem dX0_inserted_24 : decode cX0_inserted 24 = .ok (.aload 4, 2) := by decide +kernel
theorem dX0_inserted_26 : decode cX0_inserted 26 = .ok (.iload_n 1, 1) := by decide +kernel
theorem dX0_inserted_27 : decode cX0_inserted 27 = .ok (.iconst 1, 1) := by decide +kernel
theorem dX0_inserted_28 : decode cX0_inserted 28 = .ok (.iadd, 1) := by decide +kernel
theorem dX0_inserted_29 : decode cX0_inserted 29 = .ok (.aload_n 0, 1) := by decide +kernel
theorem dX0_inserted_30 : decode cX0_inserted 30 = .ok (.arraylength, 1) := by decide +kernel
theorem dX0_inserted_31 : decode cX0_inserted 31 = .ok (.iload_n 1, 1) := by decide +kernel
theorem dX0_inserted_32 : decode cX0_inserted 32 = .ok (.isub, 1) := by decide +kernel
theorem dX0_inserted_33 : decode cX0_inserted 33 = .ok (.invokestatic 71, 3) := by decide +kernel
theorem dX0_inserted_36 : decode cX0_inserted 36 = .ok (.aload 4, 2) := by decide +kernel
theorem dX0_inserted_38 : decode cX0_inserted 38 = .ok (.areturn, 1) := by decide +kernel
theorem dX0_without_0 : decode cX0_without 0 = .ok (.aload_n 0, 1) := by decide +kernel
theorem dX0_without_1 : decode cX0_without 1 = .ok (.arraylength, 1) := by decide +kernel
theorem dX0_without_2 : decode cX0_without 2 = .ok (.iconst 1, 1) := by decide +kernel
theorem dX0_without_3 : decode cX0_without 3 = .ok (.isub, 1) := by decide +kernel
theorem dX0_without_4 : decode cX0_without 4 = .ok (.newarray .long, 2) := by decide +kernel
theorem dX0_without_6 : decode cX0_without 6 = .ok (.astore_n 2, 1) := by decide +kernel
theorem dX0_without_7 : decode cX0_without 7 = .ok (.aload_n 0, 1) := by decide +kernel
theorem dX0_without_8 : decode cX0_without 8 = .ok (.iconst 0, 1) := by decide +kernel
theorem dX0_without_9 : decode cX0_without 9 = .ok (.aload_n 2, 1) := by decide +kernel
theorem dX0_without_10 : decode cX0_without 10 = .ok (.iconst 0, 1) := by decide +kernel
theorem dX0_without_11 : decode cX0_without 11 = .ok (.iload_n 1, 1) := by decide +kernel
theorem dX0_without_12 : decode cX0_without 12 = .ok (.invokestatic 71, 3) := by decide +kernel
theorem dX0_without_15 : decode cX0_without 15 = .ok (.aload_n 0, 1) := by decide +kernel
theorem dX0_without_16 : decode cX0_without 16 = .ok (.iload_n 1, 1) := by decide +kernel
theorem dX0_without_17 : decode cX0_without 17 = .ok (.iconst 1, 1) := by decide +kernel
theorem dX0_without_18 : decode cX0_without 18 = .ok (.iadd, 1) := by decide +kernel
theorem dX0_without_19 : decode cX0_without 19 = .ok (.aload_n 2, 1) := by decide +kernel
theorem dX0_without_20 : decode cX0_without 20 = .ok (.iload_n 1, 1) := by decide +kernel
theorem dX0_without_21 : decode cX0_without 21 = .ok (.aload_n 2, 1) := by decide +kernel
theorem dX0_without_22 : decode cX0_without 22 = .ok (.arraylength, 1) := by decide +kernel
theorem dX0_without_23 : decode cX0_without 23 = .ok (.iload_n 1, 1) := by decide +kernel
theorem dX0_without_24 : decode cX0_without 24 = .ok (.isub, 1) := by decide +kernel
theorem dX0_without_25 : decode cX0_without 25 = .ok (.invokestatic 71, 3) := by decide +kernel
theorem dX0_without_28 : decode cX0_without 28 = .ok (.aload_n 2, 1) := by decide +kernel
theorem dX0_without_29 : decode cX0_without 29 = .ok (.areturn, 1) := by decide +kernel
theorem dX1_init_0 : decode cX1_init 0 = .ok (.aload_n 0, 1) := by decide +kernel
theorem dX1_init_1 : decode cX1_init 1 = .ok (.invokespecial 3, 3) := by decide +kernel
theorem dX1_init_4 : decode cX1_init 4 = .ok (.aload_n 0, 1) := by decide +kernel
theorem dX1_init_5 : decode cX1_init 5 = .ok (.iconst 4, 1) := by decide +kernel
theorem dX1_init_6 : decode cX1_init 6 = .ok (.anewarray 9, 3) := by decide +kernel
theorem dX1_init_9 : decode cX1_init 9 = .ok (.putfield 11, 3) := by decide +kernel
theorem dX1_init_12 : decode cX1_init 12 = .ok (.aload_n 0, 1) := by decide +kernel
theorem dX1_init_13 : decode cX1_init 13 = .ok (.iconst 0, 1) := by decide +kernel
theorem dX1_init_14 : decode cX1_init 14 = .ok (.putfield 17, 3) := by decide +kernel
theorem dX1_init_17 : decode cX1_init 17 = .ok (.return_, 1) := by decide +kernel
theorem dX1_isShared_0 : decode cX1_isShared 0 = .ok (.aload_n 0, 1) := by decide +kernel
theorem dX1_isShared_1 : decode cX1_isShared 1 = .ok (.getfield 17, 3) := by decide +kernel
theorem dX1_isShared_4 : decode cX1_isShared 4 = .ok (.ifCond .le 7, 3) := by decide +kernel
theorem dX1_isShared_7 : decode cX1_isShared 7 = .ok (.iconst 1, 1) := by decide +kernel
theorem dX1_isShared_8 : decode cX1_isShared 8 = .ok (.goto 4, 3) := by decide +kernel
theorem dX1_isShared_11 : decode cX1_isShared 11 = .ok (.iconst 0, 1) := by decide +kernel
theorem dX1_isShared_12 : decode cX1_isShared 12 = .ok (.ireturn, 1) := by decide +kernel
set_option maxRecDepth 20000 in
theorem ggX1_copied_X1_init : GoodIn wsX1_copied wsX1_init := goodIn_r _ [13, 14, 15, 16, 17, 4, 18, 19, 20] (by decide +kernel) (by decide +kernel)
set_option maxRecDepth 20000 in
theorem gX1_copied_X1_init : GoodIn wsX1_copied (wsX1_init) := ggX1_copied_X1_init
theorem dX1_copied_0 : decode cX1_copied 0 = .ok (.new 12, 3) := by decide +kernel
theorem dX1_copied_3 : decode cX1_copied 3 = .ok (.dup, 1) := by decide +kernel
theorem dX1_copied_4 : decode cX1_copied 4 = .ok (.invokespecial 21, 3) := by decide +kernel
theorem dX1_copied_7 : decode cX1_copied 7 = .ok (.astore_n 1, 1) := by decide +kernel
theorem dX1_copied_8 : decode cX1_copied 8 = .ok (.aload_n 1, 1) := by decide +kernel
theorem dX1_copied_9 : decode cX1_copied 9 = .ok (.aload_n 0, 1) := by decide +kernel
theorem dX1_copied_10 : decode cX1_copied 10 = .ok (.getfield 11, 3) := by decide +kernel
theorem dX1_copied_13 : decode cX1_copied 13 = .ok (.invokevirtual 22, 3) := by decide +kernel
theorem dX1_copied_16 : decode cX1_copied 16 = .ok (.checkcast 23, 3) := by decide +kernel
theorem dX1_copied_19 : decode cX1_copied 19 = .ok (.putfield 11, 3) := by decide +kernel
theorem dX1_copied_22 : decode cX1_copied 22 = .ok (.aload_n 1, 1) := by decide +kernel
theorem dX1_copied_23 : decode cX1_copied 23 = .ok (.areturn, 1) := by decide +kernel
set_option maxRecDepth 20000 in
theorem ggX1_rowOf_X0_isAt : GoodIn wsX1_rowOf wsX0_isAt := goodIn_r _ [6, 7, 8, 9, 12, 13, 14, 15, 16, 17] (by decide +kernel) (by decide +kernel)
set_option maxRecDepth 20000 in
theorem gX1_rowOf_X0_isAt : GoodIn wsX1_rowOf (wsV RX1 27 RX0 yX0_isAt wsX0_isAt) := goodIn_app (goodIn_of _ (by decide +kernel)) ggX1_rowOf_X0_isAt
theorem dX1_rowOf_0 : decode cX1_rowOf 0 = .ok (.iconst 0, 1) := by decide +kernel
theorem dX1_rowOf_1 : decode cX1_rowOf 1 = .ok (.istore 5, 2) := by decide +kernel
theorem dX1_rowOf_3 : decode cX1_rowOf 3 = .ok (.iload 5, 2) := by decide +kernel
theorem dX1_rowOf_5 : decode cX1_rowOf 5 = .ok (.aload_n 0, 1) := by decide +kernel
theorem dX1_rowOf_6 : decode cX1_rowOf 6 = .ok (.getfield 11, 3) := by decide +kernel
theorem dX1_rowOf_9 : decode cX1_rowOf 9 = .ok (.arraylength, 1) := by decide +kernel
theorem dX1_rowOf_10 : decode cX1_rowOf 10 = .ok (.if_icmp .ge 39, 3) := by decide +kernel
theorem dX1_rowOf_13 : decode cX1_rowOf 13 = .ok (.aload_n 0, 1) := by decide +kernel
theorem dX1_rowOf_14 : decode cX1_rowOf 14 = .ok (.getfield 11, 3) := by decide +kernel
theorem dX1_rowOf_17 : decode cX1_rowOf 17 = .ok (.iload 5, 2) := by decide +kernel
theorem dX1_rowOf_19 : decode cX1_rowOf 19 = .ok (.aaload, 1) := by decide +kernel
theorem dX1_rowOf_20 : decode cX1_rowOf 20 = .ok (.ifnull 23, 3) := by decide +kernel
theorem dX1_rowOf_23 : decode cX1_rowOf 23 = .ok (.aload_n 0, 1) := by decide +kernel
theorem dX1_rowOf_24 : decode cX1_rowOf 24 = .ok (.getfield 11, 3) := by decide +kernel
theorem dX1_rowOf_27 : decode cX1_rowOf 27 = .ok (.iload 5, 2) := by decide +kernel
theorem dX1_rowOf_29 : decode cX1_rowOf 29 = .ok (.aaload, 1) := by decide +kernel
theorem dX1_rowOf_30 : decode cX1_rowOf 30 = .ok (.iload_n 1, 1) := by decide +kernel
theorem dX1_rowOf_31 : decode cX1_rowOf 31 = .ok (.lload_n 2, 1) := by decide +kernel
theorem dX1_rowOf_32 : decode cX1_rowOf 32 = .ok (.iload 4, 2) := by decide +kernel
theorem dX1_rowOf_34 : decode cX1_rowOf 34 = .ok (.invokevirtual 27, 3) := by decide +kernel
theorem dX1_rowOf_37 : decode cX1_rowOf 37 = .ok (.ifCond .eq 6, 3) := by decide +kernel
theorem dX1_rowOf_40 : decode cX1_rowOf 40 = .ok (.iload 5, 2) := by decide +kernel
theorem dX1_rowOf_42 : decode cX1_rowOf 42 = .ok (.ireturn, 1) := by decide +kernel
theorem dX1_rowOf_43 : decode cX1_rowOf 43 = .ok (.iinc 5 1, 3) := by decide +kernel
theorem dX1_rowOf_46 : decode cX1_rowOf 46 = .ok (.goto (-43), 3) := by decide +kernel
theorem dX1_rowOf_49 : decode cX1_rowOf 49 = .ok (.iconst (-1), 1) := by decide +kernel
theorem dX1_rowOf_50 : decode cX1_rowOf 50 = .ok (.ireturn, 1) := by decide +kernel
set_option maxRecDepth 20000 in
theorem ggX1_keepEntry_X1_rowOf : GoodIn wsX1_keepEntry wsX1_rowOf := goodIn_r _ [9, 4, 10, 11, 12, 13, 14, 15, 16, 17, 34, 35, 28, 29, 30, 31, 32, 33] (by decide +kernel) (by decide +kernel)
set_option maxRecDepth 20000 in
theorem gX1_keepEntry_X1_rowOf : GoodIn wsX1_keepEntry (wsV RX1 41 RX1 yX1_rowOf wsX1_rowOf) := goodIn_app (goodIn_of _ (by decide +kernel)) ggX1_keepEntry_X1_rowOf
set_option maxRecDepth 20000 in
theorem ggX1_keepEntry_X1_freeRow : GoodIn wsX1_keepEntry wsX1_freeRow := goodIn_r _ [21, 4, 22, 34, 35] (by decide +kernel) (by decide +kernel)
set_option maxRecDepth 20000 in
theorem gX1_keepEntry_X1_freeRow : GoodIn wsX1_keepEntry (wsV RX1 45 RX1 yX1_freeRow wsX1_freeRow) := goodIn_app (goodIn_of _ (by decide +kernel)) ggX1_keepEntry_X1_freeRow
set_option maxRecDepth 20000 in
theorem ggX1_keepEntry_X0_isNone : GoodIn wsX1_keepEntry wsX0_isNone := goodIn_r _ [26, 27, 28, 29, 30, 31, 32, 33] (by decide +kernel) (by decide +kernel)
set_option maxRecDepth 20000 in
theorem gX1_keepEntry_X0_isNone : GoodIn wsX1_keepEntry (wsV RX1 49 RX0 yX0_isNone wsX0_isNone) := goodIn_app (goodIn_of _ (by decide +kernel)) ggX1_keepEntry_X0_isNone
theorem dX1_keepEntry_0 : decode cX1_keepEntry 0 = .ok (.aload_n 0, 1) := by decide +kernel
theorem dX1_keepEntry_1 : decode cX1_keepEntry 1 = .ok (.aload_n 1, 1) := by decide +kernel
theorem dX1_keepEntry_2 : decode cX1_keepEntry 2 = .ok (.getfield 31, 3) := by decide +kernel
theorem dX1_keepEntry_5 : decode cX1_keepEntry 5 = .ok (.aload_n 1, 1) := by decide +kernel
theorem dX1_keepEntry_6 : decode cX1_keepEntry 6 = .ok (.getfield 34, 3) := by decide +kernel
theorem dX1_keepEntry_9 : decode cX1_keepEntry 9 = .ok (.aload_n 1, 1) := by decide +kernel
theorem dX1_keepEntry_10 : decode cX1_keepEntry 10 = .ok (.getfield 38, 3) := by decide +kernel
theorem dX1_keepEntry_13 : decode cX1_keepEntry 13 = .ok (.invokevirtual 41, 3) := by decide +kernel
theorem dX1_keepEntry_16 : decode cX1_keepEntry 16 = .ok (.istore_n 2, 1) := by decide +kernel
theorem dX1_keepEntry_17 : decode cX1_keepEntry 17 = .ok (.iload_n 2, 1) := by decide +kernel
theorem dX1_keepEntry_18 : decode cX1_keepEntry 18 = .ok (.iconst (-1), 1) := by decide +kernel
theorem dX1_keepEntry_19 : decode cX1_keepEntry 19 = .ok (.if_icmp .ne 8, 3) := by decide +kernel
theorem dX1_keepEntry_22 : decode cX1_keepEntry 22 = .ok (.aload_n 0, 1) := by decide +kernel
theorem dX1_keepEntry_23 : decode cX1_keepEntry 23 = .ok (.invokevirtual 45, 3) := by decide +kernel
theorem dX1_keepEntry_26 : decode cX1_keepEntry 26 = .ok (.istore_n 2, 1) := by decide +kernel
theorem dX1_keepEntry_27 : decode cX1_keepEntry 27 = .ok (.aload_n 0, 1) := by decide +kernel
theorem dX1_keepEntry_28 : decode cX1_keepEntry 28 = .ok (.getfield 11, 3) := by decide +kernel
theorem dX1_keepEntry_31 : decode cX1_keepEntry 31 = .ok (.iload_n 2, 1) := by decide +kernel
theorem dX1_keepEntry_32 : decode cX1_keepEntry 32 = .ok (.aload_n 1, 1) := by decide +kernel
theorem dX1_keepEntry_33 : decode cX1_keepEntry 33 = .ok (.invokevirtual 49, 3) := by decide +kernel
theorem dX1_keepEntry_36 : decode cX1_keepEntry 36 = .ok (.ifCond .eq 7, 3) := by decide +kernel
theorem dX1_keepEntry_39 : decode cX1_keepEntry 39 = .ok (.aconst_null, 1) := by decide +kernel
theorem dX1_keepEntry_40 : decode cX1_keepEntry 40 = .ok (.goto 4, 3) := by decide +kernel
theorem dX1_keepEntry_43 : decode cX1_keepEntry 43 = .ok (.aload_n 1, 1) := by decide +kernel
theorem dX1_keepEntry_44 : decode cX1_keepEntry 44 = .ok (.aastore, 1) := by decide +kernel
theorem dX1_keepEntry_45 : decode cX1_keepEntry 45 = .ok (.return_, 1) := by decide +kernel
theorem dX1_freeRow_0 : decode cX1_freeRow 0 = .ok (.iconst 0, 1) := by decide +kernel
theorem dX1_freeRow_1 : decode cX1_freeRow 1 = .ok (.istore_n 1, 1) := by decide +kernel
theorem dX1_freeRow_2 : decode cX1_freeRow 2 = .ok (.iload_n 1, 1) := by decide +kernel
theorem dX1_freeRow_3 : decode cX1_freeRow 3 = .ok (.aload_n 0, 1) := by decide +kernel
theorem dX1_freeRow_4 : decode cX1_freeRow 4 = .ok (.getfield 11, 3) := by decide +kernel
theorem dX1_freeRow_7 : decode cX1_freeRow 7 = .ok (.arraylength, 1) := by decide +kernel
theorem dX1_freeRow_8 : decode cX1_freeRow 8 = .ok (.if_icmp .ge 20, 3) := by decide +kernel
theorem dX1_freeRow_11 : decode cX1_freeRow 11 = .ok (.aload_n 0, 1) := by decide +kernel
theorem dX1_freeRow_12 : decode cX1_freeRow 12 = .ok (.getfield 11, 3) := by decide +kernel
theorem dX1_freeRow_15 : decode cX1_freeRow 15 = .ok (.iload_n 1, 1) := by decide +kernel
theorem dX1_freeRow_16 : decode cX1_freeRow 16 = .ok (.aaload, 1) := by decide +kernel
theorem dX1_freeRow_17 : decode cX1_freeRow 17 = .ok (.ifnonnull 5, 3) := by decide +kernel
theorem dX1_freeRow_20 : decode cX1_freeRow 20 = .ok (.iload_n 1, 1) := by decide +kernel
theorem dX1_freeRow_21 : decode cX1_freeRow 21 = .ok (.ireturn, 1) := by decide +kernel
theorem dX1_freeRow_22 : decode cX1_freeRow 22 = .ok (.iinc 1 1, 3) := by decide +kernel
theorem dX1_freeRow_25 : decode cX1_freeRow 25 = .ok (.goto (-23), 3) := by decide +kernel
theorem dX1_freeRow_28 : decode cX1_freeRow 28 = .ok (.aload_n 0, 1) := by decide +kernel
theorem dX1_freeRow_29 : decode cX1_freeRow 29 = .ok (.getfield 11, 3) := by decide +kernel
theorem dX1_freeRow_32 : decode cX1_freeRow 32 = .ok (.arraylength, 1) := by decide +kernel
theorem dX1_freeRow_33 : decode cX1_freeRow 33 = .ok (.istore_n 1, 1) := by decide +kernel
theorem dX1_freeRow_34 : decode cX1_freeRow 34 = .ok (.iload_n 1, 1) := by decide +kernel
theorem dX1_freeRow_35 : decode cX1_freeRow 35 = .ok (.iconst 2, 1) := by decide +kernel
theorem dX1_freeRow_36 : decode cX1_freeRow 36 = .ok (.imul, 1) := by decide +kernel
theorem dX1_freeRow_37 : decode cX1_freeRow 37 = .ok (.anewarray 9, 3) := by decide +kernel
theorem dX1_freeRow_40 : decode cX1_freeRow 40 = .ok (.astore_n 2, 1) := by decide +kernel
theorem dX1_freeRow_41 : decode cX1_freeRow 41 = .ok (.iconst 0, 1) := by decide +kernel
theorem dX1_freeRow_42 : decode cX1_freeRow 42 = .ok (.istore_n 3, 1) := by decide +kernel
theorem dX1_freeRow_43 : decode cX1_freeRow 43 = .ok (.iload_n 3, 1) := by decide +kernel
theorem dX1_freeRow_44 : decode cX1_freeRow 44 = .ok (.iload_n 1, 1) := by decide +kernel
theorem dX1_freeRow_45 : decode cX1_freeRow 45 = .ok (.if_icmp .ge 18, 3) := by decide +kernel
theorem dX1_freeRow_48 : decode cX1_freeRow 48 = .ok (.aload_n 2, 1) := by decide +kernel
theorem dX1_freeRow_49 : decode cX1_freeRow 49 = .ok (.iload_n 3, 1) := by decide +kernel
theorem dX1_freeRow_50 : decode cX1_freeRow 50 = .ok (.aload_n 0, 1) := by decide +kernel
theorem dX1_freeRow_51 : decode cX1_freeRow 51 = .ok (.getfield 11, 3) := by decide +kernel
theorem dX1_freeRow_54 : decode cX1_freeRow 54 = .ok (.iload_n 3, 1) := by decide +kernel
theorem dX1_freeRow_55 : decode cX1_freeRow 55 = .ok (.aaload, 1) := by decide +kernel
theorem dX1_freeRow_56 : decode cX1_freeRow 56 = .ok (.aastore, 1) := by decide +kernel
theorem dX1_freeRow_57 : decode cX1_freeRow 57 = .ok (.iinc 3 1, 3) := by decide +kernel
theorem dX1_freeRow_60 : decode cX1_freeRow 60 = .ok (.goto (-17), 3) := by decide +kernel
theorem dX1_freeRow_63 : decode cX1_freeRow 63 = .ok (.aload_n 0, 1) := by decide +kernel
theorem dX1_freeRow_64 : decode cX1_freeRow 64 = .ok (.aload_n 2, 1) := by decide +kernel
theorem dX1_freeRow_65 : decode cX1_freeRow 65 = .ok (.putfield 11, 3) := by decide +kernel
theorem dX1_freeRow_68 : decode cX1_freeRow 68 = .ok (.iload_n 1, 1) := by decide +kernel
theorem dX1_freeRow_69 : decode cX1_freeRow 69 = .ok (.ireturn, 1) := by decide +kernel
theorem dX1_hasSpan_0 : decode cX1_hasSpan 0 = .ok (.iconst 0, 1) := by decide +kernel
theorem dX1_hasSpan_1 : decode cX1_hasSpan 1 = .ok (.istore_n 2, 1) := by decide +kernel
theorem dX1_hasSpan_2 : decode cX1_hasSpan 2 = .ok (.iload_n 2, 1) := by decide +kernel
theorem dX1_hasSpan_3 : decode cX1_hasSpan 3 = .ok (.aload_n 0, 1) := by decide +kernel
theorem dX1_hasSpan_4 : decode cX1_hasSpan 4 = .ok (.getfield 11, 3) := by decide +kernel
theorem dX1_hasSpan_7 : decode cX1_hasSpan 7 = .ok (.arraylength, 1) := by decide +kernel
theorem dX1_hasSpan_8 : decode cX1_hasSpan 8 = .ok (.if_icmp .ge 33, 3) := by decide +kernel
theorem dX1_hasSpan_11 : decode cX1_hasSpan 11 = .ok (.aload_n 0, 1) := by decide +kernel
theorem dX1_hasSpan_12 : decode cX1_hasSpan 12 = .ok (.getfield 11, 3) := by decide +kernel
theorem dX1_hasSpan_15 : decode cX1_hasSpan 15 = .ok (.iload_n 2, 1) := by decide +kernel
theorem dX1_hasSpan_16 : decode cX1_hasSpan 16 = .ok (.aaload, 1) := by decide +kernel
theorem dX1_hasSpan_17 : decode cX1_hasSpan 17 = .ok (.ifnull 18, 3) := by decide +kernel
theorem dX1_hasSpan_20 : decode cX1_hasSpan 20 = .ok (.aload_n 0, 1) := by decide +kernel
theorem dX1_hasSpan_21 : decode cX1_hasSpan 21 = .ok (.getfield 11, 3) := by decide +kernel
theorem dX1_hasSpan_24 : decode cX1_hasSpan 24 = .ok (.iload_n 2, 1) := by decide +kernel
theorem dX1_hasSpan_25 : decode cX1_hasSpan 25 = .ok (.aaload, 1) := by decide +kernel
theorem dX1_hasSpan_26 : decode cX1_hasSpan 26 = .ok (.getfield 38, 3) := by decide +kernel
theorem dX1_hasSpan_29 : decode cX1_hasSpan 29 = .ok (.iload_n 1, 1) := by decide +kernel
theorem dX1_hasSpan_30 : decode cX1_hasSpan 30 = .ok (.if_icmp .ne 5, 3) := by decide +kernel
theorem dX1_hasSpan_33 : decode cX1_hasSpan 33 = .ok (.iconst 1, 1) := by decide +kernel
theorem dX1_hasSpan_34 : decode cX1_hasSpan 34 = .ok (.ireturn, 1) := by decide +kernel
theorem dX1_hasSpan_35 : decode cX1_hasSpan 35 = .ok (.iinc 2 1, 3) := by decide +kernel
theorem dX1_hasSpan_38 : decode cX1_hasSpan 38 = .ok (.goto (-36), 3) := by decide +kernel
theorem dX1_hasSpan_41 : decode cX1_hasSpan 41 = .ok (.iconst 0, 1) := by decide +kernel
theorem dX1_hasSpan_42 : decode cX1_hasSpan 42 = .ok (.ireturn, 1) := by decide +kernel
theorem dX1_loseSpan_0 : decode cX1_loseSpan 0 = .ok (.iconst 0, 1) := by decide +kernel
theorem dX1_loseSpan_1 : decode cX1_loseSpan 1 = .ok (.istore_n 2, 1) := by decide +kernel
theorem dX1_loseSpan_2 : decode cX1_loseSpan 2 = .ok (.iconst 0, 1) := by decide +kernel
theorem dX1_loseSpan_3 : decode cX1_loseSpan 3 = .ok (.istore_n 3, 1) := by decide +kernel
theorem dX1_loseSpan_4 : decode cX1_loseSpan 4 = .ok (.iload_n 3, 1) := by decide +kernel
theorem dX1_loseSpan_5 : decode cX1_loseSpan 5 = .ok (.aload_n 0, 1) := by decide +kernel
theorem dX1_loseSpan_6 : decode cX1_loseSpan 6 = .ok (.getfield 11, 3) := by decide +kernel
theorem dX1_loseSpan_9 : decode cX1_loseSpan 9 = .ok (.arraylength, 1) := by decide +kernel
theorem dX1_loseSpan_10 : decode cX1_loseSpan 10 = .ok (.if_icmp .ge 41, 3) := by decide +kernel
theorem dX1_loseSpan_13 : decode cX1_loseSpan 13 = .ok (.aload_n 0, 1) := by decide +kernel
theorem dX1_loseSpan_14 : decode cX1_loseSpan 14 = .ok (.getfield 11, 3) := by decide +kernel
theorem dX1_loseSpan_17 : decode cX1_loseSpan 17 = .ok (.iload_n 3, 1) := by decide +kernel
theorem dX1_loseSpan_18 : decode cX1_loseSpan 18 = .ok (.aaload, 1) := by decide +kernel
theorem dX1_loseSpan_19 : decode cX1_loseSpan 19 = .ok (.ifnull 26, 3) := by decide +kernel
theorem dX1_loseSpan_22 : decode cX1_loseSpan 22 = .ok (.aload_n 0, 1) := by decide +kernel
theorem dX1_loseSpan_23 : decode cX1_loseSpan 23 = .ok (.getfield 11, 3) := by decide +kernel
theorem dX1_loseSpan_26 : decode cX1_loseSpan 26 = .ok (.iload_n 3, 1) := by decide +kernel
theorem dX1_loseSpan_27 : decode cX1_loseSpan 27 = .ok (.aaload, 1) := by decide +kernel
theorem dX1_loseSpan_28 : decode cX1_loseSpan 28 = .ok (.getfield 38, 3) := by decide +kernel
theorem dX1_loseSpan_31 : decode cX1_loseSpan 31 = .ok (.iload_n 1, 1) := by decide +kernel
theorem dX1_loseSpan_32 : decode cX1_loseSpan 32 = .ok (.if_icmp .ne 13, 3) := by decide +kernel
theorem dX1_loseSpan_35 : decode cX1_loseSpan 35 = .ok (.aload_n 0, 1) := by decide +kernel
theorem dX1_loseSpan_36 : decode cX1_loseSpan 36 = .ok (.getfield 11, 3) := by decide +kernel
theorem dX1_loseSpan_39 : decode cX1_loseSpan 39 = .ok (.iload_n 3, 1) := by decide +kernel
theorem dX1_loseSpan_40 : decode cX1_loseSpan 40 = .ok (.aconst_null, 1) := by decide +kernel
theorem dX1_loseSpan_41 : decode cX1_loseSpan 41 = .ok (.aastore, 1) := by decide +kernel
theorem dX1_loseSpan_42 : decode cX1_loseSpan 42 = .ok (.iinc 2 1, 3) := by decide +kernel
theorem dX1_loseSpan_45 : decode cX1_loseSpan 45 = .ok (.iinc 3 1, 3) := by decide +kernel
theorem dX1_loseSpan_48 : decode cX1_loseSpan 48 = .ok (.goto (-44), 3) := by decide +kernel
theorem dX1_loseSpan_51 : decode cX1_loseSpan 51 = .ok (.iload_n 2, 1) := by decide +kernel
theorem dX1_loseSpan_52 : decode cX1_loseSpan 52 = .ok (.ireturn, 1) := by decide +kernel
set_option maxRecDepth 20000 in
theorem ggX1_allFit_X0_allFit : GoodIn wsX1_allFit wsX0_allFit := goodIn_r _ [7, 8, 9, 10, 11, 12, 13, 16, 17, 18, 19, 20, 21] (by decide +kernel) (by decide +kernel)
set_option maxRecDepth 20000 in
theorem gX1_allFit_X0_allFit : GoodIn wsX1_allFit (wsV RX1 53 RX0 yX0_allFit wsX0_allFit) := goodIn_app (goodIn_of _ (by decide +kernel)) ggX1_allFit_X0_allFit
theorem dX1_allFit_0 : decode cX1_allFit 0 = .ok (.iconst 0, 1) := by decide +kernel
theorem dX1_allFit_1 : decode cX1_allFit 1 = .ok (.istore 4, 2) := by decide +kernel
theorem dX1_allFit_3 : decode cX1_allFit 3 = .ok (.iload 4, 2) := by decide +kernel
theorem dX1_allFit_5 : decode cX1_allFit 5 = .ok (.aload_n 0, 1) := by decide +kernel
theorem dX1_allFit_6 : decode cX1_allFit 6 = .ok (.getfield 11, 3) := by decide +kernel
theorem dX1_allFit_9 : decode cX1_allFit 9 = .ok (.arraylength, 1) := by decide +kernel
theorem dX1_allFit_10 : decode cX1_allFit 10 = .ok (.if_icmp .ge 50, 3) := by decide +kernel
theorem dX1_allFit_13 : decode cX1_allFit 13 = .ok (.aload_n 0, 1) := by decide +kernel
theorem dX1_allFit_14 : decode cX1_allFit 14 = .ok (.getfield 11, 3) := by decide +kernel
theorem dX1_allFit_17 : decode cX1_allFit 17 = .ok (.iload 4, 2) := by decide +kernel
theorem dX1_allFit_19 : decode cX1_allFit 19 = .ok (.aaload, 1) := by decide +kernel
theorem dX1_allFit_20 : decode cX1_allFit 20 = .ok (.ifnull 34, 3) := by decide +kernel
theorem dX1_allFit_23 : decode cX1_allFit 23 = .ok (.aload_n 0, 1) := by decide +kernel
theorem dX1_allFit_24 : decode cX1_allFit 24 = .ok (.getfield 11, 3) := by decide +kernel
theorem dX1_allFit_27 : decode cX1_allFit 27 = .ok (.iload 4, 2) := by decide +kernel
theorem dX1_allFit_29 : decode cX1_allFit 29 = .ok (.aaload, 1) := by decide +kernel
theorem dX1_allFit_30 : decode cX1_allFit 30 = .ok (.getfield 31, 3) := by decide +kernel
theorem dX1_allFit_33 : decode cX1_allFit 33 = .ok (.iload_n 1, 1) := by decide +kernel
theorem dX1_allFit_34 : decode cX1_allFit 34 = .ok (.if_icmp .ne 20, 3) := by decide +kernel
theorem dX1_allFit_37 : decode cX1_allFit 37 = .ok (.aload_n 0, 1) := by decide +kernel
theorem dX1_allFit_38 : decode cX1_allFit 38 = .ok (.getfield 11, 3) := by decide +kernel
theorem dX1_allFit_41 : decode cX1_allFit 41 = .ok (.iload 4, 2) := by decide +kernel
theorem dX1_allFit_43 : decode cX1_allFit 43 = .ok (.aaload, 1) := by decide +kernel
theorem dX1_allFit_44 : decode cX1_allFit 44 = .ok (.iload_n 2, 1) := by decide +kernel
theorem dX1_allFit_45 : decode cX1_allFit 45 = .ok (.iload_n 3, 1) := by decide +kernel
theorem dX1_allFit_46 : decode cX1_allFit 46 = .ok (.invokevirtual 53, 3) := by decide +kernel
theorem dX1_allFit_49 : decode cX1_allFit 49 = .ok (.ifCond .ne 5, 3) := by decide +kernel
theorem dX1_allFit_52 : decode cX1_allFit 52 = .ok (.iconst 0, 1) := by decide +kernel
theorem dX1_allFit_53 : decode cX1_allFit 53 = .ok (.ireturn, 1) := by decide +kernel
theorem dX1_allFit_54 : decode cX1_allFit 54 = .ok (.iinc 4 1, 3) := by decide +kernel
theorem dX1_allFit_57 : decode cX1_allFit 57 = .ok (.goto (-54), 3) := by decide +kernel
theorem dX1_allFit_60 : decode cX1_allFit 60 = .ok (.iconst 1, 1) := by decide +kernel
theorem dX1_allFit_61 : decode cX1_allFit 61 = .ok (.ireturn, 1) := by decide +kernel
set_option maxRecDepth 20000 in
theorem ggX1_moveEntries_X0_movedTo : GoodIn wsX1_moveEntries wsX0_movedTo := goodIn_r _ [7, 8, 9, 10, 11, 6, 12, 13, 14, 15, 16, 17, 18, 19, 20, 21, 22, 23, 24, 25, 26, 27, 28, 29, 30, 31, 32, 33, 34, 35, 36, 37, 38, 39, 40, 43, 44, 45, 46, 47, 48] (by decide +kernel) (by decide +kernel)
set_option maxRecDepth 20000 in
theorem gX1_moveEntries_X0_movedTo : GoodIn wsX1_moveEntries (wsV RX1 57 RX0 yX0_movedTo wsX0_movedTo) := goodIn_app (goodIn_of _ (by decide +kernel)) ggX1_moveEntries_X0_movedTo
theorem dX1_moveEntries_0 : decode cX1_moveEntries 0 = .ok (.iconst 0, 1) := by decide +kernel
theorem dX1_moveEntries_1 : decode cX1_moveEntries 1 = .ok (.istore 4, 2) := by decide +kernel
theorem dX1_moveEntries_3 : decode cX1_moveEntries 3 = .ok (.iconst 0, 1) := by decide +kernel
theorem dX1_moveEntries_4 : decode cX1_moveEntries 4 = .ok (.istore 5, 2) := by decide +kernel
theorem dX1_moveEntries_6 : decode cX1_moveEntries 6 = .ok (.iload 5, 2) := by decide +kernel
theorem dX1_moveEntries_8 : decode cX1_moveEntries 8 = .ok (.aload_n 0, 1) := by decide +kernel
theorem dX1_moveEntries_9 : decode cX1_moveEntries 9 = .ok (.getfield 11, 3) := by decide +kernel
theorem dX1_moveEntries_12 : decode cX1_moveEntries 12 = .ok (.arraylength, 1) := by decide +kernel
theorem dX1_moveEntries_13 : decode cX1_moveEntries 13 = .ok (.if_icmp .ge 55, 3) := by decide +kernel
theorem dX1_moveEntries_16 : decode cX1_moveEntries 16 = .ok (.aload_n 0, 1) := by decide +kernel
theorem dX1_moveEntries_17 : decode cX1_moveEntries 17 = .ok (.getfield 11, 3) := by decide +kernel
theorem dX1_moveEntries_20 : decode cX1_moveEntries 20 = .ok (.iload 5, 2) := by decide +kernel
theorem dX1_moveEntries_22 : decode cX1_moveEntries 22 = .ok (.aaload, 1) := by decide +kernel
theorem dX1_moveEntries_23 : decode cX1_moveEntries 23 = .ok (.ifnull 39, 3) := by decide +kernel
theorem dX1_moveEntries_26 : decode cX1_moveEntries 26 = .ok (.aload_n 0, 1) := by decide +kernel
theorem dX1_moveEntries_27 : decode cX1_moveEntries 27 = .ok (.getfield 11, 3) := by decide +kernel
theorem dX1_moveEntries_30 : decode cX1_moveEntries 30 = .ok (.iload 5, 2) := by decide +kernel
theorem dX1_moveEntries_32 : decode cX1_moveEntries 32 = .ok (.aaload, 1) := by decide +kernel
theorem dX1_moveEntries_33 : decode cX1_moveEntries 33 = .ok (.getfield 31, 3) := by decide +kernel
theorem dX1_moveEntries_36 : decode cX1_moveEntries 36 = .ok (.iload_n 1, 1) := by decide +kernel
theorem dX1_moveEntries_37 : decode cX1_moveEntries 37 = .ok (.if_icmp .ne 25, 3) := by decide +kernel
theorem dX1_moveEntries_40 : decode cX1_moveEntries 40 = .ok (.aload_n 0, 1) := by decide +kernel
theorem dX1_moveEntries_41 : decode cX1_moveEntries 41 = .ok (.getfield 11, 3) := by decide +kernel
theorem dX1_moveEntries_44 : decode cX1_moveEntries 44 = .ok (.iload 5, 2) := by decide +kernel
theorem dX1_moveEntries_46 : decode cX1_moveEntries 46 = .ok (.aload_n 0, 1) := by decide +kernel
theorem dX1_moveEntries_47 : decode cX1_moveEntries 47 = .ok (.getfield 11, 3) := by decide +kernel
theorem dX1_moveEntries_50 : decode cX1_moveEntries 50 = .ok (.iload 5, 2) := by decide +kernel
theorem dX1_moveEntries_52 : decode cX1_moveEntries 52 = .ok (.aaload, 1) := by decide +kernel
theorem dX1_moveEntries_53 : decode cX1_moveEntries 53 = .ok (.iload_n 2, 1) := by decide +kernel
theorem dX1_moveEntries_54 : decode cX1_moveEntries 54 = .ok (.iload_n 3, 1) := by decide +kernel
theorem dX1_moveEntries_55 : decode cX1_moveEntries 55 = .ok (.invokevirtual 57, 3) := by decide +kernel
theorem dX1_moveEntries_58 : decode cX1_moveEntries 58 = .ok (.aastore, 1) := by decide +kernel
theorem dX1_moveEntries_59 : decode cX1_moveEntries 59 = .ok (.iinc 4 1, 3) := by decide +kernel
theorem dX1_moveEntries_62 : decode cX1_moveEntries 62 = .ok (.iinc 5 1, 3) := by decide +kernel
theorem dX1_moveEntries_65 : decode cX1_moveEntries 65 = .ok (.goto (-59), 3) := by decide +kernel
theorem dX1_moveEntries_68 : decode cX1_moveEntries 68 = .ok (.iload 4, 2) := by decide +kernel
theorem dX1_moveEntries_70 : decode cX1_moveEntries 70 = .ok (.ireturn, 1) := by decide +kernel
set_option maxRecDepth 20000 in
theorem ggX1_sortKeysInto_X3_countBelow : GoodIn wsX1_sortKeysInto wsX3_countBelow := goodIn_r _ [11] (by decide +kernel) (by decide +kernel)
set_option maxRecDepth 20000 in
theorem gX1_sortKeysInto_X3_countBelow_n61 : GoodIn wsX1_sortKeysInto (wsX3_countBelow) := ggX1_sortKeysInto_X3_countBelow
theorem dX1_sortKeysInto_0 : decode cX1_sortKeysInto 0 = .ok (.iload_n 2, 1) := by decide +kernel
theorem dX1_sortKeysInto_1 : decode cX1_sortKeysInto 1 = .ok (.istore 5, 2) := by decide +kernel
theorem dX1_sortKeysInto_3 : decode cX1_sortKeysInto 3 = .ok (.iconst 0, 1) := by decide +kernel
theorem dX1_sortKeysInto_4 : decode cX1_sortKeysInto 4 = .ok (.istore 6, 2) := by decide +kernel
theorem dX1_sortKeysInto_6 : decode cX1_sortKeysInto 6 = .ok (.iload 6, 2) := by decide +kernel
theorem dX1_sortKeysInto_8 : decode cX1_sortKeysInto 8 = .ok (.aload_n 0, 1) := by decide +kernel
theorem dX1_sortKeysInto_9 : decode cX1_sortKeysInto 9 = .ok (.getfield 11, 3) := by decide +kernel
theorem dX1_sortKeysInto_12 : decode cX1_sortKeysInto 12 = .ok (.arraylength, 1) := by decide +kernel
theorem dX1_sortKeysInto_13 : decode cX1_sortKeysInto 13 = .ok (.if_icmp .ge 106, 3) := by decide +kernel
theorem dX1_sortKeysInto_16 : decode cX1_sortKeysInto 16 = .ok (.iload 5, 2) := by decide +kernel
theorem dX1_sortKeysInto_18 : decode cX1_sortKeysInto 18 = .ok (.aload_n 1, 1) := by decide +kernel
theorem dX1_sortKeysInto_19 : decode cX1_sortKeysInto 19 = .ok (.arraylength, 1) := by decide +kernel
theorem dX1_sortKeysInto_20 : decode cX1_sortKeysInto 20 = .ok (.if_icmp .ge 99, 3) := by decide +kernel
theorem dX1_sortKeysInto_23 : decode cX1_sortKeysInto 23 = .ok (.aload_n 0, 1) := by decide +kernel
theorem dX1_sortKeysInto_24 : decode cX1_sortKeysInto 24 = .ok (.getfield 11, 3) := by decide +kernel
theorem dX1_sortKeysInto_27 : decode cX1_sortKeysInto 27 = .ok (.iload 6, 2) := by decide +kernel
theorem dX1_sortKeysInto_29 : decode cX1_sortKeysInto 29 = .ok (.aaload, 1) := by decide +kernel
theorem dX1_sortKeysInto_30 : decode cX1_sortKeysInto 30 = .ok (.ifnull 83, 3) := by decide +kernel
theorem dX1_sortKeysInto_33 : decode cX1_sortKeysInto 33 = .ok (.aload_n 0, 1) := by decide +kernel
theorem dX1_sortKeysInto_34 : decode cX1_sortKeysInto 34 = .ok (.getfield 11, 3) := by decide +kernel
theorem dX1_sortKeysInto_37 : decode cX1_sortKeysInto 37 = .ok (.iload 6, 2) := by decide +kernel
theorem dX1_sortKeysInto_39 : decode cX1_sortKeysInto 39 = .ok (.aaload, 1) := by decide +kernel
theorem dX1_sortKeysInto_40 : decode cX1_sortKeysInto 40 = .ok (.getfield 31, 3) := by decide +kernel
theorem dX1_sortKeysInto_43 : decode cX1_sortKeysInto 43 = .ok (.iload_n 3, 1) := by decide +kernel
theorem dX1_sortKeysInto_44 : decode cX1_sortKeysInto 44 = .ok (.if_icmp .ne 69, 3) := by decide +kernel
theorem dX1_sortKeysInto_47 : decode cX1_sortKeysInto 47 = .ok (.aload_n 0, 1) := by decide +kernel
theorem dX1_sortKeysInto_48 : decode cX1_sortKeysInto 48 = .ok (.getfield 11, 3) := by decide +kernel
theorem dX1_sortKeysInto_51 : decode cX1_sortKeysInto 51 = .ok (.iload 6, 2) := by decide +kernel
theorem dX1_sortKeysInto_53 : decode cX1_sortKeysInto 53 = .ok (.aaload, 1) := by decide +kernel
theorem dX1_sortKeysInto_54 : decode cX1_sortKeysInto 54 = .ok (.getfield 38, 3) := by decide +kernel
theorem dX1_sortKeysInto_57 : decode cX1_sortKeysInto 57 = .ok (.iload 4, 2) := by decide +kernel
theorem dX1_sortKeysInto_59 : decode cX1_sortKeysInto 59 = .ok (.if_icmp .ne 54, 3) := by decide +kernel
theorem dX1_sortKeysInto_62 : decode cX1_sortKeysInto 62 = .ok (.aload_n 1, 1) := by decide +kernel
theorem dX1_sortKeysInto_63 : decode cX1_sortKeysInto 63 = .ok (.iload 5, 2) := by decide +kernel
theorem dX1_sortKeysInto_65 : decode cX1_sortKeysInto 65 = .ok (.aload_n 0, 1) := by decide +kernel
theorem dX1_sortKeysInto_66 : decode cX1_sortKeysInto 66 = .ok (.getfield 11, 3) := by decide +kernel
theorem dX1_sortKeysInto_69 : decode cX1_sortKeysInto 69 = .ok (.iload 6, 2) := by decide +kernel
theorem dX1_sortKeysInto_71 : decode cX1_sortKeysInto 71 = .ok (.aaload, 1) := by decide +kernel
theorem dX1_sortKeysInto_72 : decode cX1_sortKeysInto 72 = .ok (.getfield 34, 3) := by decide +kernel
theorem dX1_sortKeysInto_75 : decode cX1_sortKeysInto 75 = .ok (.invokestatic 61, 3) := by decide +kernel
theorem dX1_sortKeysInto_78 : decode cX1_sortKeysInto 78 = .ok (.istore 7, 2) := by decide +kernel
theorem dX1_sortKeysInto_80 : decode cX1_sortKeysInto 80 = .ok (.aload_n 1, 1) := by decide +kernel
theorem dX1_sortKeysInto_81 : decode cX1_sortKeysInto 81 = .ok (.iload 7, 2) := by decide +kernel
theorem dX1_sortKeysInto_83 : decode cX1_sortKeysInto 83 = .ok (.aload_n 1, 1) := by decide +kernel
theorem dX1_sortKeysInto_84 : decode cX1_sortKeysInto 84 = .ok (.iload 7, 2) := by decide +kernel
theorem dX1_sortKeysInto_86 : decode cX1_sortKeysInto 86 = .ok (.iconst 1, 1) := by decide +kernel
theorem dX1_sortKeysInto_87 : decode cX1_sortKeysInto 87 = .ok (.iadd, 1) := by decide +kernel
theorem dX1_sortKeysInto_88 : decode cX1_sortKeysInto 88 = .ok (.iload 5, 2) := by decide +kernel
theorem dX1_sortKeysInto_90 : decode cX1_sortKeysInto 90 = .ok (.iload 7, 2) := by decide +kernel
theorem dX1_sortKeysInto_92 : decode cX1_sortKeysInto 92 = .ok (.isub, 1) := by decide +kernel
theorem dX1_sortKeysInto_93 : decode cX1_sortKeysInto 93 = .ok (.invokestatic 65, 3) := by decide +kernel
theorem dX1_sortKeysInto_96 : decode cX1_sortKeysInto 96 = .ok (.aload_n 1, 1) := by decide +kernel
theorem dX1_sortKeysInto_97 : decode cX1_sortKeysInto 97 = .ok (.iload 7, 2) := by decide +kernel
theorem dX1_sortKeysInto_99 : decode cX1_sortKeysInto 99 = .ok (.aload_n 0, 1) := by decide +kernel
theorem dX1_sortKeysInto_100 : decode cX1_sortKeysInto 100 = .ok (.getfield 11, 3) := by decide +kernel
theorem dX1_sortKeysInto_103 : decode cX1_sortKeysInto 103 = .ok (.iload 6, 2) := by decide +kernel
theorem dX1_sortKeysInto_105 : decode cX1_sortKeysInto 105 = .ok (.aaload, 1) := by decide +kernel
theorem dX1_sortKeysInto_106 : decode cX1_sortKeysInto 106 = .ok (.getfield 34, 3) := by decide +kernel
theorem dX1_sortKeysInto_109 : decode cX1_sortKeysInto 109 = .ok (.lastore, 1) := by decide +kernel
theorem dX1_sortKeysInto_110 : decode cX1_sortKeysInto 110 = .ok (.iinc 5 1, 3) := by decide +kernel
theorem dX1_sortKeysInto_113 : decode cX1_sortKeysInto 113 = .ok (.iinc 6 1, 3) := by decide +kernel
theorem dX1_sortKeysInto_116 : decode cX1_sortKeysInto 116 = .ok (.goto (-110), 3) := by decide +kernel
theorem dX1_sortKeysInto_119 : decode cX1_sortKeysInto 119 = .ok (.iload 5, 2) := by decide +kernel
theorem dX1_sortKeysInto_121 : decode cX1_sortKeysInto 121 = .ok (.ireturn, 1) := by decide +kernel
theorem dX1_countEntries_0 : decode cX1_countEntries 0 = .ok (.iconst 0, 1) := by decide +kernel
theorem dX1_countEntries_1 : decode cX1_countEntries 1 = .ok (.istore_n 1, 1) := by decide +kernel
theorem dX1_countEntries_2 : decode cX1_countEntries 2 = .ok (.iconst 0, 1) := by decide +kernel
theorem dX1_countEntries_3 : decode cX1_countEntries 3 = .ok (.istore_n 2, 1) := by decide +kernel
theorem dX1_countEntries_4 : decode cX1_countEntries 4 = .ok (.iload_n 2, 1) := by decide +kernel
theorem dX1_countEntries_5 : decode cX1_countEntries 5 = .ok (.aload_n 0, 1) := by decide +kernel
theorem dX1_countEntries_6 : decode cX1_countEntries 6 = .ok (.getfield 11, 3) := by decide +kernel
theorem dX1_countEntries_9 : decode cX1_countEntries 9 = .ok (.arraylength, 1) := by decide +kernel
theorem dX1_countEntries_10 : decode cX1_countEntries 10 = .ok (.if_icmp .ge 21, 3) := by decide +kernel
theorem dX1_countEntries_13 : decode cX1_countEntries 13 = .ok (.aload_n 0, 1) := by decide +kernel
theorem dX1_countEntries_14 : decode cX1_countEntries 14 = .ok (.getfield 11, 3) := by decide +kernel
theorem dX1_countEntries_17 : decode cX1_countEntries 17 = .ok (.iload_n 2, 1) := by decide +kernel
theorem dX1_countEntries_18 : decode cX1_countEntries 18 = .ok (.aaload, 1) := by decide +kernel
theorem dX1_countEntries_19 : decode cX1_countEntries 19 = .ok (.ifnull 6, 3) := by decide +kernel
theorem dX1_countEntries_22 : decode cX1_countEntries 22 = .ok (.iinc 1 1, 3) := by decide +kernel
theorem dX1_countEntries_25 : decode cX1_countEntries 25 = .ok (.iinc 2 1, 3) := by decide +kernel
theorem dX1_countEntries_28 : decode cX1_countEntries 28 = .ok (.goto (-24), 3) := by decide +kernel
theorem dX1_countEntries_31 : decode cX1_countEntries 31 = .ok (.iload_n 1, 1) := by decide +kernel
theorem dX1_countEntries_32 : decode cX1_countEntries 32 = .ok (.ireturn, 1) := by decide +kernel
theorem dX1_countEntriesOf_0 : decode cX1_countEntriesOf 0 = .ok (.iconst 0, 1) := by decide +kernel
theorem dX1_countEntriesOf_1 : decode cX1_countEntriesOf 1 = .ok (.istore_n 2, 1) := by decide +kernel
theorem dX1_countEntriesOf_2 : decode cX1_countEntriesOf 2 = .ok (.iconst 0, 1) := by decide +kernel
theorem dX1_countEntriesOf_3 : decode cX1_countEntriesOf 3 = .ok (.istore_n 3, 1) := by decide +kernel
theorem dX1_countEntriesOf_4 : decode cX1_countEntriesOf 4 = .ok (.iload_n 3, 1) := by decide +kernel
theorem dX1_countEntriesOf_5 : decode cX1_countEntriesOf 5 = .ok (.aload_n 0, 1) := by decide +kernel
theorem dX1_countEntriesOf_6 : decode cX1_countEntriesOf 6 = .ok (.getfield 11, 3) := by decide +kernel
theorem dX1_countEntriesOf_9 : decode cX1_countEntriesOf 9 = .ok (.arraylength, 1) := by decide +kernel
theorem dX1_countEntriesOf_10 : decode cX1_countEntriesOf 10 = .ok (.if_icmp .ge 34, 3) := by decide +kernel
theorem dX1_countEntriesOf_13 : decode cX1_countEntriesOf 13 = .ok (.aload_n 0, 1) := by decide +kernel
theorem dX1_countEntriesOf_14 : decode cX1_countEntriesOf 14 = .ok (.getfield 11, 3) := by decide +kernel
theorem dX1_countEntriesOf_17 : decode cX1_countEntriesOf 17 = .ok (.iload_n 3, 1) := by decide +kernel
theorem dX1_countEntriesOf_18 : decode cX1_countEntriesOf 18 = .ok (.aaload, 1) := by decide +kernel
theorem dX1_countEntriesOf_19 : decode cX1_countEntriesOf 19 = .ok (.ifnull 19, 3) := by decide +kernel
theorem dX1_countEntriesOf_22 : decode cX1_countEntriesOf 22 = .ok (.aload_n 0, 1) := by decide +kernel
theorem dX1_countEntriesOf_23 : decode cX1_countEntriesOf 23 = .ok (.getfield 11, 3) := by decide +kernel
theorem dX1_countEntriesOf_26 : decode cX1_countEntriesOf 26 = .ok (.iload_n 3, 1) := by decide +kernel
theorem dX1_countEntriesOf_27 : decode cX1_countEntriesOf 27 = .ok (.aaload, 1) := by decide +kernel
theorem dX1_countEntriesOf_28 : decode cX1_countEntriesOf 28 = .ok (.getfield 31, 3) := by decide +kernel
theorem dX1_countEntriesOf_31 : decode cX1_countEntriesOf 31 = .ok (.iload_n 1, 1) := by decide +kernel
theorem dX1_countEntriesOf_32 : decode cX1_countEntriesOf 32 = .ok (.if_icmp .ne 6, 3) := by decide +kernel
theorem dX1_countEntriesOf_35 : decode cX1_countEntriesOf 35 = .ok (.iinc 2 1, 3) := by decide +kernel
theorem dX1_countEntriesOf_38 : decode cX1_countEntriesOf 38 = .ok (.iinc 3 1, 3) := by decide +kernel
theorem dX1_countEntriesOf_41 : decode cX1_countEntriesOf 41 = .ok (.goto (-37), 3) := by decide +kernel
theorem dX1_countEntriesOf_44 : decode cX1_countEntriesOf 44 = .ok (.iload_n 2, 1) := by decide +kernel
theorem dX1_countEntriesOf_45 : decode cX1_countEntriesOf 45 = .ok (.ireturn, 1) := by decide +kernel
theorem dX1_countNumbers_0 : decode cX1_countNumbers 0 = .ok (.iconst 0, 1) := by decide +kernel
theorem dX1_countNumbers_1 : decode cX1_countNumbers 1 = .ok (.istore_n 1, 1) := by decide +kernel
theorem dX1_countNumbers_2 : decode cX1_countNumbers 2 = .ok (.iconst 0, 1) := by decide +kernel
theorem dX1_countNumbers_3 : decode cX1_countNumbers 3 = .ok (.istore_n 2, 1) := by decide +kernel
theorem dX1_countNumbers_4 : decode cX1_countNumbers 4 = .ok (.iload_n 2, 1) := by decide +kernel
theorem dX1_countNumbers_5 : decode cX1_countNumbers 5 = .ok (.aload_n 0, 1) := by decide +kernel
theorem dX1_countNumbers_6 : decode cX1_countNumbers 6 = .ok (.getfield 11, 3) := by decide +kernel
theorem dX1_countNumbers_9 : decode cX1_countNumbers 9 = .ok (.arraylength, 1) := by decide +kernel
theorem dX1_countNumbers_10 : decode cX1_countNumbers 10 = .ok (.if_icmp .ge 31, 3) := by decide +kernel
theorem dX1_countNumbers_13 : decode cX1_countNumbers 13 = .ok (.aload_n 0, 1) := by decide +kernel
theorem dX1_countNumbers_14 : decode cX1_countNumbers 14 = .ok (.getfield 11, 3) := by decide +kernel
theorem dX1_countNumbers_17 : decode cX1_countNumbers 17 = .ok (.iload_n 2, 1) := by decide +kernel
theorem dX1_countNumbers_18 : decode cX1_countNumbers 18 = .ok (.aaload, 1) := by decide +kernel
theorem dX1_countNumbers_19 : decode cX1_countNumbers 19 = .ok (.ifnull 16, 3) := by decide +kernel
theorem dX1_countNumbers_22 : decode cX1_countNumbers 22 = .ok (.iload_n 1, 1) := by decide +kernel
theorem dX1_countNumbers_23 : decode cX1_countNumbers 23 = .ok (.aload_n 0, 1) := by decide +kernel
theorem dX1_countNumbers_24 : decode cX1_countNumbers 24 = .ok (.getfield 11, 3) := by decide +kernel
theorem dX1_countNumbers_27 : decode cX1_countNumbers 27 = .ok (.iload_n 2, 1) := by decide +kernel
theorem dX1_countNumbers_28 : decode cX1_countNumbers 28 = .ok (.aaload, 1) := by decide +kernel
theorem dX1_countNumbers_29 : decode cX1_countNumbers 29 = .ok (.getfield 71, 3) := by decide +kernel
theorem dX1_countNumbers_32 : decode cX1_countNumbers 32 = .ok (.arraylength, 1) := by decide +kernel
theorem dX1_countNumbers_33 : decode cX1_countNumbers 33 = .ok (.iadd, 1) := by decide +kernel
theorem dX1_countNumbers_34 : decode cX1_countNumbers 34 = .ok (.istore_n 1, 1) := by decide +kernel
theorem dX1_countNumbers_35 : decode cX1_countNumbers 35 = .ok (.iinc 2 1, 3) := by decide +kernel
theorem dX1_countNumbers_38 : decode cX1_countNumbers 38 = .ok (.goto (-34), 3) := by decide +kernel
theorem dX1_countNumbers_41 : decode cX1_countNumbers 41 = .ok (.iload_n 1, 1) := by decide +kernel
theorem dX1_countNumbers_42 : decode cX1_countNumbers 42 = .ok (.ireturn, 1) := by decide +kernel
set_option maxRecDepth 20000 in
theorem ggX2_init_X1_init : GoodIn wsX2_init wsX1_init := goodIn_r _ [14, 15, 2, 3, 16, 17, 18, 24, 25] (by decide +kernel) (by decide +kernel)
set_option maxRecDepth 20000 in
theorem gX2_init_X1_init_n31 : GoodIn wsX2_init (wsX1_init) := ggX2_init_X1_init
theorem dX2_init_0 : decode cX2_init 0 = .ok (.aload_n 0, 1) := by decide +kernel
theorem dX2_init_1 : decode cX2_init 1 = .ok (.invokespecial 3, 3) := by decide +kernel
theorem dX2_init_4 : decode cX2_init 4 = .ok (.aload_n 0, 1) := by decide +kernel
theorem dX2_init_5 : decode cX2_init 5 = .ok (.bipush 16, 2) := by decide +kernel
theorem dX2_init_7 : decode cX2_init 7 = .ok (.anewarray 9, 3) := by decide +kernel
theorem dX2_init_10 : decode cX2_init 10 = .ok (.putfield 11, 3) := by decide +kernel
theorem dX2_init_13 : decode cX2_init 13 = .ok (.aload_n 0, 1) := by decide +kernel
theorem dX2_init_14 : decode cX2_init 14 = .ok (.bipush 8, 2) := by decide +kernel
theorem dX2_init_16 : decode cX2_init 16 = .ok (.newarray .int, 2) := by decide +kernel
theorem dX2_init_18 : decode cX2_init 18 = .ok (.putfield 17, 3) := by decide +kernel
theorem dX2_init_21 : decode cX2_init 21 = .ok (.aload_n 0, 1) := by decide +kernel
theorem dX2_init_22 : decode cX2_init 22 = .ok (.bipush 8, 2) := by decide +kernel
theorem dX2_init_24 : decode cX2_init 24 = .ok (.newarray .int, 2) := by decide +kernel
theorem dX2_init_26 : decode cX2_init 26 = .ok (.putfield 21, 3) := by decide +kernel
theorem dX2_init_29 : decode cX2_init 29 = .ok (.aload_n 0, 1) := by decide +kernel
theorem dX2_init_30 : decode cX2_init 30 = .ok (.iconst 0, 1) := by decide +kernel
theorem dX2_init_31 : decode cX2_init 31 = .ok (.putfield 24, 3) := by decide +kernel
theorem dX2_init_34 : decode cX2_init 34 = .ok (.aload_n 0, 1) := by decide +kernel
theorem dX2_init_35 : decode cX2_init 35 = .ok (.iconst (-1), 1) := by decide +kernel
theorem dX2_init_36 : decode cX2_init 36 = .ok (.putfield 28, 3) := by decide +kernel
theorem dX2_init_39 : decode cX2_init 39 = .ok (.iconst 0, 1) := by decide +kernel
theorem dX2_init_40 : decode cX2_init 40 = .ok (.istore_n 1, 1) := by decide +kernel
theorem dX2_init_41 : decode cX2_init 41 = .ok (.iload_n 1, 1) := by decide +kernel
theorem dX2_init_42 : decode cX2_init 42 = .ok (.bipush 16, 2) := by decide +kernel
theorem dX2_init_44 : decode cX2_init 44 = .ok (.if_icmp .ge 22, 3) := by decide +kernel
theorem dX2_init_47 : decode cX2_init 47 = .ok (.aload_n 0, 1) := by decide +kernel
theorem dX2_init_48 : decode cX2_init 48 = .ok (.getfield 11, 3) := by decide +kernel
theorem dX2_init_51 : decode cX2_init 51 = .ok (.iload_n 1, 1) := by decide +kernel
theorem dX2_init_52 : decode cX2_init 52 = .ok (.new 9, 3) := by decide +kernel
theorem dX2_init_55 : decode cX2_init 55 = .ok (.dup, 1) := by decide +kernel
theorem dX2_init_56 : decode cX2_init 56 = .ok (.invokespecial 31, 3) := by decide +kernel
theorem dX2_init_59 : decode cX2_init 59 = .ok (.aastore, 1) := by decide +kernel
theorem dX2_init_60 : decode cX2_init 60 = .ok (.iinc 1 1, 3) := by decide +kernel
theorem dX2_init_63 : decode cX2_init 63 = .ok (.goto (-22), 3) := by decide +kernel
theorem dX2_init_66 : decode cX2_init 66 = .ok (.return_, 1) := by decide +kernel
theorem dX2_init__0 : decode cX2_init_ 0 = .ok (.aload_n 0, 1) := by decide +kernel
theorem dX2_init__1 : decode cX2_init_ 1 = .ok (.invokespecial 3, 3) := by decide +kernel
theorem dX2_init__4 : decode cX2_init_ 4 = .ok (.aload_n 0, 1) := by decide +kernel
theorem dX2_init__5 : decode cX2_init_ 5 = .ok (.bipush 16, 2) := by decide +kernel
theorem dX2_init__7 : decode cX2_init_ 7 = .ok (.anewarray 9, 3) := by decide +kernel
theorem dX2_init__10 : decode cX2_init_ 10 = .ok (.putfield 11, 3) := by decide +kernel
theorem dX2_init__13 : decode cX2_init_ 13 = .ok (.aload_n 0, 1) := by decide +kernel
theorem dX2_init__14 : decode cX2_init_ 14 = .ok (.bipush 8, 2) := by decide +kernel
theorem dX2_init__16 : decode cX2_init_ 16 = .ok (.newarray .int, 2) := by decide +kernel
theorem dX2_init__18 : decode cX2_init_ 18 = .ok (.putfield 17, 3) := by decide +kernel
theorem dX2_init__21 : decode cX2_init_ 21 = .ok (.aload_n 0, 1) := by decide +kernel
theorem dX2_init__22 : decode cX2_init_ 22 = .ok (.bipush 8, 2) := by decide +kernel
theorem dX2_init__24 : decode cX2_init_ 24 = .ok (.newarray .int, 2) := by decide +kernel
theorem dX2_init__26 : decode cX2_init_ 26 = .ok (.putfield 21, 3) := by decide +kernel
theorem dX2_init__29 : decode cX2_init_ 29 = .ok (.aload_n 0, 1) := by decide +kernel
theorem dX2_init__30 : decode cX2_init_ 30 = .ok (.iconst 0, 1) := by decide +kernel
theorem dX2_init__31 : decode cX2_init_ 31 = .ok (.putfield 24, 3) := by decide +kernel
theorem dX2_init__34 : decode cX2_init_ 34 = .ok (.aload_n 0, 1) := by decide +kernel
theorem dX2_init__35 : decode cX2_init_ 35 = .ok (.iload_n 2, 1) := by decide +kernel
theorem dX2_init__36 : decode cX2_init_ 36 = .ok (.putfield 28, 3) := by decide +kernel
theorem dX2_init__39 : decode cX2_init_ 39 = .ok (.aload_n 0, 1) := by decide +kernel
theorem dX2_init__40 : decode cX2_init_ 40 = .ok (.aload_n 1, 1) := by decide +kernel
theorem dX2_init__41 : decode cX2_init_ 41 = .ok (.getfield 24, 3) := by decide +kernel
theorem dX2_init__44 : decode cX2_init_ 44 = .ok (.putfield 24, 3) := by decide +kernel
theorem dX2_init__47 : decode cX2_init_ 47 = .ok (.iconst 0, 1) := by decide +kernel
theorem dX2_init__48 : decode cX2_init_ 48 = .ok (.istore_n 3, 1) := by decide +kernel
theorem dX2_init__49 : decode cX2_init_ 49 = .ok (.iload_n 3, 1) := by decide +kernel
theorem dX2_init__50 : decode cX2_init_ 50 = .ok (.bipush 16, 2) := by decide +kernel
theorem dX2_init__52 : decode cX2_init_ 52 = .ok (.if_icmp .ge 21, 3) := by decide +kernel
theorem dX2_init__55 : decode cX2_init_ 55 = .ok (.aload_n 0, 1) := by decide +kernel
theorem dX2_init__56 : decode cX2_init_ 56 = .ok (.getfield 11, 3) := by decide +kernel
theorem dX2_init__59 : decode cX2_init_ 59 = .ok (.iload_n 3, 1) := by decide +kernel
theorem dX2_init__60 : decode cX2_init_ 60 = .ok (.aload_n 1, 1) := by decide +kernel
theorem dX2_init__61 : decode cX2_init_ 61 = .ok (.getfield 11, 3) := by decide +kernel
theorem dX2_init__64 : decode cX2_init_ 64 = .ok (.iload_n 3, 1) := by decide +kernel
theorem dX2_init__65 : decode cX2_init_ 65 = .ok (.aaload, 1) := by decide +kernel
theorem dX2_init__66 : decode cX2_init_ 66 = .ok (.aastore, 1) := by decide +kernel
theorem dX2_init__67 : decode cX2_init_ 67 = .ok (.iinc 3 1, 3) := by decide +kernel
theorem dX2_init__70 : decode cX2_init_ 70 = .ok (.goto (-21), 3) := by decide +kernel
theorem dX2_init__73 : decode cX2_init_ 73 = .ok (.iconst 0, 1) := by decide +kernel
theorem dX2_init__74 : decode cX2_init_ 74 = .ok (.istore_n 3, 1) := by decide +kernel
theorem dX2_init__75 : decode cX2_init_ 75 = .ok (.iload_n 3, 1) := by decide +kernel
theorem dX2_init__76 : decode cX2_init_ 76 = .ok (.bipush 8, 2) := by decide +kernel
theorem dX2_init__78 : decode cX2_init_ 78 = .ok (.if_icmp .ge 33, 3) := by decide +kernel
theorem dX2_init__81 : decode cX2_init_ 81 = .ok (.aload_n 0, 1) := by decide +kernel
theorem dX2_init__82 : decode cX2_init_ 82 = .ok (.getfield 17, 3) := by decide +kernel
theorem dX2_init__85 : decode cX2_init_ 85 = .ok (.iload_n 3, 1) := by decide +kernel
theorem dX2_init__86 : decode cX2_init_ 86 = .ok (.aload_n 1, 1) := by decide +kernel
theorem dX2_init__87 : decode cX2_init_ 87 = .ok (.getfield 17, 3) := by decide +kernel
theorem dX2_init__90 : decode cX2_init_ 90 = .ok (.iload_n 3, 1) := by decide +kernel
theorem dX2_init__91 : decode cX2_init_ 91 = .ok (.iaload, 1) := by decide +kernel
theorem dX2_init__92 : decode cX2_init_ 92 = .ok (.iastore, 1) := by decide +kernel
theorem dX2_init__93 : decode cX2_init_ 93 = .ok (.aload_n 0, 1) := by decide +kernel
theorem dX2_init__94 : decode cX2_init_ 94 = .ok (.getfield 21, 3) := by decide +kernel
theorem dX2_init__97 : decode cX2_init_ 97 = .ok (.iload_n 3, 1) := by decide +kernel
theorem dX2_init__98 : decode cX2_init_ 98 = .ok (.aload_n 1, 1) := by decide +kernel
theorem dX2_init__99 : decode cX2_init_ 99 = .ok (.getfield 21, 3) := by decide +kernel
theorem dX2_init__102 : decode cX2_init_ 102 = .ok (.iload_n 3, 1) := by decide +kernel
theorem dX2_init__103 : decode cX2_init_ 103 = .ok (.iaload, 1) := by decide +kernel
theorem dX2_init__104 : decode cX2_init_ 104 = .ok (.iastore, 1) := by decide +kernel
theorem dX2_init__105 : decode cX2_init_ 105 = .ok (.iinc 3 1, 3) := by decide +kernel
theorem dX2_init__108 : decode cX2_init_ 108 = .ok (.goto (-33), 3) := by decide +kernel
theorem dX2_init__111 : decode cX2_init_ 111 = .ok (.return_, 1) := by decide +kernel
theorem dX2_tellState_0 : decode cX2_tellState 0 = .ok (.aload_n 0, 1) := by decide +kernel
theorem dX2_tellState_1 : decode cX2_tellState 1 = .ok (.getfield 24, 3) := by decide +kernel
theorem dX2_tellState_4 : decode cX2_tellState 4 = .ok (.istore_n 3, 1) := by decide +kernel
theorem dX2_tellState_5 : decode cX2_tellState 5 = .ok (.aload_n 0, 1) := by decide +kernel
theorem dX2_tellState_6 : decode cX2_tellState 6 = .ok (.getfield 17, 3) := by decide +kernel
theorem dX2_tellState_9 : decode cX2_tellState 9 = .ok (.iload_n 3, 1) := by decide +kernel
theorem dX2_tellState_10 : decode cX2_tellState 10 = .ok (.iload_n 1, 1) := by decide +kernel
theorem dX2_tellState_11 : decode cX2_tellState 11 = .ok (.iastore, 1) := by decide +kernel
theorem dX2_tellState_12 : decode cX2_tellState 12 = .ok (.aload_n 0, 1) := by decide +kernel
theorem dX2_tellState_13 : decode cX2_tellState 13 = .ok (.getfield 21, 3) := by decide +kernel
theorem dX2_tellState_16 : decode cX2_tellState 16 = .ok (.iload_n 3, 1) := by decide +kernel
theorem dX2_tellState_17 : decode cX2_tellState 17 = .ok (.iload_n 2, 1) := by decide +kernel
theorem dX2_tellState_18 : decode cX2_tellState 18 = .ok (.iastore, 1) := by decide +kernel
theorem dX2_tellState_19 : decode cX2_tellState 19 = .ok (.aload_n 0, 1) := by decide +kernel
theorem dX2_tellState_20 : decode cX2_tellState 20 = .ok (.dup, 1) := by decide +kernel
theorem dX2_tellState_21 : decode cX2_tellState 21 = .ok (.getfield 24, 3) := by decide +kernel
theorem dX2_tellState_24 : decode cX2_tellState 24 = .ok (.iconst 1, 1) := by decide +kernel
theorem dX2_tellState_25 : decode cX2_tellState 25 = .ok (.iadd, 1) := by decide +kernel
theorem dX2_tellState_26 : decode cX2_tellState 26 = .ok (.putfield 24, 3) := by decide +kernel
theorem dX2_tellState_29 : decode cX2_tellState 29 = .ok (.iload_n 3, 1) := by decide +kernel
theorem dX2_tellState_30 : decode cX2_tellState 30 = .ok (.ireturn, 1) := by decide +kernel
set_option maxRecDepth 20000 in
theorem ggX2_taken_X2_init_ : GoodIn wsX2_taken wsX2_init_ := goodIn_r _ [8, 9, 10, 11, 12, 4, 13, 14, 15, 16, 17, 18, 19, 20, 21, 22] (by decide +kernel) (by decide +kernel)
set_option maxRecDepth 20000 in
theorem gX2_taken_X2_init_ : GoodIn wsX2_taken (wsX2_init_) := ggX2_taken_X2_init_
theorem dX2_taken_0 : decode cX2_taken 0 = .ok (.new 12, 3) := by decide +kernel
theorem dX2_taken_3 : decode cX2_taken 3 = .ok (.dup, 1) := by decide +kernel
theorem dX2_taken_4 : decode cX2_taken 4 = .ok (.aload_n 0, 1) := by decide +kernel
theorem dX2_taken_5 : decode cX2_taken 5 = .ok (.iload_n 1, 1) := by decide +kernel
theorem dX2_taken_6 : decode cX2_taken 6 = .ok (.invokespecial 32, 3) := by decide +kernel
theorem dX2_taken_9 : decode cX2_taken 9 = .ok (.astore_n 2, 1) := by decide +kernel
theorem dX2_taken_10 : decode cX2_taken 10 = .ok (.iconst 0, 1) := by decide +kernel
theorem dX2_taken_11 : decode cX2_taken 11 = .ok (.istore_n 3, 1) := by decide +kernel
theorem dX2_taken_12 : decode cX2_taken 12 = .ok (.iload_n 3, 1) := by decide +kernel
theorem dX2_taken_13 : decode cX2_taken 13 = .ok (.bipush 16, 2) := by decide +kernel
theorem dX2_taken_15 : decode cX2_taken 15 = .ok (.if_icmp .ge 24, 3) := by decide +kernel
theorem dX2_taken_18 : decode cX2_taken 18 = .ok (.aload_n 0, 1) := by decide +kernel
theorem dX2_taken_19 : decode cX2_taken 19 = .ok (.getfield 11, 3) := by decide +kernel
theorem dX2_taken_22 : decode cX2_taken 22 = .ok (.iload_n 3, 1) := by decide +kernel
theorem dX2_taken_23 : decode cX2_taken 23 = .ok (.aaload, 1) := by decide +kernel
theorem dX2_taken_24 : decode cX2_taken 24 = .ok (.dup, 1) := by decide +kernel
theorem dX2_taken_25 : decode cX2_taken 25 = .ok (.getfield 35, 3) := by decide +kernel
theorem dX2_taken_28 : decode cX2_taken 28 = .ok (.iconst 1, 1) := by decide +kernel
theorem dX2_taken_29 : decode cX2_taken 29 = .ok (.iadd, 1) := by decide +kernel
theorem dX2_taken_30 : decode cX2_taken 30 = .ok (.putfield 35, 3) := by decide +kernel
theorem dX2_taken_33 : decode cX2_taken 33 = .ok (.iinc 3 1, 3) := by decide +kernel
theorem dX2_taken_36 : decode cX2_taken 36 = .ok (.goto (-24), 3) := by decide +kernel
theorem dX2_taken_39 : decode cX2_taken 39 = .ok (.aload_n 2, 1) := by decide +kernel
theorem dX2_taken_40 : decode cX2_taken 40 = .ok (.areturn, 1) := by decide +kernel
theorem dX2_releasePages_0 : decode cX2_releasePages 0 = .ok (.iconst 0, 1) := by decide +kernel
theorem dX2_releasePages_1 : decode cX2_releasePages 1 = .ok (.istore_n 1, 1) := by decide +kernel
theorem dX2_releasePages_2 : decode cX2_releasePages 2 = .ok (.iload_n 1, 1) := by decide +kernel
theorem dX2_releasePages_3 : decode cX2_releasePages 3 = .ok (.bipush 16, 2) := by decide +kernel
theorem dX2_releasePages_5 : decode cX2_releasePages 5 = .ok (.if_icmp .ge 24, 3) := by decide +kernel
theorem dX2_releasePages_8 : decode cX2_releasePages 8 = .ok (.aload_n 0, 1) := by decide +kernel
theorem dX2_releasePages_9 : decode cX2_releasePages 9 = .ok (.getfield 11, 3) := by decide +kernel
theorem dX2_releasePages_12 : decode cX2_releasePages 12 = .ok (.iload_n 1, 1) := by decide +kernel
theorem dX2_releasePages_13 : decode cX2_releasePages 13 = .ok (.aaload, 1) := by decide +kernel
theorem dX2_releasePages_14 : decode cX2_releasePages 14 = .ok (.dup, 1) := by decide +kernel
theorem dX2_releasePages_15 : decode cX2_releasePages 15 = .ok (.getfield 35, 3) := by decide +kernel
theorem dX2_releasePages_18 : decode cX2_releasePages 18 = .ok (.iconst 1, 1) := by decide +kernel
theorem dX2_releasePages_19 : decode cX2_releasePages 19 = .ok (.isub, 1) := by decide +kernel
theorem dX2_releasePages_20 : decode cX2_releasePages 20 = .ok (.putfield 35, 3) := by decide +kernel
theorem dX2_releasePages_23 : decode cX2_releasePages 23 = .ok (.iinc 1 1, 3) := by decide +kernel
theorem dX2_releasePages_26 : decode cX2_releasePages 26 = .ok (.goto (-24), 3) := by decide +kernel
theorem dX2_releasePages_29 : decode cX2_releasePages 29 = .ok (.return_, 1) := by decide +kernel
theorem dX2_becomeLike_0 : decode cX2_becomeLike 0 = .ok (.iconst 0, 1) := by decide +kernel
theorem dX2_becomeLike_1 : decode cX2_becomeLike 1 = .ok (.istore_n 2, 1) := by decide +kernel
theorem dX2_becomeLike_2 : decode cX2_becomeLike 2 = .ok (.iload_n 2, 1) := by decide +kernel
theorem dX2_becomeLike_3 : decode cX2_becomeLike 3 = .ok (.bipush 16, 2) := by decide +kernel
theorem dX2_becomeLike_5 : decode cX2_becomeLike 5 = .ok (.if_icmp .ge 21, 3) := by decide +kernel
theorem dX2_becomeLike_8 : decode cX2_becomeLike 8 = .ok (.aload_n 0, 1) := by decide +kernel
theorem dX2_becomeLike_9 : decode cX2_becomeLike 9 = .ok (.getfield 11, 3) := by decide +kernel
theorem dX2_becomeLike_12 : decode cX2_becomeLike 12 = .ok (.iload_n 2, 1) := by decide +kernel
theorem dX2_becomeLike_13 : decode cX2_becomeLike 13 = .ok (.aload_n 1, 1) := by decide +kernel
theorem dX2_becomeLike_14 : decode cX2_becomeLike 14 = .ok (.getfield 11, 3) := by decide +kernel
theorem dX2_becomeLike_17 : decode cX2_becomeLike 17 = .ok (.iload_n 2, 1) := by decide +kernel
theorem dX2_becomeLike_18 : decode cX2_becomeLike 18 = .ok (.aaload, 1) := by decide +kernel
theorem dX2_becomeLike_19 : decode cX2_becomeLike 19 = .ok (.aastore, 1) := by decide +kernel
theorem dX2_becomeLike_20 : decode cX2_becomeLike 20 = .ok (.iinc 2 1, 3) := by decide +kernel
theorem dX2_becomeLike_23 : decode cX2_becomeLike 23 = .ok (.goto (-21), 3) := by decide +kernel
theorem dX2_becomeLike_26 : decode cX2_becomeLike 26 = .ok (.iconst 0, 1) := by decide +kernel
theorem dX2_becomeLike_27 : decode cX2_becomeLike 27 = .ok (.istore_n 2, 1) := by decide +kernel
theorem dX2_becomeLike_28 : decode cX2_becomeLike 28 = .ok (.iload_n 2, 1) := by decide +kernel
theorem dX2_becomeLike_29 : decode cX2_becomeLike 29 = .ok (.aload_n 1, 1) := by decide +kernel
theorem dX2_becomeLike_30 : decode cX2_becomeLike 30 = .ok (.getfield 24, 3) := by decide +kernel
theorem dX2_becomeLike_33 : decode cX2_becomeLike 33 = .ok (.if_icmp .ge 33, 3) := by decide +kernel
theorem dX2_becomeLike_36 : decode cX2_becomeLike 36 = .ok (.aload_n 0, 1) := by decide +kernel
theorem dX2_becomeLike_37 : decode cX2_becomeLike 37 = .ok (.getfield 17, 3) := by decide +kernel
theorem dX2_becomeLike_40 : decode cX2_becomeLike 40 = .ok (.iload_n 2, 1) := by decide +kernel
theorem dX2_becomeLike_41 : decode cX2_becomeLike 41 = .ok (.aload_n 1, 1) := by decide +kernel
theorem dX2_becomeLike_42 : decode cX2_becomeLike 42 = .ok (.getfield 17, 3) := by decide +kernel
theorem dX2_becomeLike_45 : decode cX2_becomeLike 45 = .ok (.iload_n 2, 1) := by decide +kernel
theorem dX2_becomeLike_46 : decode cX2_becomeLike 46 = .ok (.iaload, 1) := by decide +kernel
theorem dX2_becomeLike_47 : decode cX2_becomeLike 47 = .ok (.iastore, 1) := by decide +kernel
theorem dX2_becomeLike_48 : decode cX2_becomeLike 48 = .ok (.aload_n 0, 1) := by decide +kernel
theorem dX2_becomeLike_49 : decode cX2_becomeLike 49 = .ok (.getfield 21, 3) := by decide +kernel
theorem dX2_becomeLike_52 : decode cX2_becomeLike 52 = .ok (.iload_n 2, 1) := by decide +kernel
theorem dX2_becomeLike_53 : decode cX2_becomeLike 53 = .ok (.aload_n 1, 1) := by decide +kernel
theorem dX2_becomeLike_54 : decode cX2_becomeLike 54 = .ok (.getfield 21, 3) := by decide +kernel
theorem dX2_becomeLike_57 : decode cX2_becomeLike 57 = .ok (.iload_n 2, 1) := by decide +kernel
theorem dX2_becomeLike_58 : decode cX2_becomeLike 58 = .ok (.iaload, 1) := by decide +kernel
theorem dX2_becomeLike_59 : decode cX2_becomeLike 59 = .ok (.iastore, 1) := by decide +kernel
theorem dX2_becomeLike_60 : decode cX2_becomeLike 60 = .ok (.iinc 2 1, 3) := by decide +kernel
theorem dX2_becomeLike_63 : decode cX2_becomeLike 63 = .ok (.goto (-35), 3) := by decide +kernel
theorem dX2_becomeLike_66 : decode cX2_becomeLike 66 = .ok (.return_, 1) := by decide +kernel
set_option maxRecDepth 20000 in
theorem ggX2_entryOf_X3_pageNumber : GoodIn wsX2_entryOf wsX3_pageNumber := goodIn_r _ [8] (by decide +kernel) (by decide +kernel)
set_option maxRecDepth 20000 in
theorem gX2_entryOf_X3_pageNumber_n38 : GoodIn wsX2_entryOf (wsX3_pageNumber) := ggX2_entryOf_X3_pageNumber
set_option maxRecDepth 20000 in
theorem ggX2_entryOf_X1_rowOf : GoodIn wsX2_entryOf wsX1_rowOf := goodIn_r _ [13, 14, 15, 16, 17, 4, 18, 19, 20, 21, 42, 43, 36, 37, 38, 39, 40, 41] (by decide +kernel) (by decide +kernel)
set_option maxRecDepth 20000 in
theorem gX2_entryOf_X1_rowOf : GoodIn wsX2_entryOf (wsV RX2 42 RX1 yX1_rowOf wsX1_rowOf) := goodIn_app (goodIn_of _ (by decide +kernel)) ggX2_entryOf_X1_rowOf
set_option maxRecDepth 20000 in
theorem ggX2_entryOf_X0_init : GoodIn wsX2_entryOf wsX0_init := goodIn_r _ [24, 25, 26, 27, 19, 20, 21, 28, 29, 30, 36, 37, 38, 39, 40, 41] (by decide +kernel) (by decide +kernel)
set_option maxRecDepth 20000 in
theorem gX2_entryOf_X0_init : GoodIn wsX2_entryOf (wsX0_init) := ggX2_entryOf_X0_init
theorem dX2_entryOf_0 : decode cX2_entryOf 0 = .ok (.aload_n 0, 1) := by decide +kernel
theorem dX2_entryOf_1 : decode cX2_entryOf 1 = .ok (.getfield 11, 3) := by decide +kernel
theorem dX2_entryOf_4 : decode cX2_entryOf 4 = .ok (.iload_n 1, 1) := by decide +kernel
theorem dX2_entryOf_5 : decode cX2_entryOf 5 = .ok (.lload_n 2, 1) := by decide +kernel
theorem dX2_entryOf_6 : decode cX2_entryOf 6 = .ok (.iload 4, 2) := by decide +kernel
theorem dX2_entryOf_8 : decode cX2_entryOf 8 = .ok (.invokestatic 38, 3) := by decide +kernel
theorem dX2_entryOf_11 : decode cX2_entryOf 11 = .ok (.aaload, 1) := by decide +kernel
theorem dX2_entryOf_12 : decode cX2_entryOf 12 = .ok (.astore 5, 2) := by decide +kernel
theorem dX2_entryOf_14 : decode cX2_entryOf 14 = .ok (.aload 5, 2) := by decide +kernel
theorem dX2_entryOf_16 : decode cX2_entryOf 16 = .ok (.iload_n 1, 1) := by decide +kernel
theorem dX2_entryOf_17 : decode cX2_entryOf 17 = .ok (.lload_n 2, 1) := by decide +kernel
theorem dX2_entryOf_18 : decode cX2_entryOf 18 = .ok (.iload 4, 2) := by decide +kernel
theorem dX2_entryOf_20 : decode cX2_entryOf 20 = .ok (.invokevirtual 42, 3) := by decide +kernel
theorem dX2_entryOf_23 : decode cX2_entryOf 23 = .ok (.istore 6, 2) := by decide +kernel
theorem dX2_entryOf_25 : decode cX2_entryOf 25 = .ok (.iload 6, 2) := by decide +kernel
theorem dX2_entryOf_27 : decode cX2_entryOf 27 = .ok (.iconst (-1), 1) := by decide +kernel
theorem dX2_entryOf_28 : decode cX2_entryOf 28 = .ok (.if_icmp .ne 17, 3) := by decide +kernel
theorem dX2_entryOf_31 : decode cX2_entryOf 31 = .ok (.new 45, 3) := by decide +kernel
theorem dX2_entryOf_34 : decode cX2_entryOf 34 = .ok (.dup, 1) := by decide +kernel
theorem dX2_entryOf_35 : decode cX2_entryOf 35 = .ok (.iload_n 1, 1) := by decide +kernel
theorem dX2_entryOf_36 : decode cX2_entryOf 36 = .ok (.lload_n 2, 1) := by decide +kernel
theorem dX2_entryOf_37 : decode cX2_entryOf 37 = .ok (.iload 4, 2) := by decide +kernel
theorem dX2_entryOf_39 : decode cX2_entryOf 39 = .ok (.invokespecial 47, 3) := by decide +kernel
theorem dX2_entryOf_42 : decode cX2_entryOf 42 = .ok (.goto 11, 3) := by decide +kernel
theorem dX2_entryOf_45 : decode cX2_entryOf 45 = .ok (.aload 5, 2) := by decide +kernel
theorem dX2_entryOf_47 : decode cX2_entryOf 47 = .ok (.getfield 50, 3) := by decide +kernel
theorem dX2_entryOf_50 : decode cX2_entryOf 50 = .ok (.iload 6, 2) := by decide +kernel
theorem dX2_entryOf_52 : decode cX2_entryOf 52 = .ok (.aaload, 1) := by decide +kernel
theorem dX2_entryOf_53 : decode cX2_entryOf 53 = .ok (.areturn, 1) := by decide +kernel
set_option maxRecDepth 20000 in
theorem ggX2_allFit_X1_allFit : GoodIn wsX2_allFit wsX1_allFit := goodIn_r _ [6, 7, 8, 9, 10, 11, 12, 13, 14, 15, 16, 17, 18, 19, 25, 26, 27, 28, 29, 30, 31, 32] (by decide +kernel) (by decide +kernel)
set_option maxRecDepth 20000 in
theorem gX2_allFit_X1_allFit : GoodIn wsX2_allFit (wsV RX2 54 RX1 yX1_allFit wsX1_allFit) := goodIn_app (goodIn_of _ (by decide +kernel)) ggX2_allFit_X1_allFit
theorem dX2_allFit_0 : decode cX2_allFit 0 = .ok (.iconst 0, 1) := by decide +kernel
theorem dX2_allFit_1 : decode cX2_allFit 1 = .ok (.istore 4, 2) := by decide +kernel
theorem dX2_allFit_3 : decode cX2_allFit 3 = .ok (.iload 4, 2) := by decide +kernel
theorem dX2_allFit_5 : decode cX2_allFit 5 = .ok (.bipush 16, 2) := by decide +kernel
theorem dX2_allFit_7 : decode cX2_allFit 7 = .ok (.if_icmp .ge 27, 3) := by decide +kernel
theorem dX2_allFit_10 : decode cX2_allFit 10 = .ok (.aload_n 0, 1) := by decide +kernel
theorem dX2_allFit_11 : decode cX2_allFit 11 = .ok (.getfield 11, 3) := by decide +kernel
theorem dX2_allFit_14 : decode cX2_allFit 14 = .ok (.iload 4, 2) := by decide +kernel
theorem dX2_allFit_16 : decode cX2_allFit 16 = .ok (.aaload, 1) := by decide +kernel
theorem dX2_allFit_17 : decode cX2_allFit 17 = .ok (.iload_n 1, 1) := by decide +kernel
theorem dX2_allFit_18 : decode cX2_allFit 18 = .ok (.iload_n 2, 1) := by decide +kernel
theorem dX2_allFit_19 : decode cX2_allFit 19 = .ok (.iload_n 3, 1) := by decide +kernel
theorem dX2_allFit_20 : decode cX2_allFit 20 = .ok (.invokevirtual 54, 3) := by decide +kernel
theorem dX2_allFit_23 : decode cX2_allFit 23 = .ok (.ifCond .ne 5, 3) := by decide +kernel
theorem dX2_allFit_26 : decode cX2_allFit 26 = .ok (.iconst 0, 1) := by decide +kernel
theorem dX2_allFit_27 : decode cX2_allFit 27 = .ok (.ireturn, 1) := by decide +kernel
theorem dX2_allFit_28 : decode cX2_allFit 28 = .ok (.iinc 4 1, 3) := by decide +kernel
theorem dX2_allFit_31 : decode cX2_allFit 31 = .ok (.goto (-28), 3) := by decide +kernel
theorem dX2_allFit_34 : decode cX2_allFit 34 = .ok (.iconst 1, 1) := by decide +kernel
theorem dX2_allFit_35 : decode cX2_allFit 35 = .ok (.ireturn, 1) := by decide +kernel
set_option maxRecDepth 20000 in
theorem ggX2_countEntries_X1_countEntries : GoodIn wsX2_countEntries wsX1_countEntries := goodIn_r _ [6, 7, 13, 14] (by decide +kernel) (by decide +kernel)
set_option maxRecDepth 20000 in
theorem gX2_countEntries_X1_countEntries : GoodIn wsX2_countEntries (wsV RX2 58 RX1 yX1_countEntries wsX1_countEntries) := goodIn_app (goodIn_of _ (by decide +kernel)) ggX2_countEntries_X1_countEntries
theorem dX2_countEntries_0 : decode cX2_countEntries 0 = .ok (.iconst 0, 1) := by decide +kernel
theorem dX2_countEntries_1 : decode cX2_countEntries 1 = .ok (.istore_n 1, 1) := by decide +kernel
theorem dX2_countEntries_2 : decode cX2_countEntries 2 = .ok (.iconst 0, 1) := by decide +kernel
theorem dX2_countEntries_3 : decode cX2_countEntries 3 = .ok (.istore_n 2, 1) := by decide +kernel
theorem dX2_countEntries_4 : decode cX2_countEntries 4 = .ok (.iload_n 2, 1) := by decide +kernel
theorem dX2_countEntries_5 : decode cX2_countEntries 5 = .ok (.bipush 16, 2) := by decide +kernel
theorem dX2_countEntries_7 : decode cX2_countEntries 7 = .ok (.if_icmp .ge 21, 3) := by decide +kernel
theorem dX2_countEntries_10 : decode cX2_countEntries 10 = .ok (.iload_n 1, 1) := by decide +kernel
theorem dX2_countEntries_11 : decode cX2_countEntries 11 = .ok (.aload_n 0, 1) := by decide +kernel
theorem dX2_countEntries_12 : decode cX2_countEntries 12 = .ok (.getfield 11, 3) := by decide +kernel
theorem dX2_countEntries_15 : decode cX2_countEntries 15 = .ok (.iload_n 2, 1) := by decide +kernel
theorem dX2_countEntries_16 : decode cX2_countEntries 16 = .ok (.aaload, 1) := by decide +kernel
theorem dX2_countEntries_17 : decode cX2_countEntries 17 = .ok (.invokevirtual 58, 3) := by decide +kernel
theorem dX2_countEntries_20 : decode cX2_countEntries 20 = .ok (.iadd, 1) := by decide +kernel
theorem dX2_countEntries_21 : decode cX2_countEntries 21 = .ok (.istore_n 1, 1) := by decide +kernel
theorem dX2_countEntries_22 : decode cX2_countEntries 22 = .ok (.iinc 2 1, 3) := by decide +kernel
theorem dX2_countEntries_25 : decode cX2_countEntries 25 = .ok (.goto (-21), 3) := by decide +kernel
theorem dX2_countEntries_28 : decode cX2_countEntries 28 = .ok (.iload_n 1, 1) := by decide +kernel
theorem dX2_countEntries_29 : decode cX2_countEntries 29 = .ok (.ireturn, 1) := by decide +kernel
set_option maxRecDepth 20000 in
theorem ggX2_countEntriesOf_X1_countEntriesOf : GoodIn wsX2_countEntriesOf wsX1_countEntriesOf := goodIn_r _ [6, 7, 8, 14, 15, 16, 17, 18, 19, 20, 21] (by decide +kernel) (by decide +kernel)
set_option maxRecDepth 20000 in
theorem gX2_countEntriesOf_X1_countEntriesOf : GoodIn wsX2_countEntriesOf (wsV RX2 62 RX1 yX1_countEntriesOf wsX1_countEntriesOf) := goodIn_app (goodIn_of _ (by decide +kernel)) ggX2_countEntriesOf_X1_countEntriesOf
theorem dX2_countEntriesOf_0 : decode cX2_countEntriesOf 0 = .ok (.iconst 0, 1) := by decide +kernel
theorem dX2_countEntriesOf_1 : decode cX2_countEntriesOf 1 = .ok (.istore_n 2, 1) := by decide +kernel
theorem dX2_countEntriesOf_2 : decode cX2_countEntriesOf 2 = .ok (.iconst 0, 1) := by decide +kernel
theorem dX2_countEntriesOf_3 : decode cX2_countEntriesOf 3 = .ok (.istore_n 3, 1) := by decide +kernel
theorem dX2_countEntriesOf_4 : decode cX2_countEntriesOf 4 = .ok (.iload_n 3, 1) := by decide +kernel
theorem dX2_countEntriesOf_5 : decode cX2_countEntriesOf 5 = .ok (.bipush 16, 2) := by decide +kernel
theorem dX2_countEntriesOf_7 : decode cX2_countEntriesOf 7 = .ok (.if_icmp .ge 22, 3) := by decide +kernel
theorem dX2_countEntriesOf_10 : decode cX2_countEntriesOf 10 = .ok (.iload_n 2, 1) := by decide +kernel
theorem dX2_countEntriesOf_11 : decode cX2_countEntriesOf 11 = .ok (.aload_n 0, 1) := by decide +kernel
theorem dX2_countEntriesOf_12 : decode cX2_countEntriesOf 12 = .ok (.getfield 11, 3) := by decide +kernel
theorem dX2_countEntriesOf_15 : decode cX2_countEntriesOf 15 = .ok (.iload_n 3, 1) := by decide +kernel
theorem dX2_countEntriesOf_16 : decode cX2_countEntriesOf 16 = .ok (.aaload, 1) := by decide +kernel
theorem dX2_countEntriesOf_17 : decode cX2_countEntriesOf 17 = .ok (.iload_n 1, 1) := by decide +kernel
theorem dX2_countEntriesOf_18 : decode cX2_countEntriesOf 18 = .ok (.invokevirtual 62, 3) := by decide +kernel
theorem dX2_countEntriesOf_21 : decode cX2_countEntriesOf 21 = .ok (.iadd, 1) := by decide +kernel
theorem dX2_countEntriesOf_22 : decode cX2_countEntriesOf 22 = .ok (.istore_n 2, 1) := by decide +kernel
theorem dX2_countEntriesOf_23 : decode cX2_countEntriesOf 23 = .ok (.iinc 3 1, 3) := by decide +kernel
theorem dX2_countEntriesOf_26 : decode cX2_countEntriesOf 26 = .ok (.goto (-22), 3) := by decide +kernel
theorem dX2_countEntriesOf_29 : decode cX2_countEntriesOf 29 = .ok (.iload_n 2, 1) := by decide +kernel
theorem dX2_countEntriesOf_30 : decode cX2_countEntriesOf 30 = .ok (.ireturn, 1) := by decide +kernel
set_option maxRecDepth 20000 in
theorem ggX2_countNumbers_X1_countNumbers : GoodIn wsX2_countNumbers wsX1_countNumbers := goodIn_r _ [6, 7, 8, 14, 15, 16, 17, 18, 19, 20, 21] (by decide +kernel) (by decide +kernel)
set_option maxRecDepth 20000 in
theorem gX2_countNumbers_X1_countNumbers : GoodIn wsX2_countNumbers (wsV RX2 66 RX1 yX1_countNumbers wsX1_countNumbers) := goodIn_app (goodIn_of _ (by decide +kernel)) ggX2_countNumbers_X1_countNumbers
theorem dX2_countNumbers_0 : decode cX2_countNumbers 0 = .ok (.iconst 0, 1) := by decide +kernel
theorem dX2_countNumbers_1 : decode cX2_countNumbers 1 = .ok (.istore_n 1, 1) := by decide +kernel
theorem dX2_countNumbers_2 : decode cX2_countNumbers 2 = .ok (.iconst 0, 1) := by decide +kernel
theorem dX2_countNumbers_3 : decode cX2_countNumbers 3 = .ok (.istore_n 2, 1) := by decide +kernel
theorem dX2_countNumbers_4 : decode cX2_countNumbers 4 = .ok (.iload_n 2, 1) := by decide +kernel
theorem dX2_countNumbers_5 : decode cX2_countNumbers 5 = .ok (.bipush 16, 2) := by decide +kernel
theorem dX2_countNumbers_7 : decode cX2_countNumbers 7 = .ok (.if_icmp .ge 21, 3) := by decide +kernel
theorem dX2_countNumbers_10 : decode cX2_countNumbers 10 = .ok (.iload_n 1, 1) := by decide +kernel
theorem dX2_countNumbers_11 : decode cX2_countNumbers 11 = .ok (.aload_n 0, 1) := by decide +kernel
theorem dX2_countNumbers_12 : decode cX2_countNumbers 12 = .ok (.getfield 11, 3) := by decide +kernel
theorem dX2_countNumbers_15 : decode cX2_countNumbers 15 = .ok (.iload_n 2, 1) := by decide +kernel
theorem dX2_countNumbers_16 : decode cX2_countNumbers 16 = .ok (.aaload, 1) := by decide +kernel
theorem dX2_countNumbers_17 : decode cX2_countNumbers 17 = .ok (.invokevirtual 66, 3) := by decide +kernel
theorem dX2_countNumbers_20 : decode cX2_countNumbers 20 = .ok (.iadd, 1) := by decide +kernel
theorem dX2_countNumbers_21 : decode cX2_countNumbers 21 = .ok (.istore_n 1, 1) := by decide +kernel
theorem dX2_countNumbers_22 : decode cX2_countNumbers 22 = .ok (.iinc 2 1, 3) := by decide +kernel
theorem dX2_countNumbers_25 : decode cX2_countNumbers 25 = .ok (.goto (-21), 3) := by decide +kernel
theorem dX2_countNumbers_28 : decode cX2_countNumbers 28 = .ok (.iload_n 1, 1) := by decide +kernel
theorem dX2_countNumbers_29 : decode cX2_countNumbers 29 = .ok (.ireturn, 1) := by decide +kernel
set_option maxRecDepth 20000 in
theorem ggX2_countPagesInUse_X1_countEntries : GoodIn wsX2_countPagesInUse wsX1_countEntries := goodIn_r _ [6, 7, 13, 14] (by decide +kernel) (by decide +kernel)
set_option maxRecDepth 20000 in
theorem gX2_countPagesInUse_X1_countEntries : GoodIn wsX2_countPagesInUse (wsV RX2 58 RX1 yX1_countEntries wsX1_countEntries) := goodIn_app (goodIn_of _ (by decide +kernel)) ggX2_countPagesInUse_X1_countEntries
theorem dX2_countPagesInUse_0 : decode cX2_countPagesInUse 0 = .ok (.iconst 0, 1) := by decide +kernel
theorem dX2_countPagesInUse_1 : decode cX2_countPagesInUse 1 = .ok (.istore_n 1, 1) := by decide +kernel
theorem dX2_countPagesInUse_2 : decode cX2_countPagesInUse 2 = .ok (.iconst 0, 1) := by decide +kernel
theorem dX2_countPagesInUse_3 : decode cX2_countPagesInUse 3 = .ok (.istore_n 2, 1) := by decide +kernel
theorem dX2_countPagesInUse_4 : decode cX2_countPagesInUse 4 = .ok (.iload_n 2, 1) := by decide +kernel
theorem dX2_countPagesInUse_5 : decode cX2_countPagesInUse 5 = .ok (.bipush 16, 2) := by decide +kernel
theorem dX2_countPagesInUse_7 : decode cX2_countPagesInUse 7 = .ok (.if_icmp .ge 24, 3) := by decide +kernel
theorem dX2_countPagesInUse_10 : decode cX2_countPagesInUse 10 = .ok (.aload_n 0, 1) := by decide +kernel
theorem dX2_countPagesInUse_11 : decode cX2_countPagesInUse 11 = .ok (.getfield 11, 3) := by decide +kernel
theorem dX2_countPagesInUse_14 : decode cX2_countPagesInUse 14 = .ok (.iload_n 2, 1) := by decide +kernel
theorem dX2_countPagesInUse_15 : decode cX2_countPagesInUse 15 = .ok (.aaload, 1) := by decide +kernel
theorem dX2_countPagesInUse_16 : decode cX2_countPagesInUse 16 = .ok (.invokevirtual 58, 3) := by decide +kernel
theorem dX2_countPagesInUse_19 : decode cX2_countPagesInUse 19 = .ok (.ifCond .le 6, 3) := by decide +kernel
theorem dX2_countPagesInUse_22 : decode cX2_countPagesInUse 22 = .ok (.iinc 1 1, 3) := by decide +kernel
theorem dX2_countPagesInUse_25 : decode cX2_countPagesInUse 25 = .ok (.iinc 2 1, 3) := by decide +kernel
theorem dX2_countPagesInUse_28 : decode cX2_countPagesInUse 28 = .ok (.goto (-24), 3) := by decide +kernel
theorem dX2_countPagesInUse_31 : decode cX2_countPagesInUse 31 = .ok (.iload_n 1, 1) := by decide +kernel
theorem dX2_countPagesInUse_32 : decode cX2_countPagesInUse 32 = .ok (.ireturn, 1) := by decide +kernel
set_option maxRecDepth 20000 in
theorem ggX2_countShared_X1_isShared : GoodIn wsX2_countShared wsX1_isShared := goodIn_r _ [6, 7, 13, 14] (by decide +kernel) (by decide +kernel)
set_option maxRecDepth 20000 in
theorem gX2_countShared_X1_isShared : GoodIn wsX2_countShared (wsV RX2 69 RX1 yX1_isShared wsX1_isShared) := goodIn_app (goodIn_of _ (by decide +kernel)) ggX2_countShared_X1_isShared
theorem dX2_countShared_0 : decode cX2_countShared 0 = .ok (.iconst 0, 1) := by decide +kernel
theorem dX2_countShared_1 : decode cX2_countShared 1 = .ok (.istore_n 1, 1) := by decide +kernel
theorem dX2_countShared_2 : decode cX2_countShared 2 = .ok (.iconst 0, 1) := by decide +kernel
theorem dX2_countShared_3 : decode cX2_countShared 3 = .ok (.istore_n 2, 1) := by decide +kernel
theorem dX2_countShared_4 : decode cX2_countShared 4 = .ok (.iload_n 2, 1) := by decide +kernel
theorem dX2_countShared_5 : decode cX2_countShared 5 = .ok (.bipush 16, 2) := by decide +kernel
theorem dX2_countShared_7 : decode cX2_countShared 7 = .ok (.if_icmp .ge 24, 3) := by decide +kernel
theorem dX2_countShared_10 : decode cX2_countShared 10 = .ok (.aload_n 0, 1) := by decide +kernel
theorem dX2_countShared_11 : decode cX2_countShared 11 = .ok (.getfield 11, 3) := by decide +kernel
theorem dX2_countShared_14 : decode cX2_countShared 14 = .ok (.iload_n 2, 1) := by decide +kernel
theorem dX2_countShared_15 : decode cX2_countShared 15 = .ok (.aaload, 1) := by decide +kernel
theorem dX2_countShared_16 : decode cX2_countShared 16 = .ok (.invokevirtual 69, 3) := by decide +kernel
theorem dX2_countShared_19 : decode cX2_countShared 19 = .ok (.ifCond .eq 6, 3) := by decide +kernel
theorem dX2_countShared_22 : decode cX2_countShared 22 = .ok (.iinc 1 1, 3) := by decide +kernel
theorem dX2_countShared_25 : decode cX2_countShared 25 = .ok (.iinc 2 1, 3) := by decide +kernel
theorem dX2_countShared_28 : decode cX2_countShared 28 = .ok (.goto (-24), 3) := by decide +kernel
theorem dX2_countShared_31 : decode cX2_countShared 31 = .ok (.iload_n 1, 1) := by decide +kernel
theorem dX2_countShared_32 : decode cX2_countShared 32 = .ok (.ireturn, 1) := by decide +kernel
