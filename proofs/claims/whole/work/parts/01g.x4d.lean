theorem dX4_init_0 : decode cX4_init 0 = .ok (.aload_n 0, 1) := by decide +kernel
theorem dX4_init_1 : decode cX4_init 1 = .ok (.invokespecial 1, 3) := by decide +kernel
theorem dX4_init_4 : decode cX4_init 4 = .ok (.aload_n 0, 1) := by decide +kernel
theorem dX4_init_5 : decode cX4_init 5 = .ok (.bipush 8, 2) := by decide +kernel
theorem dX4_init_7 : decode cX4_init 7 = .ok (.newarray .int, 2) := by decide +kernel
theorem dX4_init_9 : decode cX4_init 9 = .ok (.putfield 7, 3) := by decide +kernel
theorem dX4_init_12 : decode cX4_init 12 = .ok (.aload_n 0, 1) := by decide +kernel
theorem dX4_init_13 : decode cX4_init 13 = .ok (.bipush 56, 2) := by decide +kernel
theorem dX4_init_15 : decode cX4_init 15 = .ok (.newarray .int, 2) := by decide +kernel
theorem dX4_init_17 : decode cX4_init 17 = .ok (.putfield 13, 3) := by decide +kernel
theorem dX4_init_20 : decode cX4_init 20 = .ok (.aload_n 0, 1) := by decide +kernel
theorem dX4_init_21 : decode cX4_init 21 = .ok (.bipush 56, 2) := by decide +kernel
theorem dX4_init_23 : decode cX4_init 23 = .ok (.newarray .int, 2) := by decide +kernel
theorem dX4_init_25 : decode cX4_init 25 = .ok (.putfield 16, 3) := by decide +kernel
theorem dX4_init_28 : decode cX4_init 28 = .ok (.aload_n 0, 1) := by decide +kernel
theorem dX4_init_29 : decode cX4_init 29 = .ok (.bipush 7, 2) := by decide +kernel
theorem dX4_init_31 : decode cX4_init 31 = .ok (.newarray .int, 2) := by decide +kernel
theorem dX4_init_33 : decode cX4_init 33 = .ok (.putfield 19, 3) := by decide +kernel
theorem dX4_init_36 : decode cX4_init 36 = .ok (.aload_n 0, 1) := by decide +kernel
theorem dX4_init_37 : decode cX4_init 37 = .ok (.bipush 7, 2) := by decide +kernel
theorem dX4_init_39 : decode cX4_init 39 = .ok (.newarray .int, 2) := by decide +kernel
theorem dX4_init_41 : decode cX4_init 41 = .ok (.putfield 22, 3) := by decide +kernel
theorem dX4_init_44 : decode cX4_init 44 = .ok (.aload_n 0, 1) := by decide +kernel
theorem dX4_init_45 : decode cX4_init 45 = .ok (.sipush 1050, 3) := by decide +kernel
theorem dX4_init_48 : decode cX4_init 48 = .ok (.newarray .int, 2) := by decide +kernel
theorem dX4_init_50 : decode cX4_init 50 = .ok (.putfield 25, 3) := by decide +kernel
theorem dX4_init_53 : decode cX4_init 53 = .ok (.aload_n 0, 1) := by decide +kernel
theorem dX4_init_54 : decode cX4_init 54 = .ok (.sipush 1050, 3) := by decide +kernel
theorem dX4_init_57 : decode cX4_init 57 = .ok (.newarray .long, 2) := by decide +kernel
theorem dX4_init_59 : decode cX4_init 59 = .ok (.putfield 28, 3) := by decide +kernel
theorem dX4_init_62 : decode cX4_init 62 = .ok (.aload_n 0, 1) := by decide +kernel
theorem dX4_init_63 : decode cX4_init 63 = .ok (.sipush 1050, 3) := by decide +kernel
theorem dX4_init_66 : decode cX4_init 66 = .ok (.newarray .int, 2) := by decide +kernel
theorem dX4_init_68 : decode cX4_init 68 = .ok (.putfield 32, 3) := by decide +kernel
theorem dX4_init_71 : decode cX4_init 71 = .ok (.aload_n 0, 1) := by decide +kernel
theorem dX4_init_72 : decode cX4_init 72 = .ok (.sipush 1050, 3) := by decide +kernel
theorem dX4_init_75 : decode cX4_init 75 = .ok (.newarray .int, 2) := by decide +kernel
theorem dX4_init_77 : decode cX4_init 77 = .ok (.putfield 35, 3) := by decide +kernel
theorem dX4_init_80 : decode cX4_init 80 = .ok (.aload_n 0, 1) := by decide +kernel
theorem dX4_init_81 : decode cX4_init 81 = .ok (.sipush 10500, 3) := by decide +kernel
theorem dX4_init_84 : decode cX4_init 84 = .ok (.newarray .long, 2) := by decide +kernel
theorem dX4_init_86 : decode cX4_init 86 = .ok (.putfield 38, 3) := by decide +kernel
theorem dX4_init_89 : decode cX4_init 89 = .ok (.aload_n 0, 1) := by decide +kernel
theorem dX4_init_90 : decode cX4_init 90 = .ok (.sipush 10500, 3) := by decide +kernel
theorem dX4_init_93 : decode cX4_init 93 = .ok (.newarray .long, 2) := by decide +kernel
theorem dX4_init_95 : decode cX4_init 95 = .ok (.putfield 41, 3) := by decide +kernel
theorem dX4_init_98 : decode cX4_init 98 = .ok (.aload_n 0, 1) := by decide +kernel
theorem dX4_init_99 : decode cX4_init 99 = .ok (.bipush 112, 2) := by decide +kernel
theorem dX4_init_101 : decode cX4_init 101 = .ok (.newarray .int, 2) := by decide +kernel
theorem dX4_init_103 : decode cX4_init 103 = .ok (.putfield 44, 3) := by decide +kernel
theorem dX4_init_106 : decode cX4_init 106 = .ok (.aload_n 0, 1) := by decide +kernel
theorem dX4_init_107 : decode cX4_init 107 = .ok (.bipush 7, 2) := by decide +kernel
theorem dX4_init_109 : decode cX4_init 109 = .ok (.newarray .boolean, 2) := by decide +kernel
theorem dX4_init_111 : decode cX4_init 111 = .ok (.putfield 47, 3) := by decide +kernel
theorem dX4_init_114 : decode cX4_init 114 = .ok (.aload_n 0, 1) := by decide +kernel
theorem dX4_init_115 : decode cX4_init 115 = .ok (.bipush 7, 2) := by decide +kernel
theorem dX4_init_117 : decode cX4_init 117 = .ok (.newarray .int, 2) := by decide +kernel
theorem dX4_init_119 : decode cX4_init 119 = .ok (.putfield 51, 3) := by decide +kernel
theorem dX4_init_122 : decode cX4_init 122 = .ok (.iconst 0, 1) := by decide +kernel
theorem dX4_init_123 : decode cX4_init 123 = .ok (.istore_n 1, 1) := by decide +kernel
theorem dX4_init_124 : decode cX4_init 124 = .ok (.iload_n 1, 1) := by decide +kernel
theorem dX4_init_125 : decode cX4_init 125 = .ok (.bipush 16, 2) := by decide +kernel
theorem dX4_init_127 : decode cX4_init 127 = .ok (.if_icmp .ge 19, 3) := by decide +kernel
theorem dX4_init_130 : decode cX4_init 130 = .ok (.aload_n 0, 1) := by decide +kernel
theorem dX4_init_131 : decode cX4_init 131 = .ok (.getfield 44, 3) := by decide +kernel
theorem dX4_init_134 : decode cX4_init 134 = .ok (.iload_n 1, 1) := by decide +kernel
theorem dX4_init_135 : decode cX4_init 135 = .ok (.aload_n 0, 1) := by decide +kernel
theorem dX4_init_136 : decode cX4_init 136 = .ok (.invokevirtual 54, 3) := by decide +kernel
theorem dX4_init_139 : decode cX4_init 139 = .ok (.iastore, 1) := by decide +kernel
theorem dX4_init_140 : decode cX4_init 140 = .ok (.iinc 1 1, 3) := by decide +kernel
theorem dX4_init_143 : decode cX4_init 143 = .ok (.goto (-19), 3) := by decide +kernel
theorem dX4_init_146 : decode cX4_init 146 = .ok (.return_, 1) := by decide +kernel
theorem dX4_thrown_0 : decode cX4_thrown 0 = .ok (.aload_n 0, 1) := by decide +kernel
theorem dX4_thrown_1 : decode cX4_thrown 1 = .ok (.getfield 58, 3) := by decide +kernel
theorem dX4_thrown_4 : decode cX4_thrown 4 = .ok (.ireturn, 1) := by decide +kernel
theorem dX4_newPage_0 : decode cX4_newPage 0 = .ok (.aload_n 0, 1) := by decide +kernel
theorem dX4_newPage_1 : decode cX4_newPage 1 = .ok (.dup, 1) := by decide +kernel
theorem dX4_newPage_2 : decode cX4_newPage 2 = .ok (.getfield 62, 3) := by decide +kernel
theorem dX4_newPage_5 : decode cX4_newPage 5 = .ok (.iconst 1, 1) := by decide +kernel
theorem dX4_newPage_6 : decode cX4_newPage 6 = .ok (.iadd, 1) := by decide +kernel
theorem dX4_newPage_7 : decode cX4_newPage 7 = .ok (.putfield 62, 3) := by decide +kernel
theorem dX4_newPage_10 : decode cX4_newPage 10 = .ok (.aload_n 0, 1) := by decide +kernel
theorem dX4_newPage_11 : decode cX4_newPage 11 = .ok (.getfield 62, 3) := by decide +kernel
theorem dX4_newPage_14 : decode cX4_newPage 14 = .ok (.ireturn, 1) := by decide +kernel
theorem dX4_fails_0 : decode cX4_fails 0 = .ok (.aload_n 0, 1) := by decide +kernel
theorem dX4_fails_1 : decode cX4_fails 1 = .ok (.iload_n 1, 1) := by decide +kernel
theorem dX4_fails_2 : decode cX4_fails 2 = .ok (.putfield 58, 3) := by decide +kernel
theorem dX4_fails_5 : decode cX4_fails 5 = .ok (.iconst 0, 1) := by decide +kernel
theorem dX4_fails_6 : decode cX4_fails 6 = .ok (.ireturn, 1) := by decide +kernel
theorem dX4_pageOf_0 : decode cX4_pageOf 0 = .ok (.lload_n 2, 1) := by decide +kernel
theorem dX4_pageOf_1 : decode cX4_pageOf 1 = .ok (.l2i, 1) := by decide +kernel
theorem dX4_pageOf_2 : decode cX4_pageOf 2 = .ok (.lload_n 2, 1) := by decide +kernel
theorem dX4_pageOf_3 : decode cX4_pageOf 3 = .ok (.bipush 32, 2) := by decide +kernel
theorem dX4_pageOf_5 : decode cX4_pageOf 5 = .ok (.lushr, 1) := by decide +kernel
theorem dX4_pageOf_6 : decode cX4_pageOf 6 = .ok (.l2i, 1) := by decide +kernel
theorem dX4_pageOf_7 : decode cX4_pageOf 7 = .ok (.ixor, 1) := by decide +kernel
theorem dX4_pageOf_8 : decode cX4_pageOf 8 = .ok (.istore 5, 2) := by decide +kernel
theorem dX4_pageOf_10 : decode cX4_pageOf 10 = .ok (.iload 5, 2) := by decide +kernel
theorem dX4_pageOf_12 : decode cX4_pageOf 12 = .ok (.bipush 31, 2) := by decide +kernel
theorem dX4_pageOf_14 : decode cX4_pageOf 14 = .ok (.imul, 1) := by decide +kernel
theorem dX4_pageOf_15 : decode cX4_pageOf 15 = .ok (.iload 4, 2) := by decide +kernel
theorem dX4_pageOf_17 : decode cX4_pageOf 17 = .ok (.iadd, 1) := by decide +kernel
theorem dX4_pageOf_18 : decode cX4_pageOf 18 = .ok (.bipush 31, 2) := by decide +kernel
theorem dX4_pageOf_20 : decode cX4_pageOf 20 = .ok (.imul, 1) := by decide +kernel
theorem dX4_pageOf_21 : decode cX4_pageOf 21 = .ok (.iload_n 1, 1) := by decide +kernel
theorem dX4_pageOf_22 : decode cX4_pageOf 22 = .ok (.iadd, 1) := by decide +kernel
theorem dX4_pageOf_23 : decode cX4_pageOf 23 = .ok (.bipush 15, 2) := by decide +kernel
theorem dX4_pageOf_25 : decode cX4_pageOf 25 = .ok (.iand, 1) := by decide +kernel
theorem dX4_pageOf_26 : decode cX4_pageOf 26 = .ok (.ireturn, 1) := by decide +kernel
theorem dX4_isShared_0 : decode cX4_isShared 0 = .ok (.iconst 0, 1) := by decide +kernel
theorem dX4_isShared_1 : decode cX4_isShared 1 = .ok (.istore_n 2, 1) := by decide +kernel
theorem dX4_isShared_2 : decode cX4_isShared 2 = .ok (.iconst 1, 1) := by decide +kernel
theorem dX4_isShared_3 : decode cX4_isShared 3 = .ok (.istore_n 3, 1) := by decide +kernel
theorem dX4_isShared_4 : decode cX4_isShared 4 = .ok (.iload_n 3, 1) := by decide +kernel
theorem dX4_isShared_5 : decode cX4_isShared 5 = .ok (.bipush 7, 2) := by decide +kernel
theorem dX4_isShared_7 : decode cX4_isShared 7 = .ok (.if_icmp .ge 46, 3) := by decide +kernel
theorem dX4_isShared_10 : decode cX4_isShared 10 = .ok (.iload_n 2, 1) := by decide +kernel
theorem dX4_isShared_11 : decode cX4_isShared 11 = .ok (.aload_n 0, 1) := by decide +kernel
theorem dX4_isShared_12 : decode cX4_isShared 12 = .ok (.getfield 47, 3) := by decide +kernel
theorem dX4_isShared_15 : decode cX4_isShared 15 = .ok (.iload_n 3, 1) := by decide +kernel
theorem dX4_isShared_16 : decode cX4_isShared 16 = .ok (.baload, 1) := by decide +kernel
theorem dX4_isShared_17 : decode cX4_isShared 17 = .ok (.ifCond .eq 27, 3) := by decide +kernel
theorem dX4_isShared_20 : decode cX4_isShared 20 = .ok (.aload_n 0, 1) := by decide +kernel
theorem dX4_isShared_21 : decode cX4_isShared 21 = .ok (.getfield 44, 3) := by decide +kernel
theorem dX4_isShared_24 : decode cX4_isShared 24 = .ok (.bipush 16, 2) := by decide +kernel
theorem dX4_isShared_26 : decode cX4_isShared 26 = .ok (.iload_n 3, 1) := by decide +kernel
theorem dX4_isShared_27 : decode cX4_isShared 27 = .ok (.imul, 1) := by decide +kernel
theorem dX4_isShared_28 : decode cX4_isShared 28 = .ok (.iload_n 1, 1) := by decide +kernel
theorem dX4_isShared_29 : decode cX4_isShared 29 = .ok (.iadd, 1) := by decide +kernel
theorem dX4_isShared_30 : decode cX4_isShared 30 = .ok (.iaload, 1) := by decide +kernel
theorem dX4_isShared_31 : decode cX4_isShared 31 = .ok (.aload_n 0, 1) := by decide +kernel
theorem dX4_isShared_32 : decode cX4_isShared 32 = .ok (.getfield 44, 3) := by decide +kernel
theorem dX4_isShared_35 : decode cX4_isShared 35 = .ok (.iload_n 1, 1) := by decide +kernel
theorem dX4_isShared_36 : decode cX4_isShared 36 = .ok (.iaload, 1) := by decide +kernel
theorem dX4_isShared_37 : decode cX4_isShared 37 = .ok (.if_icmp .ne 7, 3) := by decide +kernel
theorem dX4_isShared_40 : decode cX4_isShared 40 = .ok (.iconst 1, 1) := by decide +kernel
theorem dX4_isShared_41 : decode cX4_isShared 41 = .ok (.goto 4, 3) := by decide +kernel
theorem dX4_isShared_44 : decode cX4_isShared 44 = .ok (.iconst 0, 1) := by decide +kernel
theorem dX4_isShared_45 : decode cX4_isShared 45 = .ok (.ior, 1) := by decide +kernel
theorem dX4_isShared_46 : decode cX4_isShared 46 = .ok (.istore_n 2, 1) := by decide +kernel
theorem dX4_isShared_47 : decode cX4_isShared 47 = .ok (.iinc 3 1, 3) := by decide +kernel
theorem dX4_isShared_50 : decode cX4_isShared 50 = .ok (.goto (-46), 3) := by decide +kernel
theorem dX4_isShared_53 : decode cX4_isShared 53 = .ok (.iload_n 2, 1) := by decide +kernel
theorem dX4_isShared_54 : decode cX4_isShared 54 = .ok (.ireturn, 1) := by decide +kernel
theorem dX4_touch_0 : decode cX4_touch 0 = .ok (.aload_n 0, 1) := by decide +kernel
theorem dX4_touch_1 : decode cX4_touch 1 = .ok (.iload_n 1, 1) := by decide +kernel
theorem dX4_touch_2 : decode cX4_touch 2 = .ok (.invokevirtual 65, 3) := by decide +kernel
theorem dX4_touch_5 : decode cX4_touch 5 = .ok (.ifCond .eq 23, 3) := by decide +kernel
theorem dX4_touch_8 : decode cX4_touch 8 = .ok (.aload_n 0, 1) := by decide +kernel
theorem dX4_touch_9 : decode cX4_touch 9 = .ok (.dup, 1) := by decide +kernel
theorem dX4_touch_10 : decode cX4_touch 10 = .ok (.getfield 69, 3) := by decide +kernel
theorem dX4_touch_13 : decode cX4_touch 13 = .ok (.iconst 1, 1) := by decide +kernel
theorem dX4_touch_14 : decode cX4_touch 14 = .ok (.iadd, 1) := by decide +kernel
theorem dX4_touch_15 : decode cX4_touch 15 = .ok (.putfield 69, 3) := by decide +kernel
theorem dX4_touch_18 : decode cX4_touch 18 = .ok (.aload_n 0, 1) := by decide +kernel
theorem dX4_touch_19 : decode cX4_touch 19 = .ok (.getfield 44, 3) := by decide +kernel
theorem dX4_touch_22 : decode cX4_touch 22 = .ok (.iload_n 1, 1) := by decide +kernel
theorem dX4_touch_23 : decode cX4_touch 23 = .ok (.aload_n 0, 1) := by decide +kernel
theorem dX4_touch_24 : decode cX4_touch 24 = .ok (.invokevirtual 54, 3) := by decide +kernel
theorem dX4_touch_27 : decode cX4_touch 27 = .ok (.iastore, 1) := by decide +kernel
theorem dX4_touch_28 : decode cX4_touch 28 = .ok (.return_, 1) := by decide +kernel
theorem dX4_touchOf_0 : decode cX4_touchOf 0 = .ok (.aload_n 0, 1) := by decide +kernel
theorem dX4_touchOf_1 : decode cX4_touchOf 1 = .ok (.aload_n 0, 1) := by decide +kernel
theorem dX4_touchOf_2 : decode cX4_touchOf 2 = .ok (.aload_n 0, 1) := by decide +kernel
theorem dX4_touchOf_3 : decode cX4_touchOf 3 = .ok (.getfield 25, 3) := by decide +kernel
theorem dX4_touchOf_6 : decode cX4_touchOf 6 = .ok (.iload_n 1, 1) := by decide +kernel
theorem dX4_touchOf_7 : decode cX4_touchOf 7 = .ok (.iaload, 1) := by decide +kernel
theorem dX4_touchOf_8 : decode cX4_touchOf 8 = .ok (.aload_n 0, 1) := by decide +kernel
theorem dX4_touchOf_9 : decode cX4_touchOf 9 = .ok (.getfield 28, 3) := by decide +kernel
theorem dX4_touchOf_12 : decode cX4_touchOf 12 = .ok (.iload_n 1, 1) := by decide +kernel
theorem dX4_touchOf_13 : decode cX4_touchOf 13 = .ok (.laload, 1) := by decide +kernel
theorem dX4_touchOf_14 : decode cX4_touchOf 14 = .ok (.aload_n 0, 1) := by decide +kernel
theorem dX4_touchOf_15 : decode cX4_touchOf 15 = .ok (.getfield 32, 3) := by decide +kernel
theorem dX4_touchOf_18 : decode cX4_touchOf 18 = .ok (.iload_n 1, 1) := by decide +kernel
theorem dX4_touchOf_19 : decode cX4_touchOf 19 = .ok (.iaload, 1) := by decide +kernel
theorem dX4_touchOf_20 : decode cX4_touchOf 20 = .ok (.invokevirtual 72, 3) := by decide +kernel
theorem dX4_touchOf_23 : decode cX4_touchOf 23 = .ok (.invokevirtual 76, 3) := by decide +kernel
theorem dX4_touchOf_26 : decode cX4_touchOf 26 = .ok (.return_, 1) := by decide +kernel
theorem dX4_sharedPages_0 : decode cX4_sharedPages 0 = .ok (.iconst 0, 1) := by decide +kernel
theorem dX4_sharedPages_1 : decode cX4_sharedPages 1 = .ok (.istore_n 1, 1) := by decide +kernel
theorem dX4_sharedPages_2 : decode cX4_sharedPages 2 = .ok (.iconst 0, 1) := by decide +kernel
theorem dX4_sharedPages_3 : decode cX4_sharedPages 3 = .ok (.istore_n 2, 1) := by decide +kernel
theorem dX4_sharedPages_4 : decode cX4_sharedPages 4 = .ok (.iload_n 2, 1) := by decide +kernel
theorem dX4_sharedPages_5 : decode cX4_sharedPages 5 = .ok (.bipush 16, 2) := by decide +kernel
theorem dX4_sharedPages_7 : decode cX4_sharedPages 7 = .ok (.if_icmp .ge 25, 3) := by decide +kernel
theorem dX4_sharedPages_10 : decode cX4_sharedPages 10 = .ok (.iload_n 1, 1) := by decide +kernel
theorem dX4_sharedPages_11 : decode cX4_sharedPages 11 = .ok (.aload_n 0, 1) := by decide +kernel
theorem dX4_sharedPages_12 : decode cX4_sharedPages 12 = .ok (.iload_n 2, 1) := by decide +kernel
theorem dX4_sharedPages_13 : decode cX4_sharedPages 13 = .ok (.invokevirtual 65, 3) := by decide +kernel
theorem dX4_sharedPages_16 : decode cX4_sharedPages 16 = .ok (.ifCond .eq 7, 3) := by decide +kernel
theorem dX4_sharedPages_19 : decode cX4_sharedPages 19 = .ok (.iconst 1, 1) := by decide +kernel
theorem dX4_sharedPages_20 : decode cX4_sharedPages 20 = .ok (.goto 4, 3) := by decide +kernel
theorem dX4_sharedPages_23 : decode cX4_sharedPages 23 = .ok (.iconst 0, 1) := by decide +kernel
theorem dX4_sharedPages_24 : decode cX4_sharedPages 24 = .ok (.iadd, 1) := by decide +kernel
theorem dX4_sharedPages_25 : decode cX4_sharedPages 25 = .ok (.istore_n 1, 1) := by decide +kernel
theorem dX4_sharedPages_26 : decode cX4_sharedPages 26 = .ok (.iinc 2 1, 3) := by decide +kernel
theorem dX4_sharedPages_29 : decode cX4_sharedPages 29 = .ok (.goto (-25), 3) := by decide +kernel
theorem dX4_sharedPages_32 : decode cX4_sharedPages 32 = .ok (.iload_n 1, 1) := by decide +kernel
theorem dX4_sharedPages_33 : decode cX4_sharedPages 33 = .ok (.ireturn, 1) := by decide +kernel
theorem dX4_find_0 : decode cX4_find 0 = .ok (.sipush 150, 3) := by decide +kernel
theorem dX4_find_3 : decode cX4_find 3 = .ok (.iload_n 1, 1) := by decide +kernel
theorem dX4_find_4 : decode cX4_find 4 = .ok (.imul, 1) := by decide +kernel
theorem dX4_find_5 : decode cX4_find 5 = .ok (.istore 6, 2) := by decide +kernel
theorem dX4_find_7 : decode cX4_find 7 = .ok (.iload 6, 2) := by decide +kernel
theorem dX4_find_9 : decode cX4_find 9 = .ok (.sipush 150, 3) := by decide +kernel
theorem dX4_find_12 : decode cX4_find 12 = .ok (.iload_n 1, 1) := by decide +kernel
theorem dX4_find_13 : decode cX4_find 13 = .ok (.imul, 1) := by decide +kernel
theorem dX4_find_14 : decode cX4_find 14 = .ok (.aload_n 0, 1) := by decide +kernel
theorem dX4_find_15 : decode cX4_find 15 = .ok (.getfield 22, 3) := by decide +kernel
theorem dX4_find_18 : decode cX4_find 18 = .ok (.iload_n 1, 1) := by decide +kernel
theorem dX4_find_19 : decode cX4_find 19 = .ok (.iaload, 1) := by decide +kernel
theorem dX4_find_20 : decode cX4_find 20 = .ok (.iadd, 1) := by decide +kernel
theorem dX4_find_21 : decode cX4_find 21 = .ok (.if_icmp .ge 47, 3) := by decide +kernel
theorem dX4_find_24 : decode cX4_find 24 = .ok (.aload_n 0, 1) := by decide +kernel
theorem dX4_find_25 : decode cX4_find 25 = .ok (.getfield 25, 3) := by decide +kernel
theorem dX4_find_28 : decode cX4_find 28 = .ok (.iload 6, 2) := by decide +kernel
theorem dX4_find_30 : decode cX4_find 30 = .ok (.iaload, 1) := by decide +kernel
theorem dX4_find_31 : decode cX4_find 31 = .ok (.iload_n 2, 1) := by decide +kernel
theorem dX4_find_32 : decode cX4_find 32 = .ok (.if_icmp .ne 30, 3) := by decide +kernel
theorem dX4_find_35 : decode cX4_find 35 = .ok (.aload_n 0, 1) := by decide +kernel
theorem dX4_find_36 : decode cX4_find 36 = .ok (.getfield 28, 3) := by decide +kernel
theorem dX4_find_39 : decode cX4_find 39 = .ok (.iload 6, 2) := by decide +kernel
theorem dX4_find_41 : decode cX4_find 41 = .ok (.laload, 1) := by decide +kernel
theorem dX4_find_42 : decode cX4_find 42 = .ok (.lload_n 3, 1) := by decide +kernel
theorem dX4_find_43 : decode cX4_find 43 = .ok (.lcmp, 1) := by decide +kernel
theorem dX4_find_44 : decode cX4_find 44 = .ok (.ifCond .ne 18, 3) := by decide +kernel
theorem dX4_find_47 : decode cX4_find 47 = .ok (.aload_n 0, 1) := by decide +kernel
theorem dX4_find_48 : decode cX4_find 48 = .ok (.getfield 32, 3) := by decide +kernel
theorem dX4_find_51 : decode cX4_find 51 = .ok (.iload 6, 2) := by decide +kernel
theorem dX4_find_53 : decode cX4_find 53 = .ok (.iaload, 1) := by decide +kernel
theorem dX4_find_54 : decode cX4_find 54 = .ok (.iload 5, 2) := by decide +kernel
theorem dX4_find_56 : decode cX4_find 56 = .ok (.if_icmp .ne 6, 3) := by decide +kernel
theorem dX4_find_59 : decode cX4_find 59 = .ok (.iload 6, 2) := by decide +kernel
theorem dX4_find_61 : decode cX4_find 61 = .ok (.ireturn, 1) := by decide +kernel
theorem dX4_find_62 : decode cX4_find 62 = .ok (.iinc 6 1, 3) := by decide +kernel
theorem dX4_find_65 : decode cX4_find 65 = .ok (.goto (-58), 3) := by decide +kernel
theorem dX4_find_68 : decode cX4_find 68 = .ok (.iconst (-1), 1) := by decide +kernel
theorem dX4_find_69 : decode cX4_find 69 = .ok (.ireturn, 1) := by decide +kernel
theorem dX4_here_0 : decode cX4_here 0 = .ok (.aload_n 0, 1) := by decide +kernel
theorem dX4_here_1 : decode cX4_here 1 = .ok (.iconst 0, 1) := by decide +kernel
theorem dX4_here_2 : decode cX4_here 2 = .ok (.iload_n 1, 1) := by decide +kernel
theorem dX4_here_3 : decode cX4_here 3 = .ok (.aload_n 0, 1) := by decide +kernel
theorem dX4_here_4 : decode cX4_here 4 = .ok (.getfield 80, 3) := by decide +kernel
theorem dX4_here_7 : decode cX4_here 7 = .ok (.aload_n 0, 1) := by decide +kernel
theorem dX4_here_8 : decode cX4_here 8 = .ok (.getfield 84, 3) := by decide +kernel
theorem dX4_here_11 : decode cX4_here 11 = .ok (.invokevirtual 87, 3) := by decide +kernel
theorem dX4_here_14 : decode cX4_here 14 = .ok (.ireturn, 1) := by decide +kernel
theorem dX4_newEntry_0 : decode cX4_newEntry 0 = .ok (.aload_n 0, 1) := by decide +kernel
theorem dX4_newEntry_1 : decode cX4_newEntry 1 = .ok (.getfield 22, 3) := by decide +kernel
theorem dX4_newEntry_4 : decode cX4_newEntry 4 = .ok (.iconst 0, 1) := by decide +kernel
theorem dX4_newEntry_5 : decode cX4_newEntry 5 = .ok (.iaload, 1) := by decide +kernel
theorem dX4_newEntry_6 : decode cX4_newEntry 6 = .ok (.istore_n 2, 1) := by decide +kernel
theorem dX4_newEntry_7 : decode cX4_newEntry 7 = .ok (.aload_n 0, 1) := by decide +kernel
theorem dX4_newEntry_8 : decode cX4_newEntry 8 = .ok (.getfield 25, 3) := by decide +kernel
theorem dX4_newEntry_11 : decode cX4_newEntry 11 = .ok (.iload_n 2, 1) := by decide +kernel
theorem dX4_newEntry_12 : decode cX4_newEntry 12 = .ok (.iload_n 1, 1) := by decide +kernel
theorem dX4_newEntry_13 : decode cX4_newEntry 13 = .ok (.iastore, 1) := by decide +kernel
theorem dX4_newEntry_14 : decode cX4_newEntry 14 = .ok (.aload_n 0, 1) := by decide +kernel
theorem dX4_newEntry_15 : decode cX4_newEntry 15 = .ok (.getfield 28, 3) := by decide +kernel
theorem dX4_newEntry_18 : decode cX4_newEntry 18 = .ok (.iload_n 2, 1) := by decide +kernel
theorem dX4_newEntry_19 : decode cX4_newEntry 19 = .ok (.aload_n 0, 1) := by decide +kernel
theorem dX4_newEntry_20 : decode cX4_newEntry 20 = .ok (.getfield 80, 3) := by decide +kernel
theorem dX4_newEntry_23 : decode cX4_newEntry 23 = .ok (.lastore, 1) := by decide +kernel
theorem dX4_newEntry_24 : decode cX4_newEntry 24 = .ok (.aload_n 0, 1) := by decide +kernel
theorem dX4_newEntry_25 : decode cX4_newEntry 25 = .ok (.getfield 32, 3) := by decide +kernel
theorem dX4_newEntry_28 : decode cX4_newEntry 28 = .ok (.iload_n 2, 1) := by decide +kernel
theorem dX4_newEntry_29 : decode cX4_newEntry 29 = .ok (.aload_n 0, 1) := by decide +kernel
theorem dX4_newEntry_30 : decode cX4_newEntry 30 = .ok (.getfield 84, 3) := by decide +kernel
theorem dX4_newEntry_33 : decode cX4_newEntry 33 = .ok (.iastore, 1) := by decide +kernel
theorem dX4_newEntry_34 : decode cX4_newEntry 34 = .ok (.aload_n 0, 1) := by decide +kernel
theorem dX4_newEntry_35 : decode cX4_newEntry 35 = .ok (.getfield 35, 3) := by decide +kernel
theorem dX4_newEntry_38 : decode cX4_newEntry 38 = .ok (.iload_n 2, 1) := by decide +kernel
theorem dX4_newEntry_39 : decode cX4_newEntry 39 = .ok (.iconst 0, 1) := by decide +kernel
theorem dX4_newEntry_40 : decode cX4_newEntry 40 = .ok (.iastore, 1) := by decide +kernel
theorem dX4_newEntry_41 : decode cX4_newEntry 41 = .ok (.aload_n 0, 1) := by decide +kernel
theorem dX4_newEntry_42 : decode cX4_newEntry 42 = .ok (.getfield 22, 3) := by decide +kernel
theorem dX4_newEntry_45 : decode cX4_newEntry 45 = .ok (.iconst 0, 1) := by decide +kernel
theorem dX4_newEntry_46 : decode cX4_newEntry 46 = .ok (.dup2, 1) := by decide +kernel
theorem dX4_newEntry_47 : decode cX4_newEntry 47 = .ok (.iaload, 1) := by decide +kernel
theorem dX4_newEntry_48 : decode cX4_newEntry 48 = .ok (.iconst 1, 1) := by decide +kernel
theorem dX4_newEntry_49 : decode cX4_newEntry 49 = .ok (.iadd, 1) := by decide +kernel
theorem dX4_newEntry_50 : decode cX4_newEntry 50 = .ok (.iastore, 1) := by decide +kernel
theorem dX4_newEntry_51 : decode cX4_newEntry 51 = .ok (.iload_n 2, 1) := by decide +kernel
theorem dX4_newEntry_52 : decode cX4_newEntry 52 = .ok (.ireturn, 1) := by decide +kernel
theorem dX4_copyEntry_0 : decode cX4_copyEntry 0 = .ok (.aload_n 0, 1) := by decide +kernel
theorem dX4_copyEntry_1 : decode cX4_copyEntry 1 = .ok (.getfield 25, 3) := by decide +kernel
theorem dX4_copyEntry_4 : decode cX4_copyEntry 4 = .ok (.iload_n 2, 1) := by decide +kernel
theorem dX4_copyEntry_5 : decode cX4_copyEntry 5 = .ok (.aload_n 0, 1) := by decide +kernel
theorem dX4_copyEntry_6 : decode cX4_copyEntry 6 = .ok (.getfield 25, 3) := by decide +kernel
theorem dX4_copyEntry_9 : decode cX4_copyEntry 9 = .ok (.iload_n 1, 1) := by decide +kernel
theorem dX4_copyEntry_10 : decode cX4_copyEntry 10 = .ok (.iaload, 1) := by decide +kernel
theorem dX4_copyEntry_11 : decode cX4_copyEntry 11 = .ok (.iastore, 1) := by decide +kernel
theorem dX4_copyEntry_12 : decode cX4_copyEntry 12 = .ok (.aload_n 0, 1) := by decide +kernel
theorem dX4_copyEntry_13 : decode cX4_copyEntry 13 = .ok (.getfield 28, 3) := by decide +kernel
theorem dX4_copyEntry_16 : decode cX4_copyEntry 16 = .ok (.iload_n 2, 1) := by decide +kernel
theorem dX4_copyEntry_17 : decode cX4_copyEntry 17 = .ok (.aload_n 0, 1) := by decide +kernel
theorem dX4_copyEntry_18 : decode cX4_copyEntry 18 = .ok (.getfield 28, 3) := by decide +kernel
theorem dX4_copyEntry_21 : decode cX4_copyEntry 21 = .ok (.iload_n 1, 1) := by decide +kernel
theorem dX4_copyEntry_22 : decode cX4_copyEntry 22 = .ok (.laload, 1) := by decide +kernel
theorem dX4_copyEntry_23 : decode cX4_copyEntry 23 = .ok (.lastore, 1) := by decide +kernel
theorem dX4_copyEntry_24 : decode cX4_copyEntry 24 = .ok (.aload_n 0, 1) := by decide +kernel
theorem dX4_copyEntry_25 : decode cX4_copyEntry 25 = .ok (.getfield 32, 3) := by decide +kernel
theorem dX4_copyEntry_28 : decode cX4_copyEntry 28 = .ok (.iload_n 2, 1) := by decide +kernel
theorem dX4_copyEntry_29 : decode cX4_copyEntry 29 = .ok (.aload_n 0, 1) := by decide +kernel
theorem dX4_copyEntry_30 : decode cX4_copyEntry 30 = .ok (.getfield 32, 3) := by decide +kernel
theorem dX4_copyEntry_33 : decode cX4_copyEntry 33 = .ok (.iload_n 1, 1) := by decide +kernel
theorem dX4_copyEntry_34 : decode cX4_copyEntry 34 = .ok (.iaload, 1) := by decide +kernel
theorem dX4_copyEntry_35 : decode cX4_copyEntry 35 = .ok (.iastore, 1) := by decide +kernel
theorem dX4_copyEntry_36 : decode cX4_copyEntry 36 = .ok (.aload_n 0, 1) := by decide +kernel
theorem dX4_copyEntry_37 : decode cX4_copyEntry 37 = .ok (.getfield 35, 3) := by decide +kernel
theorem dX4_copyEntry_40 : decode cX4_copyEntry 40 = .ok (.iload_n 2, 1) := by decide +kernel
theorem dX4_copyEntry_41 : decode cX4_copyEntry 41 = .ok (.aload_n 0, 1) := by decide +kernel
theorem dX4_copyEntry_42 : decode cX4_copyEntry 42 = .ok (.getfield 35, 3) := by decide +kernel
theorem dX4_copyEntry_45 : decode cX4_copyEntry 45 = .ok (.iload_n 1, 1) := by decide +kernel
theorem dX4_copyEntry_46 : decode cX4_copyEntry 46 = .ok (.iaload, 1) := by decide +kernel
theorem dX4_copyEntry_47 : decode cX4_copyEntry 47 = .ok (.iastore, 1) := by decide +kernel
theorem dX4_copyEntry_48 : decode cX4_copyEntry 48 = .ok (.iconst 0, 1) := by decide +kernel
theorem dX4_copyEntry_49 : decode cX4_copyEntry 49 = .ok (.istore_n 3, 1) := by decide +kernel
theorem dX4_copyEntry_50 : decode cX4_copyEntry 50 = .ok (.iload_n 3, 1) := by decide +kernel
theorem dX4_copyEntry_51 : decode cX4_copyEntry 51 = .ok (.bipush 10, 2) := by decide +kernel
theorem dX4_copyEntry_53 : decode cX4_copyEntry 53 = .ok (.if_icmp .ge 53, 3) := by decide +kernel
theorem dX4_copyEntry_56 : decode cX4_copyEntry 56 = .ok (.aload_n 0, 1) := by decide +kernel
theorem dX4_copyEntry_57 : decode cX4_copyEntry 57 = .ok (.getfield 38, 3) := by decide +kernel
theorem dX4_copyEntry_60 : decode cX4_copyEntry 60 = .ok (.bipush 10, 2) := by decide +kernel
theorem dX4_copyEntry_62 : decode cX4_copyEntry 62 = .ok (.iload_n 2, 1) := by decide +kernel
theorem dX4_copyEntry_63 : decode cX4_copyEntry 63 = .ok (.imul, 1) := by decide +kernel
theorem dX4_copyEntry_64 : decode cX4_copyEntry 64 = .ok (.iload_n 3, 1) := by decide +kernel
theorem dX4_copyEntry_65 : decode cX4_copyEntry 65 = .ok (.iadd, 1) := by decide +kernel
theorem dX4_copyEntry_66 : decode cX4_copyEntry 66 = .ok (.aload_n 0, 1) := by decide +kernel
theorem dX4_copyEntry_67 : decode cX4_copyEntry 67 = .ok (.getfield 38, 3) := by decide +kernel
theorem dX4_copyEntry_70 : decode cX4_copyEntry 70 = .ok (.bipush 10, 2) := by decide +kernel
theorem dX4_copyEntry_72 : decode cX4_copyEntry 72 = .ok (.iload_n 1, 1) := by decide +kernel
theorem dX4_copyEntry_73 : decode cX4_copyEntry 73 = .ok (.imul, 1) := by decide +kernel
theorem dX4_copyEntry_74 : decode cX4_copyEntry 74 = .ok (.iload_n 3, 1) := by decide +kernel
theorem dX4_copyEntry_75 : decode cX4_copyEntry 75 = .ok (.iadd, 1) := by decide +kernel
theorem dX4_copyEntry_76 : decode cX4_copyEntry 76 = .ok (.laload, 1) := by decide +kernel
theorem dX4_copyEntry_77 : decode cX4_copyEntry 77 = .ok (.lastore, 1) := by decide +kernel
theorem dX4_copyEntry_78 : decode cX4_copyEntry 78 = .ok (.aload_n 0, 1) := by decide +kernel
theorem dX4_copyEntry_79 : decode cX4_copyEntry 79 = .ok (.getfield 41, 3) := by decide +kernel
theorem dX4_copyEntry_82 : decode cX4_copyEntry 82 = .ok (.bipush 10, 2) := by decide +kernel
theorem dX4_copyEntry_84 : decode cX4_copyEntry 84 = .ok (.iload_n 2, 1) := by decide +kernel
theorem dX4_copyEntry_85 : decode cX4_copyEntry 85 = .ok (.imul, 1) := by decide +kernel
theorem dX4_copyEntry_86 : decode cX4_copyEntry 86 = .ok (.iload_n 3, 1) := by decide +kernel
theorem dX4_copyEntry_87 : decode cX4_copyEntry 87 = .ok (.iadd, 1) := by decide +kernel
theorem dX4_copyEntry_88 : decode cX4_copyEntry 88 = .ok (.aload_n 0, 1) := by decide +kernel
theorem dX4_copyEntry_89 : decode cX4_copyEntry 89 = .ok (.getfield 41, 3) := by decide +kernel
theorem dX4_copyEntry_92 : decode cX4_copyEntry 92 = .ok (.bipush 10, 2) := by decide +kernel
theorem dX4_copyEntry_94 : decode cX4_copyEntry 94 = .ok (.iload_n 1, 1) := by decide +kernel
theorem dX4_copyEntry_95 : decode cX4_copyEntry 95 = .ok (.imul, 1) := by decide +kernel
theorem dX4_copyEntry_96 : decode cX4_copyEntry 96 = .ok (.iload_n 3, 1) := by decide +kernel
theorem dX4_copyEntry_97 : decode cX4_copyEntry 97 = .ok (.iadd, 1) := by decide +kernel
theorem dX4_copyEntry_98 : decode cX4_copyEntry 98 = .ok (.laload, 1) := by decide +kernel
theorem dX4_copyEntry_99 : decode cX4_copyEntry 99 = .ok (.lastore, 1) := by decide +kernel
theorem dX4_copyEntry_100 : decode cX4_copyEntry 100 = .ok (.iinc 3 1, 3) := by decide +kernel
theorem dX4_copyEntry_103 : decode cX4_copyEntry 103 = .ok (.goto (-53), 3) := by decide +kernel
theorem dX4_copyEntry_106 : decode cX4_copyEntry 106 = .ok (.return_, 1) := by decide +kernel
theorem dX4_dropEntry_0 : decode cX4_dropEntry 0 = .ok (.aload_n 0, 1) := by decide +kernel
theorem dX4_dropEntry_1 : decode cX4_dropEntry 1 = .ok (.iload_n 1, 1) := by decide +kernel
theorem dX4_dropEntry_2 : decode cX4_dropEntry 2 = .ok (.invokevirtual 91, 3) := by decide +kernel
theorem dX4_dropEntry_5 : decode cX4_dropEntry 5 = .ok (.aload_n 0, 1) := by decide +kernel
theorem dX4_dropEntry_6 : decode cX4_dropEntry 6 = .ok (.getfield 22, 3) := by decide +kernel
theorem dX4_dropEntry_9 : decode cX4_dropEntry 9 = .ok (.iconst 0, 1) := by decide +kernel
theorem dX4_dropEntry_10 : decode cX4_dropEntry 10 = .ok (.dup2, 1) := by decide +kernel
theorem dX4_dropEntry_11 : decode cX4_dropEntry 11 = .ok (.iaload, 1) := by decide +kernel
theorem dX4_dropEntry_12 : decode cX4_dropEntry 12 = .ok (.iconst 1, 1) := by decide +kernel
theorem dX4_dropEntry_13 : decode cX4_dropEntry 13 = .ok (.isub, 1) := by decide +kernel
theorem dX4_dropEntry_14 : decode cX4_dropEntry 14 = .ok (.iastore, 1) := by decide +kernel
theorem dX4_dropEntry_15 : decode cX4_dropEntry 15 = .ok (.aload_n 0, 1) := by decide +kernel
theorem dX4_dropEntry_16 : decode cX4_dropEntry 16 = .ok (.aload_n 0, 1) := by decide +kernel
theorem dX4_dropEntry_17 : decode cX4_dropEntry 17 = .ok (.getfield 22, 3) := by decide +kernel
theorem dX4_dropEntry_20 : decode cX4_dropEntry 20 = .ok (.iconst 0, 1) := by decide +kernel
theorem dX4_dropEntry_21 : decode cX4_dropEntry 21 = .ok (.iaload, 1) := by decide +kernel
theorem dX4_dropEntry_22 : decode cX4_dropEntry 22 = .ok (.iload_n 1, 1) := by decide +kernel
theorem dX4_dropEntry_23 : decode cX4_dropEntry 23 = .ok (.invokevirtual 94, 3) := by decide +kernel
theorem dX4_dropEntry_26 : decode cX4_dropEntry 26 = .ok (.return_, 1) := by decide +kernel
theorem dX4_numbersOf_0 : decode cX4_numbersOf 0 = .ok (.aload_n 0, 1) := by decide +kernel
theorem dX4_numbersOf_1 : decode cX4_numbersOf 1 = .ok (.getfield 13, 3) := by decide +kernel
theorem dX4_numbersOf_4 : decode cX4_numbersOf 4 = .ok (.bipush 8, 2) := by decide +kernel
theorem dX4_numbersOf_6 : decode cX4_numbersOf 6 = .ok (.iload_n 1, 1) := by decide +kernel
theorem dX4_numbersOf_7 : decode cX4_numbersOf 7 = .ok (.imul, 1) := by decide +kernel
theorem dX4_numbersOf_8 : decode cX4_numbersOf 8 = .ok (.aload_n 0, 1) := by decide +kernel
theorem dX4_numbersOf_9 : decode cX4_numbersOf 9 = .ok (.getfield 25, 3) := by decide +kernel
theorem dX4_numbersOf_12 : decode cX4_numbersOf 12 = .ok (.iload_n 2, 1) := by decide +kernel
theorem dX4_numbersOf_13 : decode cX4_numbersOf 13 = .ok (.iaload, 1) := by decide +kernel
theorem dX4_numbersOf_14 : decode cX4_numbersOf 14 = .ok (.iadd, 1) := by decide +kernel
theorem dX4_numbersOf_15 : decode cX4_numbersOf 15 = .ok (.iaload, 1) := by decide +kernel
theorem dX4_numbersOf_16 : decode cX4_numbersOf 16 = .ok (.istore_n 3, 1) := by decide +kernel
theorem dX4_numbersOf_17 : decode cX4_numbersOf 17 = .ok (.iload_n 3, 1) := by decide +kernel
theorem dX4_numbersOf_18 : decode cX4_numbersOf 18 = .ok (.ifCond .eq 8, 3) := by decide +kernel
theorem dX4_numbersOf_21 : decode cX4_numbersOf 21 = .ok (.iload_n 3, 1) := by decide +kernel
theorem dX4_numbersOf_22 : decode cX4_numbersOf 22 = .ok (.iconst 3, 1) := by decide +kernel
theorem dX4_numbersOf_23 : decode cX4_numbersOf 23 = .ok (.if_icmp .ne 7, 3) := by decide +kernel
theorem dX4_numbersOf_26 : decode cX4_numbersOf 26 = .ok (.iconst 1, 1) := by decide +kernel
theorem dX4_numbersOf_27 : decode cX4_numbersOf 27 = .ok (.goto 9, 3) := by decide +kernel
theorem dX4_numbersOf_30 : decode cX4_numbersOf 30 = .ok (.aload_n 0, 1) := by decide +kernel
theorem dX4_numbersOf_31 : decode cX4_numbersOf 31 = .ok (.getfield 35, 3) := by decide +kernel
theorem dX4_numbersOf_34 : decode cX4_numbersOf 34 = .ok (.iload_n 2, 1) := by decide +kernel
theorem dX4_numbersOf_35 : decode cX4_numbersOf 35 = .ok (.iaload, 1) := by decide +kernel
theorem dX4_numbersOf_36 : decode cX4_numbersOf 36 = .ok (.ireturn, 1) := by decide +kernel
theorem dX4_fits_0 : decode cX4_fits 0 = .ok (.iload_n 0, 1) := by decide +kernel
theorem dX4_fits_1 : decode cX4_fits 1 = .ok (.iconst 3, 1) := by decide +kernel
theorem dX4_fits_2 : decode cX4_fits 2 = .ok (.if_icmp .eq 37, 3) := by decide +kernel
theorem dX4_fits_5 : decode cX4_fits 5 = .ok (.iload_n 1, 1) := by decide +kernel
theorem dX4_fits_6 : decode cX4_fits 6 = .ok (.ifCond .eq 33, 3) := by decide +kernel
theorem dX4_fits_9 : decode cX4_fits 9 = .ok (.iload_n 1, 1) := by decide +kernel
theorem dX4_fits_10 : decode cX4_fits 10 = .ok (.iconst 1, 1) := by decide +kernel
theorem dX4_fits_11 : decode cX4_fits 11 = .ok (.if_icmp .ne 22, 3) := by decide +kernel
theorem dX4_fits_14 : decode cX4_fits 14 = .ok (.lload_n 2, 1) := by decide +kernel
theorem dX4_fits_15 : decode cX4_fits 15 = .ok (.ldc2_w 98, 3) := by decide +kernel
theorem dX4_fits_18 : decode cX4_fits 18 = .ok (.lcmp, 1) := by decide +kernel
theorem dX4_fits_19 : decode cX4_fits 19 = .ok (.ifCond .lt 24, 3) := by decide +kernel
theorem dX4_fits_22 : decode cX4_fits 22 = .ok (.lload_n 2, 1) := by decide +kernel
theorem dX4_fits_23 : decode cX4_fits 23 = .ok (.ldc2_w 100, 3) := by decide +kernel
theorem dX4_fits_26 : decode cX4_fits 26 = .ok (.lcmp, 1) := by decide +kernel
theorem dX4_fits_27 : decode cX4_fits 27 = .ok (.ifCond .gt 16, 3) := by decide +kernel
theorem dX4_fits_30 : decode cX4_fits 30 = .ok (.goto 9, 3) := by decide +kernel
theorem dX4_fits_33 : decode cX4_fits 33 = .ok (.lload_n 2, 1) := by decide +kernel
theorem dX4_fits_34 : decode cX4_fits 34 = .ok (.lconst 0, 1) := by decide +kernel
theorem dX4_fits_35 : decode cX4_fits 35 = .ok (.lcmp, 1) := by decide +kernel
theorem dX4_fits_36 : decode cX4_fits 36 = .ok (.ifCond .lt 7, 3) := by decide +kernel
theorem dX4_fits_39 : decode cX4_fits 39 = .ok (.iconst 1, 1) := by decide +kernel
theorem dX4_fits_40 : decode cX4_fits 40 = .ok (.goto 4, 3) := by decide +kernel
theorem dX4_fits_43 : decode cX4_fits 43 = .ok (.iconst 0, 1) := by decide +kernel
theorem dX4_fits_44 : decode cX4_fits 44 = .ok (.ireturn, 1) := by decide +kernel
theorem dX4_folded_0 : decode cX4_folded 0 = .ok (.iload_n 0, 1) := by decide +kernel
theorem dX4_folded_1 : decode cX4_folded 1 = .ok (.ifCond .ne 9, 3) := by decide +kernel
theorem dX4_folded_4 : decode cX4_folded 4 = .ok (.lload_n 1, 1) := by decide +kernel
theorem dX4_folded_5 : decode cX4_folded 5 = .ok (.lload_n 3, 1) := by decide +kernel
theorem dX4_folded_6 : decode cX4_folded 6 = .ok (.ladd, 1) := by decide +kernel
theorem dX4_folded_7 : decode cX4_folded 7 = .ok (.goto 33, 3) := by decide +kernel
theorem dX4_folded_10 : decode cX4_folded 10 = .ok (.iload_n 0, 1) := by decide +kernel
theorem dX4_folded_11 : decode cX4_folded 11 = .ok (.iconst 1, 1) := by decide +kernel
theorem dX4_folded_12 : decode cX4_folded 12 = .ok (.if_icmp .ne 17, 3) := by decide +kernel
theorem dX4_folded_15 : decode cX4_folded 15 = .ok (.lload_n 1, 1) := by decide +kernel
theorem dX4_folded_16 : decode cX4_folded 16 = .ok (.lload_n 3, 1) := by decide +kernel
theorem dX4_folded_17 : decode cX4_folded 17 = .ok (.lcmp, 1) := by decide +kernel
theorem dX4_folded_18 : decode cX4_folded 18 = .ok (.ifCond .ge 7, 3) := by decide +kernel
theorem dX4_folded_21 : decode cX4_folded 21 = .ok (.lload_n 1, 1) := by decide +kernel
theorem dX4_folded_22 : decode cX4_folded 22 = .ok (.goto 18, 3) := by decide +kernel
theorem dX4_folded_25 : decode cX4_folded 25 = .ok (.lload_n 3, 1) := by decide +kernel
theorem dX4_folded_26 : decode cX4_folded 26 = .ok (.goto 14, 3) := by decide +kernel
theorem dX4_folded_29 : decode cX4_folded 29 = .ok (.lload_n 1, 1) := by decide +kernel
theorem dX4_folded_30 : decode cX4_folded 30 = .ok (.lload_n 3, 1) := by decide +kernel
theorem dX4_folded_31 : decode cX4_folded 31 = .ok (.lcmp, 1) := by decide +kernel
theorem dX4_folded_32 : decode cX4_folded 32 = .ok (.ifCond .le 7, 3) := by decide +kernel
theorem dX4_folded_35 : decode cX4_folded 35 = .ok (.lload_n 1, 1) := by decide +kernel
theorem dX4_folded_36 : decode cX4_folded 36 = .ok (.goto 4, 3) := by decide +kernel
theorem dX4_folded_39 : decode cX4_folded 39 = .ok (.lload_n 3, 1) := by decide +kernel
theorem dX4_folded_40 : decode cX4_folded 40 = .ok (.lreturn, 1) := by decide +kernel
theorem dX4_isState_0 : decode cX4_isState 0 = .ok (.iload_n 1, 1) := by decide +kernel
theorem dX4_isState_1 : decode cX4_isState 1 = .ok (.ifCond .lt 15, 3) := by decide +kernel
theorem dX4_isState_4 : decode cX4_isState 4 = .ok (.iload_n 1, 1) := by decide +kernel
theorem dX4_isState_5 : decode cX4_isState 5 = .ok (.aload_n 0, 1) := by decide +kernel
theorem dX4_isState_6 : decode cX4_isState 6 = .ok (.getfield 102, 3) := by decide +kernel
theorem dX4_isState_9 : decode cX4_isState 9 = .ok (.if_icmp .ge 7, 3) := by decide +kernel
theorem dX4_isState_12 : decode cX4_isState 12 = .ok (.iconst 1, 1) := by decide +kernel
theorem dX4_isState_13 : decode cX4_isState 13 = .ok (.goto 4, 3) := by decide +kernel
theorem dX4_isState_16 : decode cX4_isState 16 = .ok (.iconst 0, 1) := by decide +kernel
theorem dX4_isState_17 : decode cX4_isState 17 = .ok (.ireturn, 1) := by decide +kernel
theorem dX4_isRefused_0 : decode cX4_isRefused 0 = .ok (.aload_n 0, 1) := by decide +kernel
theorem dX4_isRefused_1 : decode cX4_isRefused 1 = .ok (.iconst 0, 1) := by decide +kernel
theorem dX4_isRefused_2 : decode cX4_isRefused 2 = .ok (.putfield 58, 3) := by decide +kernel
theorem dX4_isRefused_5 : decode cX4_isRefused 5 = .ok (.aload_n 0, 1) := by decide +kernel
theorem dX4_isRefused_6 : decode cX4_isRefused 6 = .ok (.iload_n 1, 1) := by decide +kernel
theorem dX4_isRefused_7 : decode cX4_isRefused 7 = .ok (.invokevirtual 105, 3) := by decide +kernel
theorem dX4_isRefused_10 : decode cX4_isRefused 10 = .ok (.ifCond .ne 11, 3) := by decide +kernel
theorem dX4_isRefused_13 : decode cX4_isRefused 13 = .ok (.aload_n 0, 1) := by decide +kernel
theorem dX4_isRefused_14 : decode cX4_isRefused 14 = .ok (.iconst 1, 1) := by decide +kernel
theorem dX4_isRefused_15 : decode cX4_isRefused 15 = .ok (.putfield 58, 3) := by decide +kernel
theorem dX4_isRefused_18 : decode cX4_isRefused 18 = .ok (.goto 63, 3) := by decide +kernel
theorem dX4_isRefused_21 : decode cX4_isRefused 21 = .ok (.aload_n 0, 1) := by decide +kernel
theorem dX4_isRefused_22 : decode cX4_isRefused 22 = .ok (.getfield 13, 3) := by decide +kernel
theorem dX4_isRefused_25 : decode cX4_isRefused 25 = .ok (.iload_n 1, 1) := by decide +kernel
theorem dX4_isRefused_26 : decode cX4_isRefused 26 = .ok (.iaload, 1) := by decide +kernel
theorem dX4_isRefused_27 : decode cX4_isRefused 27 = .ok (.iload_n 2, 1) := by decide +kernel
theorem dX4_isRefused_28 : decode cX4_isRefused 28 = .ok (.if_icmp .eq 13, 3) := by decide +kernel
theorem dX4_isRefused_31 : decode cX4_isRefused 31 = .ok (.aload_n 0, 1) := by decide +kernel
theorem dX4_isRefused_32 : decode cX4_isRefused 32 = .ok (.getfield 13, 3) := by decide +kernel
theorem dX4_isRefused_35 : decode cX4_isRefused 35 = .ok (.iload_n 1, 1) := by decide +kernel
theorem dX4_isRefused_36 : decode cX4_isRefused 36 = .ok (.iaload, 1) := by decide +kernel
theorem dX4_isRefused_37 : decode cX4_isRefused 37 = .ok (.iload_n 3, 1) := by decide +kernel
theorem dX4_isRefused_38 : decode cX4_isRefused 38 = .ok (.if_icmp .ne 23, 3) := by decide +kernel
theorem dX4_isRefused_41 : decode cX4_isRefused 41 = .ok (.aload_n 0, 1) := by decide +kernel
theorem dX4_isRefused_42 : decode cX4_isRefused 42 = .ok (.getfield 13, 3) := by decide +kernel
theorem dX4_isRefused_45 : decode cX4_isRefused 45 = .ok (.iload_n 1, 1) := by decide +kernel
theorem dX4_isRefused_46 : decode cX4_isRefused 46 = .ok (.iaload, 1) := by decide +kernel
theorem dX4_isRefused_47 : decode cX4_isRefused 47 = .ok (.aload_n 0, 1) := by decide +kernel
theorem dX4_isRefused_48 : decode cX4_isRefused 48 = .ok (.getfield 16, 3) := by decide +kernel
theorem dX4_isRefused_51 : decode cX4_isRefused 51 = .ok (.iload_n 1, 1) := by decide +kernel
theorem dX4_isRefused_52 : decode cX4_isRefused 52 = .ok (.iaload, 1) := by decide +kernel
theorem dX4_isRefused_53 : decode cX4_isRefused 53 = .ok (.lload 4, 2) := by decide +kernel
theorem dX4_isRefused_55 : decode cX4_isRefused 55 = .ok (.invokestatic 108, 3) := by decide +kernel
theorem dX4_isRefused_58 : decode cX4_isRefused 58 = .ok (.ifCond .ne 11, 3) := by decide +kernel
theorem dX4_isRefused_61 : decode cX4_isRefused 61 = .ok (.aload_n 0, 1) := by decide +kernel
theorem dX4_isRefused_62 : decode cX4_isRefused 62 = .ok (.iconst 2, 1) := by decide +kernel
theorem dX4_isRefused_63 : decode cX4_isRefused 63 = .ok (.putfield 58, 3) := by decide +kernel
theorem dX4_isRefused_66 : decode cX4_isRefused 66 = .ok (.goto 15, 3) := by decide +kernel
theorem dX4_isRefused_69 : decode cX4_isRefused 69 = .ok (.aload_n 0, 1) := by decide +kernel
theorem dX4_isRefused_70 : decode cX4_isRefused 70 = .ok (.getfield 112, 3) := by decide +kernel
theorem dX4_isRefused_73 : decode cX4_isRefused 73 = .ok (.ifCond .ne 8, 3) := by decide +kernel
theorem dX4_isRefused_76 : decode cX4_isRefused 76 = .ok (.aload_n 0, 1) := by decide +kernel
theorem dX4_isRefused_77 : decode cX4_isRefused 77 = .ok (.iconst 3, 1) := by decide +kernel
theorem dX4_isRefused_78 : decode cX4_isRefused 78 = .ok (.putfield 58, 3) := by decide +kernel
theorem dX4_isRefused_81 : decode cX4_isRefused 81 = .ok (.aload_n 0, 1) := by decide +kernel
theorem dX4_isRefused_82 : decode cX4_isRefused 82 = .ok (.aload_n 0, 1) := by decide +kernel
theorem dX4_isRefused_83 : decode cX4_isRefused 83 = .ok (.getfield 58, 3) := by decide +kernel
theorem dX4_isRefused_86 : decode cX4_isRefused 86 = .ok (.ifCond .ne 11, 3) := by decide +kernel
theorem dX4_isRefused_89 : decode cX4_isRefused 89 = .ok (.aload_n 0, 1) := by decide +kernel
theorem dX4_isRefused_90 : decode cX4_isRefused 90 = .ok (.iload_n 1, 1) := by decide +kernel
theorem dX4_isRefused_91 : decode cX4_isRefused 91 = .ok (.invokevirtual 116, 3) := by decide +kernel
theorem dX4_isRefused_94 : decode cX4_isRefused 94 = .ok (.goto 4, 3) := by decide +kernel
theorem dX4_isRefused_97 : decode cX4_isRefused 97 = .ok (.iconst (-1), 1) := by decide +kernel
theorem dX4_isRefused_98 : decode cX4_isRefused 98 = .ok (.putfield 120, 3) := by decide +kernel
theorem dX4_isRefused_101 : decode cX4_isRefused 101 = .ok (.aload_n 0, 1) := by decide +kernel
theorem dX4_isRefused_102 : decode cX4_isRefused 102 = .ok (.getfield 58, 3) := by decide +kernel
theorem dX4_isRefused_105 : decode cX4_isRefused 105 = .ok (.ifCond .le 7, 3) := by decide +kernel
theorem dX4_isRefused_108 : decode cX4_isRefused 108 = .ok (.iconst 1, 1) := by decide +kernel
theorem dX4_isRefused_109 : decode cX4_isRefused 109 = .ok (.goto 4, 3) := by decide +kernel
theorem dX4_isRefused_112 : decode cX4_isRefused 112 = .ok (.iconst 0, 1) := by decide +kernel
theorem dX4_isRefused_113 : decode cX4_isRefused 113 = .ok (.ireturn, 1) := by decide +kernel
theorem dX4_state_0 : decode cX4_state 0 = .ok (.aload_n 0, 1) := by decide +kernel
theorem dX4_state_1 : decode cX4_state 1 = .ok (.iconst 0, 1) := by decide +kernel
theorem dX4_state_2 : decode cX4_state 2 = .ok (.putfield 58, 3) := by decide +kernel
theorem dX4_state_5 : decode cX4_state 5 = .ok (.iload_n 2, 1) := by decide +kernel
theorem dX4_state_6 : decode cX4_state 6 = .ok (.ifCond .lt 17, 3) := by decide +kernel
theorem dX4_state_9 : decode cX4_state 9 = .ok (.iload_n 2, 1) := by decide +kernel
theorem dX4_state_10 : decode cX4_state 10 = .ok (.iconst 3, 1) := by decide +kernel
theorem dX4_state_11 : decode cX4_state 11 = .ok (.if_icmp .gt 12, 3) := by decide +kernel
theorem dX4_state_14 : decode cX4_state 14 = .ok (.iload_n 3, 1) := by decide +kernel
theorem dX4_state_15 : decode cX4_state 15 = .ok (.ifCond .lt 8, 3) := by decide +kernel
theorem dX4_state_18 : decode cX4_state 18 = .ok (.iload_n 3, 1) := by decide +kernel
theorem dX4_state_19 : decode cX4_state 19 = .ok (.iconst 2, 1) := by decide +kernel
theorem dX4_state_20 : decode cX4_state 20 = .ok (.if_icmp .le 5, 3) := by decide +kernel
theorem dX4_state_23 : decode cX4_state 23 = .ok (.iconst (-1), 1) := by decide +kernel
theorem dX4_state_24 : decode cX4_state 24 = .ok (.ireturn, 1) := by decide +kernel
theorem dX4_state_25 : decode cX4_state 25 = .ok (.iconst 0, 1) := by decide +kernel
theorem dX4_state_26 : decode cX4_state 26 = .ok (.istore 4, 2) := by decide +kernel
theorem dX4_state_28 : decode cX4_state 28 = .ok (.iload 4, 2) := by decide +kernel
theorem dX4_state_30 : decode cX4_state 30 = .ok (.aload_n 0, 1) := by decide +kernel
theorem dX4_state_31 : decode cX4_state 31 = .ok (.getfield 102, 3) := by decide +kernel
theorem dX4_state_34 : decode cX4_state 34 = .ok (.if_icmp .ge 50, 3) := by decide +kernel
theorem dX4_state_37 : decode cX4_state 37 = .ok (.aload_n 0, 1) := by decide +kernel
theorem dX4_state_38 : decode cX4_state 38 = .ok (.getfield 7, 3) := by decide +kernel
theorem dX4_state_41 : decode cX4_state 41 = .ok (.iload 4, 2) := by decide +kernel
theorem dX4_state_43 : decode cX4_state 43 = .ok (.iaload, 1) := by decide +kernel
theorem dX4_state_44 : decode cX4_state 44 = .ok (.iload_n 1, 1) := by decide +kernel
theorem dX4_state_45 : decode cX4_state 45 = .ok (.if_icmp .ne 33, 3) := by decide +kernel
theorem dX4_state_48 : decode cX4_state 48 = .ok (.aload_n 0, 1) := by decide +kernel
theorem dX4_state_49 : decode cX4_state 49 = .ok (.getfield 13, 3) := by decide +kernel
theorem dX4_state_52 : decode cX4_state 52 = .ok (.iload 4, 2) := by decide +kernel
theorem dX4_state_54 : decode cX4_state 54 = .ok (.iaload, 1) := by decide +kernel
theorem dX4_state_55 : decode cX4_state 55 = .ok (.iload_n 2, 1) := by decide +kernel
theorem dX4_state_56 : decode cX4_state 56 = .ok (.if_icmp .ne 19, 3) := by decide +kernel
theorem dX4_state_59 : decode cX4_state 59 = .ok (.aload_n 0, 1) := by decide +kernel
theorem dX4_state_60 : decode cX4_state 60 = .ok (.getfield 16, 3) := by decide +kernel
theorem dX4_state_63 : decode cX4_state 63 = .ok (.iload 4, 2) := by decide +kernel
theorem dX4_state_65 : decode cX4_state 65 = .ok (.iaload, 1) := by decide +kernel
theorem dX4_state_66 : decode cX4_state 66 = .ok (.iload_n 3, 1) := by decide +kernel
theorem dX4_state_67 : decode cX4_state 67 = .ok (.if_icmp .ne 8, 3) := by decide +kernel
theorem dX4_state_70 : decode cX4_state 70 = .ok (.iload 4, 2) := by decide +kernel
theorem dX4_state_72 : decode cX4_state 72 = .ok (.goto 5, 3) := by decide +kernel
theorem dX4_state_75 : decode cX4_state 75 = .ok (.bipush (-3), 2) := by decide +kernel
theorem dX4_state_77 : decode cX4_state 77 = .ok (.ireturn, 1) := by decide +kernel
theorem dX4_state_78 : decode cX4_state 78 = .ok (.iinc 4 1, 3) := by decide +kernel
theorem dX4_state_81 : decode cX4_state 81 = .ok (.goto (-53), 3) := by decide +kernel
theorem dX4_state_84 : decode cX4_state 84 = .ok (.aload_n 0, 1) := by decide +kernel
theorem dX4_state_85 : decode cX4_state 85 = .ok (.getfield 102, 3) := by decide +kernel
theorem dX4_state_88 : decode cX4_state 88 = .ok (.bipush 8, 2) := by decide +kernel
theorem dX4_state_90 : decode cX4_state 90 = .ok (.if_icmp .ne 6, 3) := by decide +kernel
theorem dX4_state_93 : decode cX4_state 93 = .ok (.bipush (-4), 2) := by decide +kernel
theorem dX4_state_95 : decode cX4_state 95 = .ok (.ireturn, 1) := by decide +kernel
theorem dX4_state_96 : decode cX4_state 96 = .ok (.aload_n 0, 1) := by decide +kernel
theorem dX4_state_97 : decode cX4_state 97 = .ok (.getfield 7, 3) := by decide +kernel
theorem dX4_state_100 : decode cX4_state 100 = .ok (.aload_n 0, 1) := by decide +kernel
theorem dX4_state_101 : decode cX4_state 101 = .ok (.getfield 102, 3) := by decide +kernel
theorem dX4_state_104 : decode cX4_state 104 = .ok (.iload_n 1, 1) := by decide +kernel
theorem dX4_state_105 : decode cX4_state 105 = .ok (.iastore, 1) := by decide +kernel
theorem dX4_state_106 : decode cX4_state 106 = .ok (.aload_n 0, 1) := by decide +kernel
theorem dX4_state_107 : decode cX4_state 107 = .ok (.getfield 13, 3) := by decide +kernel
theorem dX4_state_110 : decode cX4_state 110 = .ok (.aload_n 0, 1) := by decide +kernel
theorem dX4_state_111 : decode cX4_state 111 = .ok (.getfield 102, 3) := by decide +kernel
theorem dX4_state_114 : decode cX4_state 114 = .ok (.iload_n 2, 1) := by decide +kernel
theorem dX4_state_115 : decode cX4_state 115 = .ok (.iastore, 1) := by decide +kernel
theorem dX4_state_116 : decode cX4_state 116 = .ok (.aload_n 0, 1) := by decide +kernel
theorem dX4_state_117 : decode cX4_state 117 = .ok (.getfield 16, 3) := by decide +kernel
theorem dX4_state_120 : decode cX4_state 120 = .ok (.aload_n 0, 1) := by decide +kernel
theorem dX4_state_121 : decode cX4_state 121 = .ok (.getfield 102, 3) := by decide +kernel
theorem dX4_state_124 : decode cX4_state 124 = .ok (.iload_n 3, 1) := by decide +kernel
theorem dX4_state_125 : decode cX4_state 125 = .ok (.iastore, 1) := by decide +kernel
theorem dX4_state_126 : decode cX4_state 126 = .ok (.aload_n 0, 1) := by decide +kernel
theorem dX4_state_127 : decode cX4_state 127 = .ok (.dup, 1) := by decide +kernel
theorem dX4_state_128 : decode cX4_state 128 = .ok (.getfield 102, 3) := by decide +kernel
theorem dX4_state_131 : decode cX4_state 131 = .ok (.iconst 1, 1) := by decide +kernel
theorem dX4_state_132 : decode cX4_state 132 = .ok (.iadd, 1) := by decide +kernel
theorem dX4_state_133 : decode cX4_state 133 = .ok (.putfield 102, 3) := by decide +kernel
theorem dX4_state_136 : decode cX4_state 136 = .ok (.aload_n 0, 1) := by decide +kernel
theorem dX4_state_137 : decode cX4_state 137 = .ok (.getfield 102, 3) := by decide +kernel
theorem dX4_state_140 : decode cX4_state 140 = .ok (.iconst 1, 1) := by decide +kernel
theorem dX4_state_141 : decode cX4_state 141 = .ok (.isub, 1) := by decide +kernel
theorem dX4_state_142 : decode cX4_state 142 = .ok (.ireturn, 1) := by decide +kernel
theorem dX4_key_0 : decode cX4_key 0 = .ok (.aload_n 0, 1) := by decide +kernel
theorem dX4_key_1 : decode cX4_key 1 = .ok (.iconst 0, 1) := by decide +kernel
theorem dX4_key_2 : decode cX4_key 2 = .ok (.putfield 58, 3) := by decide +kernel
theorem dX4_key_5 : decode cX4_key 5 = .ok (.aload_n 0, 1) := by decide +kernel
theorem dX4_key_6 : decode cX4_key 6 = .ok (.iconst 1, 1) := by decide +kernel
theorem dX4_key_7 : decode cX4_key 7 = .ok (.putfield 112, 3) := by decide +kernel
theorem dX4_key_10 : decode cX4_key 10 = .ok (.aload_n 0, 1) := by decide +kernel
theorem dX4_key_11 : decode cX4_key 11 = .ok (.lload_n 1, 1) := by decide +kernel
theorem dX4_key_12 : decode cX4_key 12 = .ok (.putfield 80, 3) := by decide +kernel
theorem dX4_key_15 : decode cX4_key 15 = .ok (.return_, 1) := by decide +kernel
theorem dX4_leave_0 : decode cX4_leave 0 = .ok (.aload_n 0, 1) := by decide +kernel
theorem dX4_leave_1 : decode cX4_leave 1 = .ok (.iconst 0, 1) := by decide +kernel
theorem dX4_leave_2 : decode cX4_leave 2 = .ok (.putfield 58, 3) := by decide +kernel
theorem dX4_leave_5 : decode cX4_leave 5 = .ok (.aload_n 0, 1) := by decide +kernel
theorem dX4_leave_6 : decode cX4_leave 6 = .ok (.getfield 112, 3) := by decide +kernel
theorem dX4_leave_9 : decode cX4_leave 9 = .ok (.istore_n 1, 1) := by decide +kernel
theorem dX4_leave_10 : decode cX4_leave 10 = .ok (.aload_n 0, 1) := by decide +kernel
theorem dX4_leave_11 : decode cX4_leave 11 = .ok (.iconst 0, 1) := by decide +kernel
theorem dX4_leave_12 : decode cX4_leave 12 = .ok (.putfield 112, 3) := by decide +kernel
theorem dX4_leave_15 : decode cX4_leave 15 = .ok (.iload_n 1, 1) := by decide +kernel
theorem dX4_leave_16 : decode cX4_leave 16 = .ok (.ireturn, 1) := by decide +kernel
theorem dX4_span_0 : decode cX4_span 0 = .ok (.aload_n 0, 1) := by decide +kernel
theorem dX4_span_1 : decode cX4_span 1 = .ok (.iconst 0, 1) := by decide +kernel
theorem dX4_span_2 : decode cX4_span 2 = .ok (.putfield 58, 3) := by decide +kernel
theorem dX4_span_5 : decode cX4_span 5 = .ok (.aload_n 0, 1) := by decide +kernel
theorem dX4_span_6 : decode cX4_span 6 = .ok (.getfield 84, 3) := by decide +kernel
theorem dX4_span_9 : decode cX4_span 9 = .ok (.istore_n 2, 1) := by decide +kernel
theorem dX4_span_10 : decode cX4_span 10 = .ok (.aload_n 0, 1) := by decide +kernel
theorem dX4_span_11 : decode cX4_span 11 = .ok (.iload_n 1, 1) := by decide +kernel
theorem dX4_span_12 : decode cX4_span 12 = .ok (.putfield 84, 3) := by decide +kernel
theorem dX4_span_15 : decode cX4_span 15 = .ok (.iload_n 2, 1) := by decide +kernel
theorem dX4_span_16 : decode cX4_span 16 = .ok (.ireturn, 1) := by decide +kernel
theorem dX4_put_0 : decode cX4_put 0 = .ok (.aload_n 0, 1) := by decide +kernel
theorem dX4_put_1 : decode cX4_put 1 = .ok (.iload_n 1, 1) := by decide +kernel
theorem dX4_put_2 : decode cX4_put 2 = .ok (.iconst 0, 1) := by decide +kernel
theorem dX4_put_3 : decode cX4_put 3 = .ok (.iconst 0, 1) := by decide +kernel
theorem dX4_put_4 : decode cX4_put 4 = .ok (.lload_n 2, 1) := by decide +kernel
theorem dX4_put_5 : decode cX4_put 5 = .ok (.invokevirtual 123, 3) := by decide +kernel
theorem dX4_put_8 : decode cX4_put 8 = .ok (.ifCond .eq 5, 3) := by decide +kernel
theorem dX4_put_11 : decode cX4_put 11 = .ok (.iconst 0, 1) := by decide +kernel
theorem dX4_put_12 : decode cX4_put 12 = .ok (.ireturn, 1) := by decide +kernel
theorem dX4_put_13 : decode cX4_put 13 = .ok (.aload_n 0, 1) := by decide +kernel
theorem dX4_put_14 : decode cX4_put 14 = .ok (.getfield 120, 3) := by decide +kernel
theorem dX4_put_17 : decode cX4_put 17 = .ok (.ifCond .ge 18, 3) := by decide +kernel
theorem dX4_put_20 : decode cX4_put 20 = .ok (.aload_n 0, 1) := by decide +kernel
theorem dX4_put_21 : decode cX4_put 21 = .ok (.getfield 22, 3) := by decide +kernel
theorem dX4_put_24 : decode cX4_put 24 = .ok (.iconst 0, 1) := by decide +kernel
theorem dX4_put_25 : decode cX4_put 25 = .ok (.iaload, 1) := by decide +kernel
theorem dX4_put_26 : decode cX4_put 26 = .ok (.sipush 150, 3) := by decide +kernel
theorem dX4_put_29 : decode cX4_put 29 = .ok (.if_icmp .ne 6, 3) := by decide +kernel
theorem dX4_put_32 : decode cX4_put 32 = .ok (.bipush (-4), 2) := by decide +kernel
theorem dX4_put_34 : decode cX4_put 34 = .ok (.ireturn, 1) := by decide +kernel
theorem dX4_put_35 : decode cX4_put 35 = .ok (.aload_n 0, 1) := by decide +kernel
theorem dX4_put_36 : decode cX4_put 36 = .ok (.getfield 120, 3) := by decide +kernel
theorem dX4_put_39 : decode cX4_put 39 = .ok (.ifCond .ge 7, 3) := by decide +kernel
theorem dX4_put_42 : decode cX4_put 42 = .ok (.iconst 1, 1) := by decide +kernel
theorem dX4_put_43 : decode cX4_put 43 = .ok (.goto 4, 3) := by decide +kernel
theorem dX4_put_46 : decode cX4_put 46 = .ok (.iconst 0, 1) := by decide +kernel
theorem dX4_put_47 : decode cX4_put 47 = .ok (.istore 4, 2) := by decide +kernel
theorem dX4_put_49 : decode cX4_put 49 = .ok (.iload 4, 2) := by decide +kernel
theorem dX4_put_51 : decode cX4_put 51 = .ok (.ifCond .eq 11, 3) := by decide +kernel
theorem dX4_put_54 : decode cX4_put 54 = .ok (.aload_n 0, 1) := by decide +kernel
theorem dX4_put_55 : decode cX4_put 55 = .ok (.iload_n 1, 1) := by decide +kernel
theorem dX4_put_56 : decode cX4_put 56 = .ok (.invokevirtual 127, 3) := by decide +kernel
theorem dX4_put_59 : decode cX4_put 59 = .ok (.goto 7, 3) := by decide +kernel
theorem dX4_put_62 : decode cX4_put 62 = .ok (.aload_n 0, 1) := by decide +kernel
theorem dX4_put_63 : decode cX4_put 63 = .ok (.getfield 120, 3) := by decide +kernel
theorem dX4_put_66 : decode cX4_put 66 = .ok (.istore 5, 2) := by decide +kernel
theorem dX4_put_68 : decode cX4_put 68 = .ok (.aload_n 0, 1) := by decide +kernel
theorem dX4_put_69 : decode cX4_put 69 = .ok (.iload 5, 2) := by decide +kernel
theorem dX4_put_71 : decode cX4_put 71 = .ok (.invokevirtual 91, 3) := by decide +kernel
theorem dX4_put_74 : decode cX4_put 74 = .ok (.aload_n 0, 1) := by decide +kernel
theorem dX4_put_75 : decode cX4_put 75 = .ok (.getfield 38, 3) := by decide +kernel
theorem dX4_put_78 : decode cX4_put 78 = .ok (.bipush 10, 2) := by decide +kernel
theorem dX4_put_80 : decode cX4_put 80 = .ok (.iload 5, 2) := by decide +kernel
theorem dX4_put_82 : decode cX4_put 82 = .ok (.imul, 1) := by decide +kernel
theorem dX4_put_83 : decode cX4_put 83 = .ok (.lload_n 2, 1) := by decide +kernel
theorem dX4_put_84 : decode cX4_put 84 = .ok (.lastore, 1) := by decide +kernel
theorem dX4_put_85 : decode cX4_put 85 = .ok (.aload_n 0, 1) := by decide +kernel
theorem dX4_put_86 : decode cX4_put 86 = .ok (.getfield 35, 3) := by decide +kernel
theorem dX4_put_89 : decode cX4_put 89 = .ok (.iload 5, 2) := by decide +kernel
theorem dX4_put_91 : decode cX4_put 91 = .ok (.iconst 1, 1) := by decide +kernel
theorem dX4_put_92 : decode cX4_put 92 = .ok (.iastore, 1) := by decide +kernel
theorem dX4_put_93 : decode cX4_put 93 = .ok (.iload 4, 2) := by decide +kernel
theorem dX4_put_95 : decode cX4_put 95 = .ok (.ifCond .eq 7, 3) := by decide +kernel
theorem dX4_put_98 : decode cX4_put 98 = .ok (.iconst 1, 1) := by decide +kernel
theorem dX4_put_99 : decode cX4_put 99 = .ok (.goto 4, 3) := by decide +kernel
theorem dX4_put_102 : decode cX4_put 102 = .ok (.iconst 0, 1) := by decide +kernel
theorem dX4_put_103 : decode cX4_put 103 = .ok (.ireturn, 1) := by decide +kernel
theorem dX4_value_0 : decode cX4_value 0 = .ok (.aload_n 0, 1) := by decide +kernel
theorem dX4_value_1 : decode cX4_value 1 = .ok (.iload_n 1, 1) := by decide +kernel
theorem dX4_value_2 : decode cX4_value 2 = .ok (.iconst 0, 1) := by decide +kernel
theorem dX4_value_3 : decode cX4_value 3 = .ok (.iconst 3, 1) := by decide +kernel
theorem dX4_value_4 : decode cX4_value 4 = .ok (.lconst 0, 1) := by decide +kernel
theorem dX4_value_5 : decode cX4_value 5 = .ok (.invokevirtual 123, 3) := by decide +kernel
theorem dX4_value_8 : decode cX4_value 8 = .ok (.ifCond .eq 5, 3) := by decide +kernel
theorem dX4_value_11 : decode cX4_value 11 = .ok (.lconst 0, 1) := by decide +kernel
theorem dX4_value_12 : decode cX4_value 12 = .ok (.lreturn, 1) := by decide +kernel
theorem dX4_value_13 : decode cX4_value 13 = .ok (.aload_n 0, 1) := by decide +kernel
theorem dX4_value_14 : decode cX4_value 14 = .ok (.getfield 120, 3) := by decide +kernel
theorem dX4_value_17 : decode cX4_value 17 = .ok (.ifCond .ge 12, 3) := by decide +kernel
theorem dX4_value_20 : decode cX4_value 20 = .ok (.aload_n 0, 1) := by decide +kernel
theorem dX4_value_21 : decode cX4_value 21 = .ok (.iconst 4, 1) := by decide +kernel
theorem dX4_value_22 : decode cX4_value 22 = .ok (.invokevirtual 130, 3) := by decide +kernel
theorem dX4_value_25 : decode cX4_value 25 = .ok (.i2l, 1) := by decide +kernel
theorem dX4_value_26 : decode cX4_value 26 = .ok (.goto 15, 3) := by decide +kernel
theorem dX4_value_29 : decode cX4_value 29 = .ok (.aload_n 0, 1) := by decide +kernel
theorem dX4_value_30 : decode cX4_value 30 = .ok (.getfield 38, 3) := by decide +kernel
theorem dX4_value_33 : decode cX4_value 33 = .ok (.bipush 10, 2) := by decide +kernel
theorem dX4_value_35 : decode cX4_value 35 = .ok (.aload_n 0, 1) := by decide +kernel
theorem dX4_value_36 : decode cX4_value 36 = .ok (.getfield 120, 3) := by decide +kernel
theorem dX4_value_39 : decode cX4_value 39 = .ok (.imul, 1) := by decide +kernel
theorem dX4_value_40 : decode cX4_value 40 = .ok (.laload, 1) := by decide +kernel
theorem dX4_value_41 : decode cX4_value 41 = .ok (.lreturn, 1) := by decide +kernel
theorem dX4_add_0 : decode cX4_add 0 = .ok (.aload_n 0, 1) := by decide +kernel
theorem dX4_add_1 : decode cX4_add 1 = .ok (.iload_n 1, 1) := by decide +kernel
theorem dX4_add_2 : decode cX4_add 2 = .ok (.iconst 1, 1) := by decide +kernel
theorem dX4_add_3 : decode cX4_add 3 = .ok (.iconst 1, 1) := by decide +kernel
theorem dX4_add_4 : decode cX4_add 4 = .ok (.lload_n 2, 1) := by decide +kernel
theorem dX4_add_5 : decode cX4_add 5 = .ok (.invokevirtual 123, 3) := by decide +kernel
theorem dX4_add_8 : decode cX4_add 8 = .ok (.ifCond .eq 5, 3) := by decide +kernel
theorem dX4_add_11 : decode cX4_add 11 = .ok (.iconst 0, 1) := by decide +kernel
theorem dX4_add_12 : decode cX4_add 12 = .ok (.ireturn, 1) := by decide +kernel
theorem dX4_add_13 : decode cX4_add 13 = .ok (.aload_n 0, 1) := by decide +kernel
theorem dX4_add_14 : decode cX4_add 14 = .ok (.getfield 120, 3) := by decide +kernel
theorem dX4_add_17 : decode cX4_add 17 = .ok (.ifCond .ge 18, 3) := by decide +kernel
theorem dX4_add_20 : decode cX4_add 20 = .ok (.aload_n 0, 1) := by decide +kernel
theorem dX4_add_21 : decode cX4_add 21 = .ok (.getfield 22, 3) := by decide +kernel
theorem dX4_add_24 : decode cX4_add 24 = .ok (.iconst 0, 1) := by decide +kernel
theorem dX4_add_25 : decode cX4_add 25 = .ok (.iaload, 1) := by decide +kernel
theorem dX4_add_26 : decode cX4_add 26 = .ok (.sipush 150, 3) := by decide +kernel
theorem dX4_add_29 : decode cX4_add 29 = .ok (.if_icmp .ne 23, 3) := by decide +kernel
theorem dX4_add_32 : decode cX4_add 32 = .ok (.goto 17, 3) := by decide +kernel
theorem dX4_add_35 : decode cX4_add 35 = .ok (.aload_n 0, 1) := by decide +kernel
theorem dX4_add_36 : decode cX4_add 36 = .ok (.getfield 35, 3) := by decide +kernel
theorem dX4_add_39 : decode cX4_add 39 = .ok (.aload_n 0, 1) := by decide +kernel
theorem dX4_add_40 : decode cX4_add 40 = .ok (.getfield 120, 3) := by decide +kernel
theorem dX4_add_43 : decode cX4_add 43 = .ok (.iaload, 1) := by decide +kernel
theorem dX4_add_44 : decode cX4_add 44 = .ok (.bipush 10, 2) := by decide +kernel
theorem dX4_add_46 : decode cX4_add 46 = .ok (.if_icmp .ne 6, 3) := by decide +kernel
theorem dX4_add_49 : decode cX4_add 49 = .ok (.bipush (-4), 2) := by decide +kernel
theorem dX4_add_51 : decode cX4_add 51 = .ok (.ireturn, 1) := by decide +kernel
theorem dX4_add_52 : decode cX4_add 52 = .ok (.aload_n 0, 1) := by decide +kernel
theorem dX4_add_53 : decode cX4_add 53 = .ok (.getfield 120, 3) := by decide +kernel
theorem dX4_add_56 : decode cX4_add 56 = .ok (.ifCond .ge 11, 3) := by decide +kernel
theorem dX4_add_59 : decode cX4_add 59 = .ok (.aload_n 0, 1) := by decide +kernel
theorem dX4_add_60 : decode cX4_add 60 = .ok (.iload_n 1, 1) := by decide +kernel
theorem dX4_add_61 : decode cX4_add 61 = .ok (.invokevirtual 127, 3) := by decide +kernel
theorem dX4_add_64 : decode cX4_add 64 = .ok (.goto 7, 3) := by decide +kernel
theorem dX4_add_67 : decode cX4_add 67 = .ok (.aload_n 0, 1) := by decide +kernel
theorem dX4_add_68 : decode cX4_add 68 = .ok (.getfield 120, 3) := by decide +kernel
theorem dX4_add_71 : decode cX4_add 71 = .ok (.istore 4, 2) := by decide +kernel
theorem dX4_add_73 : decode cX4_add 73 = .ok (.aload_n 0, 1) := by decide +kernel
theorem dX4_add_74 : decode cX4_add 74 = .ok (.iload 4, 2) := by decide +kernel
theorem dX4_add_76 : decode cX4_add 76 = .ok (.invokevirtual 91, 3) := by decide +kernel
theorem dX4_add_79 : decode cX4_add 79 = .ok (.aload_n 0, 1) := by decide +kernel
theorem dX4_add_80 : decode cX4_add 80 = .ok (.getfield 38, 3) := by decide +kernel
theorem dX4_add_83 : decode cX4_add 83 = .ok (.bipush 10, 2) := by decide +kernel
theorem dX4_add_85 : decode cX4_add 85 = .ok (.iload 4, 2) := by decide +kernel
theorem dX4_add_87 : decode cX4_add 87 = .ok (.imul, 1) := by decide +kernel
theorem dX4_add_88 : decode cX4_add 88 = .ok (.aload_n 0, 1) := by decide +kernel
theorem dX4_add_89 : decode cX4_add 89 = .ok (.getfield 35, 3) := by decide +kernel
theorem dX4_add_92 : decode cX4_add 92 = .ok (.iload 4, 2) := by decide +kernel
theorem dX4_add_94 : decode cX4_add 94 = .ok (.iaload, 1) := by decide +kernel
theorem dX4_add_95 : decode cX4_add 95 = .ok (.iadd, 1) := by decide +kernel
theorem dX4_add_96 : decode cX4_add 96 = .ok (.lload_n 2, 1) := by decide +kernel
theorem dX4_add_97 : decode cX4_add 97 = .ok (.lastore, 1) := by decide +kernel
theorem dX4_add_98 : decode cX4_add 98 = .ok (.aload_n 0, 1) := by decide +kernel
theorem dX4_add_99 : decode cX4_add 99 = .ok (.getfield 35, 3) := by decide +kernel
theorem dX4_add_102 : decode cX4_add 102 = .ok (.iload 4, 2) := by decide +kernel
theorem dX4_add_104 : decode cX4_add 104 = .ok (.dup2, 1) := by decide +kernel
theorem dX4_add_105 : decode cX4_add 105 = .ok (.iaload, 1) := by decide +kernel
theorem dX4_add_106 : decode cX4_add 106 = .ok (.iconst 1, 1) := by decide +kernel
theorem dX4_add_107 : decode cX4_add 107 = .ok (.iadd, 1) := by decide +kernel
theorem dX4_add_108 : decode cX4_add 108 = .ok (.iastore, 1) := by decide +kernel
theorem dX4_add_109 : decode cX4_add 109 = .ok (.aload_n 0, 1) := by decide +kernel
theorem dX4_add_110 : decode cX4_add 110 = .ok (.getfield 35, 3) := by decide +kernel
theorem dX4_add_113 : decode cX4_add 113 = .ok (.iload 4, 2) := by decide +kernel
theorem dX4_add_115 : decode cX4_add 115 = .ok (.iaload, 1) := by decide +kernel
theorem dX4_add_116 : decode cX4_add 116 = .ok (.ireturn, 1) := by decide +kernel
theorem dX4_item_0 : decode cX4_item 0 = .ok (.aload_n 0, 1) := by decide +kernel
theorem dX4_item_1 : decode cX4_item 1 = .ok (.iload_n 1, 1) := by decide +kernel
theorem dX4_item_2 : decode cX4_item 2 = .ok (.iconst 1, 1) := by decide +kernel
theorem dX4_item_3 : decode cX4_item 3 = .ok (.iconst 2, 1) := by decide +kernel
theorem dX4_item_4 : decode cX4_item 4 = .ok (.lconst 0, 1) := by decide +kernel
theorem dX4_item_5 : decode cX4_item 5 = .ok (.invokevirtual 123, 3) := by decide +kernel
theorem dX4_item_8 : decode cX4_item 8 = .ok (.ifCond .eq 5, 3) := by decide +kernel
theorem dX4_item_11 : decode cX4_item 11 = .ok (.lconst 0, 1) := by decide +kernel
theorem dX4_item_12 : decode cX4_item 12 = .ok (.lreturn, 1) := by decide +kernel
theorem dX4_item_13 : decode cX4_item 13 = .ok (.aload_n 0, 1) := by decide +kernel
theorem dX4_item_14 : decode cX4_item 14 = .ok (.getfield 120, 3) := by decide +kernel
theorem dX4_item_17 : decode cX4_item 17 = .ok (.ifCond .lt 20, 3) := by decide +kernel
theorem dX4_item_20 : decode cX4_item 20 = .ok (.iload_n 2, 1) := by decide +kernel
theorem dX4_item_21 : decode cX4_item 21 = .ok (.ifCond .lt 16, 3) := by decide +kernel
theorem dX4_item_24 : decode cX4_item 24 = .ok (.iload_n 2, 1) := by decide +kernel
theorem dX4_item_25 : decode cX4_item 25 = .ok (.aload_n 0, 1) := by decide +kernel
theorem dX4_item_26 : decode cX4_item 26 = .ok (.getfield 35, 3) := by decide +kernel
theorem dX4_item_29 : decode cX4_item 29 = .ok (.aload_n 0, 1) := by decide +kernel
theorem dX4_item_30 : decode cX4_item 30 = .ok (.getfield 120, 3) := by decide +kernel
theorem dX4_item_33 : decode cX4_item 33 = .ok (.iaload, 1) := by decide +kernel
theorem dX4_item_34 : decode cX4_item 34 = .ok (.if_icmp .lt 12, 3) := by decide +kernel
theorem dX4_item_37 : decode cX4_item 37 = .ok (.aload_n 0, 1) := by decide +kernel
theorem dX4_item_38 : decode cX4_item 38 = .ok (.iconst 1, 1) := by decide +kernel
theorem dX4_item_39 : decode cX4_item 39 = .ok (.invokevirtual 130, 3) := by decide +kernel
theorem dX4_item_42 : decode cX4_item 42 = .ok (.i2l, 1) := by decide +kernel
theorem dX4_item_43 : decode cX4_item 43 = .ok (.goto 17, 3) := by decide +kernel
theorem dX4_item_46 : decode cX4_item 46 = .ok (.aload_n 0, 1) := by decide +kernel
theorem dX4_item_47 : decode cX4_item 47 = .ok (.getfield 38, 3) := by decide +kernel
theorem dX4_item_50 : decode cX4_item 50 = .ok (.bipush 10, 2) := by decide +kernel
theorem dX4_item_52 : decode cX4_item 52 = .ok (.aload_n 0, 1) := by decide +kernel
theorem dX4_item_53 : decode cX4_item 53 = .ok (.getfield 120, 3) := by decide +kernel
theorem dX4_item_56 : decode cX4_item 56 = .ok (.imul, 1) := by decide +kernel
theorem dX4_item_57 : decode cX4_item 57 = .ok (.iload_n 2, 1) := by decide +kernel
theorem dX4_item_58 : decode cX4_item 58 = .ok (.iadd, 1) := by decide +kernel
theorem dX4_item_59 : decode cX4_item 59 = .ok (.laload, 1) := by decide +kernel
theorem dX4_item_60 : decode cX4_item 60 = .ok (.lreturn, 1) := by decide +kernel
theorem dX4_placeOf_0 : decode cX4_placeOf 0 = .ok (.iconst 0, 1) := by decide +kernel
theorem dX4_placeOf_1 : decode cX4_placeOf 1 = .ok (.istore 4, 2) := by decide +kernel
theorem dX4_placeOf_3 : decode cX4_placeOf 3 = .ok (.iload 4, 2) := by decide +kernel
theorem dX4_placeOf_5 : decode cX4_placeOf 5 = .ok (.aload_n 0, 1) := by decide +kernel
theorem dX4_placeOf_6 : decode cX4_placeOf 6 = .ok (.getfield 35, 3) := by decide +kernel
theorem dX4_placeOf_9 : decode cX4_placeOf 9 = .ok (.iload_n 1, 1) := by decide +kernel
theorem dX4_placeOf_10 : decode cX4_placeOf 10 = .ok (.iaload, 1) := by decide +kernel
theorem dX4_placeOf_11 : decode cX4_placeOf 11 = .ok (.if_icmp .ge 26, 3) := by decide +kernel
theorem dX4_placeOf_14 : decode cX4_placeOf 14 = .ok (.aload_n 0, 1) := by decide +kernel
theorem dX4_placeOf_15 : decode cX4_placeOf 15 = .ok (.getfield 41, 3) := by decide +kernel
theorem dX4_placeOf_18 : decode cX4_placeOf 18 = .ok (.bipush 10, 2) := by decide +kernel
theorem dX4_placeOf_20 : decode cX4_placeOf 20 = .ok (.iload_n 1, 1) := by decide +kernel
theorem dX4_placeOf_21 : decode cX4_placeOf 21 = .ok (.imul, 1) := by decide +kernel
theorem dX4_placeOf_22 : decode cX4_placeOf 22 = .ok (.iload 4, 2) := by decide +kernel
theorem dX4_placeOf_24 : decode cX4_placeOf 24 = .ok (.iadd, 1) := by decide +kernel
theorem dX4_placeOf_25 : decode cX4_placeOf 25 = .ok (.laload, 1) := by decide +kernel
theorem dX4_placeOf_26 : decode cX4_placeOf 26 = .ok (.lload_n 2, 1) := by decide +kernel
theorem dX4_placeOf_27 : decode cX4_placeOf 27 = .ok (.lcmp, 1) := by decide +kernel
theorem dX4_placeOf_28 : decode cX4_placeOf 28 = .ok (.ifCond .ge 9, 3) := by decide +kernel
theorem dX4_placeOf_31 : decode cX4_placeOf 31 = .ok (.iinc 4 1, 3) := by decide +kernel
theorem dX4_placeOf_34 : decode cX4_placeOf 34 = .ok (.goto (-31), 3) := by decide +kernel
theorem dX4_placeOf_37 : decode cX4_placeOf 37 = .ok (.iload 4, 2) := by decide +kernel
theorem dX4_placeOf_39 : decode cX4_placeOf 39 = .ok (.ireturn, 1) := by decide +kernel
theorem dX4_has_0 : decode cX4_has 0 = .ok (.iload_n 1, 1) := by decide +kernel
theorem dX4_has_1 : decode cX4_has 1 = .ok (.ifCond .ge 7, 3) := by decide +kernel
theorem dX4_has_4 : decode cX4_has 4 = .ok (.iconst 0, 1) := by decide +kernel
theorem dX4_has_5 : decode cX4_has 5 = .ok (.goto 9, 3) := by decide +kernel
theorem dX4_has_8 : decode cX4_has 8 = .ok (.aload_n 0, 1) := by decide +kernel
theorem dX4_has_9 : decode cX4_has 9 = .ok (.iload_n 1, 1) := by decide +kernel
theorem dX4_has_10 : decode cX4_has 10 = .ok (.lload_n 2, 1) := by decide +kernel
theorem dX4_has_11 : decode cX4_has 11 = .ok (.invokevirtual 133, 3) := by decide +kernel
theorem dX4_has_14 : decode cX4_has 14 = .ok (.istore 4, 2) := by decide +kernel
theorem dX4_has_16 : decode cX4_has 16 = .ok (.iload_n 1, 1) := by decide +kernel
theorem dX4_has_17 : decode cX4_has 17 = .ok (.ifCond .lt 35, 3) := by decide +kernel
theorem dX4_has_20 : decode cX4_has 20 = .ok (.iload 4, 2) := by decide +kernel
theorem dX4_has_22 : decode cX4_has 22 = .ok (.aload_n 0, 1) := by decide +kernel
theorem dX4_has_23 : decode cX4_has 23 = .ok (.getfield 35, 3) := by decide +kernel
theorem dX4_has_26 : decode cX4_has 26 = .ok (.iload_n 1, 1) := by decide +kernel
theorem dX4_has_27 : decode cX4_has 27 = .ok (.iaload, 1) := by decide +kernel
theorem dX4_has_28 : decode cX4_has 28 = .ok (.if_icmp .ge 24, 3) := by decide +kernel
theorem dX4_has_31 : decode cX4_has 31 = .ok (.aload_n 0, 1) := by decide +kernel
theorem dX4_has_32 : decode cX4_has 32 = .ok (.getfield 41, 3) := by decide +kernel
theorem dX4_has_35 : decode cX4_has 35 = .ok (.bipush 10, 2) := by decide +kernel
theorem dX4_has_37 : decode cX4_has 37 = .ok (.iload_n 1, 1) := by decide +kernel
theorem dX4_has_38 : decode cX4_has 38 = .ok (.imul, 1) := by decide +kernel
theorem dX4_has_39 : decode cX4_has 39 = .ok (.iload 4, 2) := by decide +kernel
theorem dX4_has_41 : decode cX4_has 41 = .ok (.iadd, 1) := by decide +kernel
theorem dX4_has_42 : decode cX4_has 42 = .ok (.laload, 1) := by decide +kernel
theorem dX4_has_43 : decode cX4_has 43 = .ok (.lload_n 2, 1) := by decide +kernel
theorem dX4_has_44 : decode cX4_has 44 = .ok (.lcmp, 1) := by decide +kernel
theorem dX4_has_45 : decode cX4_has 45 = .ok (.ifCond .ne 7, 3) := by decide +kernel
theorem dX4_has_48 : decode cX4_has 48 = .ok (.iconst 1, 1) := by decide +kernel
theorem dX4_has_49 : decode cX4_has 49 = .ok (.goto 4, 3) := by decide +kernel
theorem dX4_has_52 : decode cX4_has 52 = .ok (.iconst 0, 1) := by decide +kernel
theorem dX4_has_53 : decode cX4_has 53 = .ok (.ireturn, 1) := by decide +kernel
theorem dX4_set_0 : decode cX4_set 0 = .ok (.aload_n 0, 1) := by decide +kernel
theorem dX4_set_1 : decode cX4_set 1 = .ok (.iload_n 1, 1) := by decide +kernel
theorem dX4_set_2 : decode cX4_set 2 = .ok (.iconst 2, 1) := by decide +kernel
theorem dX4_set_3 : decode cX4_set 3 = .ok (.iconst 2, 1) := by decide +kernel
theorem dX4_set_4 : decode cX4_set 4 = .ok (.lload 4, 2) := by decide +kernel
theorem dX4_set_6 : decode cX4_set 6 = .ok (.invokevirtual 123, 3) := by decide +kernel
theorem dX4_set_9 : decode cX4_set 9 = .ok (.ifCond .eq 5, 3) := by decide +kernel
theorem dX4_set_12 : decode cX4_set 12 = .ok (.iconst 0, 1) := by decide +kernel
theorem dX4_set_13 : decode cX4_set 13 = .ok (.ireturn, 1) := by decide +kernel
theorem dX4_set_14 : decode cX4_set 14 = .ok (.aload_n 0, 1) := by decide +kernel
theorem dX4_set_15 : decode cX4_set 15 = .ok (.aload_n 0, 1) := by decide +kernel
theorem dX4_set_16 : decode cX4_set 16 = .ok (.getfield 120, 3) := by decide +kernel
theorem dX4_set_19 : decode cX4_set 19 = .ok (.lload_n 2, 1) := by decide +kernel
theorem dX4_set_20 : decode cX4_set 20 = .ok (.invokevirtual 137, 3) := by decide +kernel
theorem dX4_set_23 : decode cX4_set 23 = .ok (.istore 6, 2) := by decide +kernel
theorem dX4_set_25 : decode cX4_set 25 = .ok (.iload 6, 2) := by decide +kernel
theorem dX4_set_27 : decode cX4_set 27 = .ok (.ifCond .ne 42, 3) := by decide +kernel
theorem dX4_set_30 : decode cX4_set 30 = .ok (.aload_n 0, 1) := by decide +kernel
theorem dX4_set_31 : decode cX4_set 31 = .ok (.getfield 120, 3) := by decide +kernel
theorem dX4_set_34 : decode cX4_set 34 = .ok (.ifCond .ge 18, 3) := by decide +kernel
theorem dX4_set_37 : decode cX4_set 37 = .ok (.aload_n 0, 1) := by decide +kernel
theorem dX4_set_38 : decode cX4_set 38 = .ok (.getfield 22, 3) := by decide +kernel
theorem dX4_set_41 : decode cX4_set 41 = .ok (.iconst 0, 1) := by decide +kernel
theorem dX4_set_42 : decode cX4_set 42 = .ok (.iaload, 1) := by decide +kernel
theorem dX4_set_43 : decode cX4_set 43 = .ok (.sipush 150, 3) := by decide +kernel
theorem dX4_set_46 : decode cX4_set 46 = .ok (.if_icmp .ne 23, 3) := by decide +kernel
theorem dX4_set_49 : decode cX4_set 49 = .ok (.goto 17, 3) := by decide +kernel
theorem dX4_set_52 : decode cX4_set 52 = .ok (.aload_n 0, 1) := by decide +kernel
theorem dX4_set_53 : decode cX4_set 53 = .ok (.getfield 35, 3) := by decide +kernel
theorem dX4_set_56 : decode cX4_set 56 = .ok (.aload_n 0, 1) := by decide +kernel
theorem dX4_set_57 : decode cX4_set 57 = .ok (.getfield 120, 3) := by decide +kernel
theorem dX4_set_60 : decode cX4_set 60 = .ok (.iaload, 1) := by decide +kernel
theorem dX4_set_61 : decode cX4_set 61 = .ok (.bipush 10, 2) := by decide +kernel
theorem dX4_set_63 : decode cX4_set 63 = .ok (.if_icmp .ne 6, 3) := by decide +kernel
theorem dX4_set_66 : decode cX4_set 66 = .ok (.bipush (-4), 2) := by decide +kernel
theorem dX4_set_68 : decode cX4_set 68 = .ok (.ireturn, 1) := by decide +kernel
theorem dX4_set_69 : decode cX4_set 69 = .ok (.aload_n 0, 1) := by decide +kernel
theorem dX4_set_70 : decode cX4_set 70 = .ok (.getfield 120, 3) := by decide +kernel
theorem dX4_set_73 : decode cX4_set 73 = .ok (.ifCond .ge 11, 3) := by decide +kernel
theorem dX4_set_76 : decode cX4_set 76 = .ok (.aload_n 0, 1) := by decide +kernel
theorem dX4_set_77 : decode cX4_set 77 = .ok (.iload_n 1, 1) := by decide +kernel
theorem dX4_set_78 : decode cX4_set 78 = .ok (.invokevirtual 127, 3) := by decide +kernel
theorem dX4_set_81 : decode cX4_set 81 = .ok (.goto 7, 3) := by decide +kernel
theorem dX4_set_84 : decode cX4_set 84 = .ok (.aload_n 0, 1) := by decide +kernel
theorem dX4_set_85 : decode cX4_set 85 = .ok (.getfield 120, 3) := by decide +kernel
theorem dX4_set_88 : decode cX4_set 88 = .ok (.istore 7, 2) := by decide +kernel
theorem dX4_set_90 : decode cX4_set 90 = .ok (.aload_n 0, 1) := by decide +kernel
theorem dX4_set_91 : decode cX4_set 91 = .ok (.iload 7, 2) := by decide +kernel
theorem dX4_set_93 : decode cX4_set 93 = .ok (.invokevirtual 91, 3) := by decide +kernel
theorem dX4_set_96 : decode cX4_set 96 = .ok (.aload_n 0, 1) := by decide +kernel
theorem dX4_set_97 : decode cX4_set 97 = .ok (.iload 7, 2) := by decide +kernel
theorem dX4_set_99 : decode cX4_set 99 = .ok (.lload_n 2, 1) := by decide +kernel
theorem dX4_set_100 : decode cX4_set 100 = .ok (.invokevirtual 133, 3) := by decide +kernel
theorem dX4_set_103 : decode cX4_set 103 = .ok (.istore 8, 2) := by decide +kernel
theorem dX4_set_105 : decode cX4_set 105 = .ok (.iload 6, 2) := by decide +kernel
theorem dX4_set_107 : decode cX4_set 107 = .ok (.ifCond .ne 106, 3) := by decide +kernel
theorem dX4_set_110 : decode cX4_set 110 = .ok (.aload_n 0, 1) := by decide +kernel
theorem dX4_set_111 : decode cX4_set 111 = .ok (.getfield 35, 3) := by decide +kernel
theorem dX4_set_114 : decode cX4_set 114 = .ok (.iload 7, 2) := by decide +kernel
theorem dX4_set_116 : decode cX4_set 116 = .ok (.iaload, 1) := by decide +kernel
theorem dX4_set_117 : decode cX4_set 117 = .ok (.istore 9, 2) := by decide +kernel
theorem dX4_set_119 : decode cX4_set 119 = .ok (.iload 9, 2) := by decide +kernel
theorem dX4_set_121 : decode cX4_set 121 = .ok (.iload 8, 2) := by decide +kernel
theorem dX4_set_123 : decode cX4_set 123 = .ok (.if_icmp .le 65, 3) := by decide +kernel
theorem dX4_set_126 : decode cX4_set 126 = .ok (.aload_n 0, 1) := by decide +kernel
theorem dX4_set_127 : decode cX4_set 127 = .ok (.getfield 38, 3) := by decide +kernel
theorem dX4_set_130 : decode cX4_set 130 = .ok (.bipush 10, 2) := by decide +kernel
theorem dX4_set_132 : decode cX4_set 132 = .ok (.iload 7, 2) := by decide +kernel
theorem dX4_set_134 : decode cX4_set 134 = .ok (.imul, 1) := by decide +kernel
theorem dX4_set_135 : decode cX4_set 135 = .ok (.iload 9, 2) := by decide +kernel
theorem dX4_set_137 : decode cX4_set 137 = .ok (.iadd, 1) := by decide +kernel
theorem dX4_set_138 : decode cX4_set 138 = .ok (.aload_n 0, 1) := by decide +kernel
theorem dX4_set_139 : decode cX4_set 139 = .ok (.getfield 38, 3) := by decide +kernel
theorem dX4_set_142 : decode cX4_set 142 = .ok (.bipush 10, 2) := by decide +kernel
theorem dX4_set_144 : decode cX4_set 144 = .ok (.iload 7, 2) := by decide +kernel
theorem dX4_set_146 : decode cX4_set 146 = .ok (.imul, 1) := by decide +kernel
theorem dX4_set_147 : decode cX4_set 147 = .ok (.iload 9, 2) := by decide +kernel
theorem dX4_set_149 : decode cX4_set 149 = .ok (.iadd, 1) := by decide +kernel
theorem dX4_set_150 : decode cX4_set 150 = .ok (.iconst 1, 1) := by decide +kernel
theorem dX4_set_151 : decode cX4_set 151 = .ok (.isub, 1) := by decide +kernel
theorem dX4_set_152 : decode cX4_set 152 = .ok (.laload, 1) := by decide +kernel
theorem dX4_set_153 : decode cX4_set 153 = .ok (.lastore, 1) := by decide +kernel
theorem dX4_set_154 : decode cX4_set 154 = .ok (.aload_n 0, 1) := by decide +kernel
theorem dX4_set_155 : decode cX4_set 155 = .ok (.getfield 41, 3) := by decide +kernel
theorem dX4_set_158 : decode cX4_set 158 = .ok (.bipush 10, 2) := by decide +kernel
theorem dX4_set_160 : decode cX4_set 160 = .ok (.iload 7, 2) := by decide +kernel
theorem dX4_set_162 : decode cX4_set 162 = .ok (.imul, 1) := by decide +kernel
theorem dX4_set_163 : decode cX4_set 163 = .ok (.iload 9, 2) := by decide +kernel
theorem dX4_set_165 : decode cX4_set 165 = .ok (.iadd, 1) := by decide +kernel
theorem dX4_set_166 : decode cX4_set 166 = .ok (.aload_n 0, 1) := by decide +kernel
theorem dX4_set_167 : decode cX4_set 167 = .ok (.getfield 41, 3) := by decide +kernel
theorem dX4_set_170 : decode cX4_set 170 = .ok (.bipush 10, 2) := by decide +kernel
theorem dX4_set_172 : decode cX4_set 172 = .ok (.iload 7, 2) := by decide +kernel
theorem dX4_set_174 : decode cX4_set 174 = .ok (.imul, 1) := by decide +kernel
theorem dX4_set_175 : decode cX4_set 175 = .ok (.iload 9, 2) := by decide +kernel
theorem dX4_set_177 : decode cX4_set 177 = .ok (.iadd, 1) := by decide +kernel
theorem dX4_set_178 : decode cX4_set 178 = .ok (.iconst 1, 1) := by decide +kernel
theorem dX4_set_179 : decode cX4_set 179 = .ok (.isub, 1) := by decide +kernel
theorem dX4_set_180 : decode cX4_set 180 = .ok (.laload, 1) := by decide +kernel
theorem dX4_set_181 : decode cX4_set 181 = .ok (.lastore, 1) := by decide +kernel
theorem dX4_set_182 : decode cX4_set 182 = .ok (.iinc 9 (-1), 3) := by decide +kernel
theorem dX4_set_185 : decode cX4_set 185 = .ok (.goto (-66), 3) := by decide +kernel
theorem dX4_set_188 : decode cX4_set 188 = .ok (.aload_n 0, 1) := by decide +kernel
theorem dX4_set_189 : decode cX4_set 189 = .ok (.getfield 35, 3) := by decide +kernel
theorem dX4_set_192 : decode cX4_set 192 = .ok (.iload 7, 2) := by decide +kernel
theorem dX4_set_194 : decode cX4_set 194 = .ok (.dup2, 1) := by decide +kernel
theorem dX4_set_195 : decode cX4_set 195 = .ok (.iaload, 1) := by decide +kernel
theorem dX4_set_196 : decode cX4_set 196 = .ok (.iconst 1, 1) := by decide +kernel
theorem dX4_set_197 : decode cX4_set 197 = .ok (.iadd, 1) := by decide +kernel
theorem dX4_set_198 : decode cX4_set 198 = .ok (.iastore, 1) := by decide +kernel
theorem dX4_set_199 : decode cX4_set 199 = .ok (.aload_n 0, 1) := by decide +kernel
theorem dX4_set_200 : decode cX4_set 200 = .ok (.getfield 41, 3) := by decide +kernel
theorem dX4_set_203 : decode cX4_set 203 = .ok (.bipush 10, 2) := by decide +kernel
theorem dX4_set_205 : decode cX4_set 205 = .ok (.iload 7, 2) := by decide +kernel
theorem dX4_set_207 : decode cX4_set 207 = .ok (.imul, 1) := by decide +kernel
theorem dX4_set_208 : decode cX4_set 208 = .ok (.iload 8, 2) := by decide +kernel
theorem dX4_set_210 : decode cX4_set 210 = .ok (.iadd, 1) := by decide +kernel
theorem dX4_set_211 : decode cX4_set 211 = .ok (.lload_n 2, 1) := by decide +kernel
theorem dX4_set_212 : decode cX4_set 212 = .ok (.lastore, 1) := by decide +kernel
theorem dX4_set_213 : decode cX4_set 213 = .ok (.aload_n 0, 1) := by decide +kernel
theorem dX4_set_214 : decode cX4_set 214 = .ok (.getfield 38, 3) := by decide +kernel
theorem dX4_set_217 : decode cX4_set 217 = .ok (.bipush 10, 2) := by decide +kernel
theorem dX4_set_219 : decode cX4_set 219 = .ok (.iload 7, 2) := by decide +kernel
theorem dX4_set_221 : decode cX4_set 221 = .ok (.imul, 1) := by decide +kernel
theorem dX4_set_222 : decode cX4_set 222 = .ok (.iload 8, 2) := by decide +kernel
theorem dX4_set_224 : decode cX4_set 224 = .ok (.iadd, 1) := by decide +kernel
theorem dX4_set_225 : decode cX4_set 225 = .ok (.lload 4, 2) := by decide +kernel
theorem dX4_set_227 : decode cX4_set 227 = .ok (.lastore, 1) := by decide +kernel
theorem dX4_set_228 : decode cX4_set 228 = .ok (.iload 6, 2) := by decide +kernel
theorem dX4_set_230 : decode cX4_set 230 = .ok (.ifCond .eq 7, 3) := by decide +kernel
theorem dX4_set_233 : decode cX4_set 233 = .ok (.iconst 0, 1) := by decide +kernel
theorem dX4_set_234 : decode cX4_set 234 = .ok (.goto 4, 3) := by decide +kernel
theorem dX4_set_237 : decode cX4_set 237 = .ok (.iconst 1, 1) := by decide +kernel
theorem dX4_set_238 : decode cX4_set 238 = .ok (.ireturn, 1) := by decide +kernel
theorem dX4_get_0 : decode cX4_get 0 = .ok (.aload_n 0, 1) := by decide +kernel
theorem dX4_get_1 : decode cX4_get 1 = .ok (.iload_n 1, 1) := by decide +kernel
theorem dX4_get_2 : decode cX4_get 2 = .ok (.iconst 2, 1) := by decide +kernel
theorem dX4_get_3 : decode cX4_get 3 = .ok (.iconst 2, 1) := by decide +kernel
theorem dX4_get_4 : decode cX4_get 4 = .ok (.lconst 0, 1) := by decide +kernel
theorem dX4_get_5 : decode cX4_get 5 = .ok (.invokevirtual 123, 3) := by decide +kernel
theorem dX4_get_8 : decode cX4_get 8 = .ok (.ifCond .eq 5, 3) := by decide +kernel
theorem dX4_get_11 : decode cX4_get 11 = .ok (.lconst 0, 1) := by decide +kernel
theorem dX4_get_12 : decode cX4_get 12 = .ok (.lreturn, 1) := by decide +kernel
theorem dX4_get_13 : decode cX4_get 13 = .ok (.aload_n 0, 1) := by decide +kernel
theorem dX4_get_14 : decode cX4_get 14 = .ok (.aload_n 0, 1) := by decide +kernel
theorem dX4_get_15 : decode cX4_get 15 = .ok (.getfield 120, 3) := by decide +kernel
theorem dX4_get_18 : decode cX4_get 18 = .ok (.lload_n 2, 1) := by decide +kernel
theorem dX4_get_19 : decode cX4_get 19 = .ok (.invokevirtual 137, 3) := by decide +kernel
theorem dX4_get_22 : decode cX4_get 22 = .ok (.ifCond .eq 28, 3) := by decide +kernel
theorem dX4_get_25 : decode cX4_get 25 = .ok (.aload_n 0, 1) := by decide +kernel
theorem dX4_get_26 : decode cX4_get 26 = .ok (.getfield 38, 3) := by decide +kernel
theorem dX4_get_29 : decode cX4_get 29 = .ok (.bipush 10, 2) := by decide +kernel
theorem dX4_get_31 : decode cX4_get 31 = .ok (.aload_n 0, 1) := by decide +kernel
theorem dX4_get_32 : decode cX4_get 32 = .ok (.getfield 120, 3) := by decide +kernel
theorem dX4_get_35 : decode cX4_get 35 = .ok (.imul, 1) := by decide +kernel
theorem dX4_get_36 : decode cX4_get 36 = .ok (.aload_n 0, 1) := by decide +kernel
theorem dX4_get_37 : decode cX4_get 37 = .ok (.aload_n 0, 1) := by decide +kernel
theorem dX4_get_38 : decode cX4_get 38 = .ok (.getfield 120, 3) := by decide +kernel
theorem dX4_get_41 : decode cX4_get 41 = .ok (.lload_n 2, 1) := by decide +kernel
theorem dX4_get_42 : decode cX4_get 42 = .ok (.invokevirtual 133, 3) := by decide +kernel
theorem dX4_get_45 : decode cX4_get 45 = .ok (.iadd, 1) := by decide +kernel
theorem dX4_get_46 : decode cX4_get 46 = .ok (.laload, 1) := by decide +kernel
theorem dX4_get_47 : decode cX4_get 47 = .ok (.goto 9, 3) := by decide +kernel
theorem dX4_get_50 : decode cX4_get 50 = .ok (.aload_n 0, 1) := by decide +kernel
theorem dX4_get_51 : decode cX4_get 51 = .ok (.iconst 4, 1) := by decide +kernel
theorem dX4_get_52 : decode cX4_get 52 = .ok (.invokevirtual 130, 3) := by decide +kernel
theorem dX4_get_55 : decode cX4_get 55 = .ok (.i2l, 1) := by decide +kernel
theorem dX4_get_56 : decode cX4_get 56 = .ok (.lreturn, 1) := by decide +kernel
theorem dX4_member_0 : decode cX4_member 0 = .ok (.aload_n 0, 1) := by decide +kernel
theorem dX4_member_1 : decode cX4_member 1 = .ok (.iload_n 1, 1) := by decide +kernel
theorem dX4_member_2 : decode cX4_member 2 = .ok (.iconst 2, 1) := by decide +kernel
theorem dX4_member_3 : decode cX4_member 3 = .ok (.iconst 2, 1) := by decide +kernel
theorem dX4_member_4 : decode cX4_member 4 = .ok (.lconst 0, 1) := by decide +kernel
theorem dX4_member_5 : decode cX4_member 5 = .ok (.invokevirtual 123, 3) := by decide +kernel
theorem dX4_member_8 : decode cX4_member 8 = .ok (.ifCond .eq 5, 3) := by decide +kernel
theorem dX4_member_11 : decode cX4_member 11 = .ok (.lconst 0, 1) := by decide +kernel
theorem dX4_member_12 : decode cX4_member 12 = .ok (.lreturn, 1) := by decide +kernel
theorem dX4_member_13 : decode cX4_member 13 = .ok (.aload_n 0, 1) := by decide +kernel
theorem dX4_member_14 : decode cX4_member 14 = .ok (.getfield 120, 3) := by decide +kernel
theorem dX4_member_17 : decode cX4_member 17 = .ok (.ifCond .lt 20, 3) := by decide +kernel
theorem dX4_member_20 : decode cX4_member 20 = .ok (.iload_n 2, 1) := by decide +kernel
theorem dX4_member_21 : decode cX4_member 21 = .ok (.ifCond .lt 16, 3) := by decide +kernel
theorem dX4_member_24 : decode cX4_member 24 = .ok (.iload_n 2, 1) := by decide +kernel
theorem dX4_member_25 : decode cX4_member 25 = .ok (.aload_n 0, 1) := by decide +kernel
theorem dX4_member_26 : decode cX4_member 26 = .ok (.getfield 35, 3) := by decide +kernel
theorem dX4_member_29 : decode cX4_member 29 = .ok (.aload_n 0, 1) := by decide +kernel
theorem dX4_member_30 : decode cX4_member 30 = .ok (.getfield 120, 3) := by decide +kernel
theorem dX4_member_33 : decode cX4_member 33 = .ok (.iaload, 1) := by decide +kernel
theorem dX4_member_34 : decode cX4_member 34 = .ok (.if_icmp .lt 12, 3) := by decide +kernel
theorem dX4_member_37 : decode cX4_member 37 = .ok (.aload_n 0, 1) := by decide +kernel
theorem dX4_member_38 : decode cX4_member 38 = .ok (.iconst 1, 1) := by decide +kernel
theorem dX4_member_39 : decode cX4_member 39 = .ok (.invokevirtual 130, 3) := by decide +kernel
theorem dX4_member_42 : decode cX4_member 42 = .ok (.i2l, 1) := by decide +kernel
theorem dX4_member_43 : decode cX4_member 43 = .ok (.goto 17, 3) := by decide +kernel
theorem dX4_member_46 : decode cX4_member 46 = .ok (.aload_n 0, 1) := by decide +kernel
theorem dX4_member_47 : decode cX4_member 47 = .ok (.getfield 41, 3) := by decide +kernel
theorem dX4_member_50 : decode cX4_member 50 = .ok (.bipush 10, 2) := by decide +kernel
theorem dX4_member_52 : decode cX4_member 52 = .ok (.aload_n 0, 1) := by decide +kernel
theorem dX4_member_53 : decode cX4_member 53 = .ok (.getfield 120, 3) := by decide +kernel
theorem dX4_member_56 : decode cX4_member 56 = .ok (.imul, 1) := by decide +kernel
theorem dX4_member_57 : decode cX4_member 57 = .ok (.iload_n 2, 1) := by decide +kernel
theorem dX4_member_58 : decode cX4_member 58 = .ok (.iadd, 1) := by decide +kernel
theorem dX4_member_59 : decode cX4_member 59 = .ok (.laload, 1) := by decide +kernel
theorem dX4_member_60 : decode cX4_member 60 = .ok (.lreturn, 1) := by decide +kernel
theorem dX4_remove_0 : decode cX4_remove 0 = .ok (.aload_n 0, 1) := by decide +kernel
theorem dX4_remove_1 : decode cX4_remove 1 = .ok (.iload_n 1, 1) := by decide +kernel
theorem dX4_remove_2 : decode cX4_remove 2 = .ok (.iconst 2, 1) := by decide +kernel
theorem dX4_remove_3 : decode cX4_remove 3 = .ok (.iconst 2, 1) := by decide +kernel
theorem dX4_remove_4 : decode cX4_remove 4 = .ok (.lconst 0, 1) := by decide +kernel
theorem dX4_remove_5 : decode cX4_remove 5 = .ok (.invokevirtual 123, 3) := by decide +kernel
theorem dX4_remove_8 : decode cX4_remove 8 = .ok (.ifCond .ne 15, 3) := by decide +kernel
theorem dX4_remove_11 : decode cX4_remove 11 = .ok (.aload_n 0, 1) := by decide +kernel
theorem dX4_remove_12 : decode cX4_remove 12 = .ok (.aload_n 0, 1) := by decide +kernel
theorem dX4_remove_13 : decode cX4_remove 13 = .ok (.getfield 120, 3) := by decide +kernel
theorem dX4_remove_16 : decode cX4_remove 16 = .ok (.lload_n 2, 1) := by decide +kernel
theorem dX4_remove_17 : decode cX4_remove 17 = .ok (.invokevirtual 137, 3) := by decide +kernel
theorem dX4_remove_20 : decode cX4_remove 20 = .ok (.ifCond .ne 5, 3) := by decide +kernel
theorem dX4_remove_23 : decode cX4_remove 23 = .ok (.iconst 0, 1) := by decide +kernel
theorem dX4_remove_24 : decode cX4_remove 24 = .ok (.ireturn, 1) := by decide +kernel
theorem dX4_remove_25 : decode cX4_remove 25 = .ok (.aload_n 0, 1) := by decide +kernel
theorem dX4_remove_26 : decode cX4_remove 26 = .ok (.getfield 35, 3) := by decide +kernel
theorem dX4_remove_29 : decode cX4_remove 29 = .ok (.aload_n 0, 1) := by decide +kernel
theorem dX4_remove_30 : decode cX4_remove 30 = .ok (.getfield 120, 3) := by decide +kernel
theorem dX4_remove_33 : decode cX4_remove 33 = .ok (.iaload, 1) := by decide +kernel
theorem dX4_remove_34 : decode cX4_remove 34 = .ok (.iconst 1, 1) := by decide +kernel
theorem dX4_remove_35 : decode cX4_remove 35 = .ok (.if_icmp .ne 13, 3) := by decide +kernel
theorem dX4_remove_38 : decode cX4_remove 38 = .ok (.aload_n 0, 1) := by decide +kernel
theorem dX4_remove_39 : decode cX4_remove 39 = .ok (.aload_n 0, 1) := by decide +kernel
theorem dX4_remove_40 : decode cX4_remove 40 = .ok (.getfield 120, 3) := by decide +kernel
theorem dX4_remove_43 : decode cX4_remove 43 = .ok (.invokevirtual 141, 3) := by decide +kernel
theorem dX4_remove_46 : decode cX4_remove 46 = .ok (.iconst 1, 1) := by decide +kernel
theorem dX4_remove_47 : decode cX4_remove 47 = .ok (.ireturn, 1) := by decide +kernel
theorem dX4_remove_48 : decode cX4_remove 48 = .ok (.aload_n 0, 1) := by decide +kernel
theorem dX4_remove_49 : decode cX4_remove 49 = .ok (.aload_n 0, 1) := by decide +kernel
theorem dX4_remove_50 : decode cX4_remove 50 = .ok (.getfield 120, 3) := by decide +kernel
theorem dX4_remove_53 : decode cX4_remove 53 = .ok (.invokevirtual 91, 3) := by decide +kernel
theorem dX4_remove_56 : decode cX4_remove 56 = .ok (.aload_n 0, 1) := by decide +kernel
theorem dX4_remove_57 : decode cX4_remove 57 = .ok (.aload_n 0, 1) := by decide +kernel
theorem dX4_remove_58 : decode cX4_remove 58 = .ok (.getfield 120, 3) := by decide +kernel
theorem dX4_remove_61 : decode cX4_remove 61 = .ok (.lload_n 2, 1) := by decide +kernel
theorem dX4_remove_62 : decode cX4_remove 62 = .ok (.invokevirtual 133, 3) := by decide +kernel
theorem dX4_remove_65 : decode cX4_remove 65 = .ok (.istore 4, 2) := by decide +kernel
theorem dX4_remove_67 : decode cX4_remove 67 = .ok (.iload 4, 2) := by decide +kernel
theorem dX4_remove_69 : decode cX4_remove 69 = .ok (.iconst 1, 1) := by decide +kernel
theorem dX4_remove_70 : decode cX4_remove 70 = .ok (.iadd, 1) := by decide +kernel
theorem dX4_remove_71 : decode cX4_remove 71 = .ok (.aload_n 0, 1) := by decide +kernel
theorem dX4_remove_72 : decode cX4_remove 72 = .ok (.getfield 35, 3) := by decide +kernel
theorem dX4_remove_75 : decode cX4_remove 75 = .ok (.aload_n 0, 1) := by decide +kernel
theorem dX4_remove_76 : decode cX4_remove 76 = .ok (.getfield 120, 3) := by decide +kernel
theorem dX4_remove_79 : decode cX4_remove 79 = .ok (.iaload, 1) := by decide +kernel
theorem dX4_remove_80 : decode cX4_remove 80 = .ok (.if_icmp .ge 73, 3) := by decide +kernel
theorem dX4_remove_83 : decode cX4_remove 83 = .ok (.aload_n 0, 1) := by decide +kernel
theorem dX4_remove_84 : decode cX4_remove 84 = .ok (.getfield 38, 3) := by decide +kernel
theorem dX4_remove_87 : decode cX4_remove 87 = .ok (.bipush 10, 2) := by decide +kernel
theorem dX4_remove_89 : decode cX4_remove 89 = .ok (.aload_n 0, 1) := by decide +kernel
theorem dX4_remove_90 : decode cX4_remove 90 = .ok (.getfield 120, 3) := by decide +kernel
theorem dX4_remove_93 : decode cX4_remove 93 = .ok (.imul, 1) := by decide +kernel
theorem dX4_remove_94 : decode cX4_remove 94 = .ok (.iload 4, 2) := by decide +kernel
theorem dX4_remove_96 : decode cX4_remove 96 = .ok (.iadd, 1) := by decide +kernel
theorem dX4_remove_97 : decode cX4_remove 97 = .ok (.aload_n 0, 1) := by decide +kernel
theorem dX4_remove_98 : decode cX4_remove 98 = .ok (.getfield 38, 3) := by decide +kernel
theorem dX4_remove_101 : decode cX4_remove 101 = .ok (.bipush 10, 2) := by decide +kernel
theorem dX4_remove_103 : decode cX4_remove 103 = .ok (.aload_n 0, 1) := by decide +kernel
theorem dX4_remove_104 : decode cX4_remove 104 = .ok (.getfield 120, 3) := by decide +kernel
theorem dX4_remove_107 : decode cX4_remove 107 = .ok (.imul, 1) := by decide +kernel
theorem dX4_remove_108 : decode cX4_remove 108 = .ok (.iload 4, 2) := by decide +kernel
theorem dX4_remove_110 : decode cX4_remove 110 = .ok (.iadd, 1) := by decide +kernel
theorem dX4_remove_111 : decode cX4_remove 111 = .ok (.iconst 1, 1) := by decide +kernel
theorem dX4_remove_112 : decode cX4_remove 112 = .ok (.iadd, 1) := by decide +kernel
theorem dX4_remove_113 : decode cX4_remove 113 = .ok (.laload, 1) := by decide +kernel
theorem dX4_remove_114 : decode cX4_remove 114 = .ok (.lastore, 1) := by decide +kernel
theorem dX4_remove_115 : decode cX4_remove 115 = .ok (.aload_n 0, 1) := by decide +kernel
theorem dX4_remove_116 : decode cX4_remove 116 = .ok (.getfield 41, 3) := by decide +kernel
theorem dX4_remove_119 : decode cX4_remove 119 = .ok (.bipush 10, 2) := by decide +kernel
theorem dX4_remove_121 : decode cX4_remove 121 = .ok (.aload_n 0, 1) := by decide +kernel
theorem dX4_remove_122 : decode cX4_remove 122 = .ok (.getfield 120, 3) := by decide +kernel
theorem dX4_remove_125 : decode cX4_remove 125 = .ok (.imul, 1) := by decide +kernel
theorem dX4_remove_126 : decode cX4_remove 126 = .ok (.iload 4, 2) := by decide +kernel
theorem dX4_remove_128 : decode cX4_remove 128 = .ok (.iadd, 1) := by decide +kernel
theorem dX4_remove_129 : decode cX4_remove 129 = .ok (.aload_n 0, 1) := by decide +kernel
theorem dX4_remove_130 : decode cX4_remove 130 = .ok (.getfield 41, 3) := by decide +kernel
theorem dX4_remove_133 : decode cX4_remove 133 = .ok (.bipush 10, 2) := by decide +kernel
theorem dX4_remove_135 : decode cX4_remove 135 = .ok (.aload_n 0, 1) := by decide +kernel
theorem dX4_remove_136 : decode cX4_remove 136 = .ok (.getfield 120, 3) := by decide +kernel
theorem dX4_remove_139 : decode cX4_remove 139 = .ok (.imul, 1) := by decide +kernel
theorem dX4_remove_140 : decode cX4_remove 140 = .ok (.iload 4, 2) := by decide +kernel
theorem dX4_remove_142 : decode cX4_remove 142 = .ok (.iadd, 1) := by decide +kernel
theorem dX4_remove_143 : decode cX4_remove 143 = .ok (.iconst 1, 1) := by decide +kernel
theorem dX4_remove_144 : decode cX4_remove 144 = .ok (.iadd, 1) := by decide +kernel
theorem dX4_remove_145 : decode cX4_remove 145 = .ok (.laload, 1) := by decide +kernel
theorem dX4_remove_146 : decode cX4_remove 146 = .ok (.lastore, 1) := by decide +kernel
theorem dX4_remove_147 : decode cX4_remove 147 = .ok (.iinc 4 1, 3) := by decide +kernel
theorem dX4_remove_150 : decode cX4_remove 150 = .ok (.goto (-83), 3) := by decide +kernel
theorem dX4_remove_153 : decode cX4_remove 153 = .ok (.aload_n 0, 1) := by decide +kernel
theorem dX4_remove_154 : decode cX4_remove 154 = .ok (.getfield 35, 3) := by decide +kernel
theorem dX4_remove_157 : decode cX4_remove 157 = .ok (.aload_n 0, 1) := by decide +kernel
theorem dX4_remove_158 : decode cX4_remove 158 = .ok (.getfield 120, 3) := by decide +kernel
theorem dX4_remove_161 : decode cX4_remove 161 = .ok (.dup2, 1) := by decide +kernel
theorem dX4_remove_162 : decode cX4_remove 162 = .ok (.iaload, 1) := by decide +kernel
theorem dX4_remove_163 : decode cX4_remove 163 = .ok (.iconst 1, 1) := by decide +kernel
theorem dX4_remove_164 : decode cX4_remove 164 = .ok (.isub, 1) := by decide +kernel
theorem dX4_remove_165 : decode cX4_remove 165 = .ok (.iastore, 1) := by decide +kernel
theorem dX4_remove_166 : decode cX4_remove 166 = .ok (.iconst 1, 1) := by decide +kernel
theorem dX4_remove_167 : decode cX4_remove 167 = .ok (.ireturn, 1) := by decide +kernel
theorem dX4_fold_0 : decode cX4_fold 0 = .ok (.aload_n 0, 1) := by decide +kernel
theorem dX4_fold_1 : decode cX4_fold 1 = .ok (.iload_n 1, 1) := by decide +kernel
theorem dX4_fold_2 : decode cX4_fold 2 = .ok (.iconst 3, 1) := by decide +kernel
theorem dX4_fold_3 : decode cX4_fold 3 = .ok (.iconst 3, 1) := by decide +kernel
theorem dX4_fold_4 : decode cX4_fold 4 = .ok (.lload_n 2, 1) := by decide +kernel
theorem dX4_fold_5 : decode cX4_fold 5 = .ok (.invokevirtual 123, 3) := by decide +kernel
theorem dX4_fold_8 : decode cX4_fold 8 = .ok (.ifCond .eq 5, 3) := by decide +kernel
theorem dX4_fold_11 : decode cX4_fold 11 = .ok (.iconst 0, 1) := by decide +kernel
theorem dX4_fold_12 : decode cX4_fold 12 = .ok (.ireturn, 1) := by decide +kernel
theorem dX4_fold_13 : decode cX4_fold 13 = .ok (.aload_n 0, 1) := by decide +kernel
theorem dX4_fold_14 : decode cX4_fold 14 = .ok (.getfield 120, 3) := by decide +kernel
theorem dX4_fold_17 : decode cX4_fold 17 = .ok (.ifCond .ge 18, 3) := by decide +kernel
theorem dX4_fold_20 : decode cX4_fold 20 = .ok (.aload_n 0, 1) := by decide +kernel
theorem dX4_fold_21 : decode cX4_fold 21 = .ok (.getfield 22, 3) := by decide +kernel
theorem dX4_fold_24 : decode cX4_fold 24 = .ok (.iconst 0, 1) := by decide +kernel
theorem dX4_fold_25 : decode cX4_fold 25 = .ok (.iaload, 1) := by decide +kernel
theorem dX4_fold_26 : decode cX4_fold 26 = .ok (.sipush 150, 3) := by decide +kernel
theorem dX4_fold_29 : decode cX4_fold 29 = .ok (.if_icmp .ne 6, 3) := by decide +kernel
theorem dX4_fold_32 : decode cX4_fold 32 = .ok (.bipush (-4), 2) := by decide +kernel
theorem dX4_fold_34 : decode cX4_fold 34 = .ok (.ireturn, 1) := by decide +kernel
theorem dX4_fold_35 : decode cX4_fold 35 = .ok (.aload_n 0, 1) := by decide +kernel
theorem dX4_fold_36 : decode cX4_fold 36 = .ok (.getfield 120, 3) := by decide +kernel
theorem dX4_fold_39 : decode cX4_fold 39 = .ok (.ifCond .ge 7, 3) := by decide +kernel
theorem dX4_fold_42 : decode cX4_fold 42 = .ok (.iconst 1, 1) := by decide +kernel
theorem dX4_fold_43 : decode cX4_fold 43 = .ok (.goto 4, 3) := by decide +kernel
theorem dX4_fold_46 : decode cX4_fold 46 = .ok (.iconst 0, 1) := by decide +kernel
theorem dX4_fold_47 : decode cX4_fold 47 = .ok (.istore 4, 2) := by decide +kernel
theorem dX4_fold_49 : decode cX4_fold 49 = .ok (.iload 4, 2) := by decide +kernel
theorem dX4_fold_51 : decode cX4_fold 51 = .ok (.ifCond .eq 11, 3) := by decide +kernel
theorem dX4_fold_54 : decode cX4_fold 54 = .ok (.aload_n 0, 1) := by decide +kernel
theorem dX4_fold_55 : decode cX4_fold 55 = .ok (.iload_n 1, 1) := by decide +kernel
theorem dX4_fold_56 : decode cX4_fold 56 = .ok (.invokevirtual 127, 3) := by decide +kernel
theorem dX4_fold_59 : decode cX4_fold 59 = .ok (.goto 7, 3) := by decide +kernel
theorem dX4_fold_62 : decode cX4_fold 62 = .ok (.aload_n 0, 1) := by decide +kernel
theorem dX4_fold_63 : decode cX4_fold 63 = .ok (.getfield 120, 3) := by decide +kernel
theorem dX4_fold_66 : decode cX4_fold 66 = .ok (.istore 5, 2) := by decide +kernel
theorem dX4_fold_68 : decode cX4_fold 68 = .ok (.aload_n 0, 1) := by decide +kernel
theorem dX4_fold_69 : decode cX4_fold 69 = .ok (.iload 5, 2) := by decide +kernel
theorem dX4_fold_71 : decode cX4_fold 71 = .ok (.invokevirtual 91, 3) := by decide +kernel
theorem dX4_fold_74 : decode cX4_fold 74 = .ok (.aload_n 0, 1) := by decide +kernel
theorem dX4_fold_75 : decode cX4_fold 75 = .ok (.getfield 38, 3) := by decide +kernel
theorem dX4_fold_78 : decode cX4_fold 78 = .ok (.bipush 10, 2) := by decide +kernel
theorem dX4_fold_80 : decode cX4_fold 80 = .ok (.iload 5, 2) := by decide +kernel
theorem dX4_fold_82 : decode cX4_fold 82 = .ok (.imul, 1) := by decide +kernel
theorem dX4_fold_83 : decode cX4_fold 83 = .ok (.iload 4, 2) := by decide +kernel
theorem dX4_fold_85 : decode cX4_fold 85 = .ok (.ifCond .eq 7, 3) := by decide +kernel
theorem dX4_fold_88 : decode cX4_fold 88 = .ok (.lload_n 2, 1) := by decide +kernel
theorem dX4_fold_89 : decode cX4_fold 89 = .ok (.goto 23, 3) := by decide +kernel
theorem dX4_fold_92 : decode cX4_fold 92 = .ok (.aload_n 0, 1) := by decide +kernel
theorem dX4_fold_93 : decode cX4_fold 93 = .ok (.getfield 16, 3) := by decide +kernel
theorem dX4_fold_96 : decode cX4_fold 96 = .ok (.iload_n 1, 1) := by decide +kernel
theorem dX4_fold_97 : decode cX4_fold 97 = .ok (.iaload, 1) := by decide +kernel
theorem dX4_fold_98 : decode cX4_fold 98 = .ok (.aload_n 0, 1) := by decide +kernel
theorem dX4_fold_99 : decode cX4_fold 99 = .ok (.getfield 38, 3) := by decide +kernel
theorem dX4_fold_102 : decode cX4_fold 102 = .ok (.bipush 10, 2) := by decide +kernel
theorem dX4_fold_104 : decode cX4_fold 104 = .ok (.iload 5, 2) := by decide +kernel
theorem dX4_fold_106 : decode cX4_fold 106 = .ok (.imul, 1) := by decide +kernel
theorem dX4_fold_107 : decode cX4_fold 107 = .ok (.laload, 1) := by decide +kernel
theorem dX4_fold_108 : decode cX4_fold 108 = .ok (.lload_n 2, 1) := by decide +kernel
theorem dX4_fold_109 : decode cX4_fold 109 = .ok (.invokestatic 144, 3) := by decide +kernel
theorem dX4_fold_112 : decode cX4_fold 112 = .ok (.lastore, 1) := by decide +kernel
theorem dX4_fold_113 : decode cX4_fold 113 = .ok (.aload_n 0, 1) := by decide +kernel
theorem dX4_fold_114 : decode cX4_fold 114 = .ok (.getfield 35, 3) := by decide +kernel
theorem dX4_fold_117 : decode cX4_fold 117 = .ok (.iload 5, 2) := by decide +kernel
theorem dX4_fold_119 : decode cX4_fold 119 = .ok (.dup2, 1) := by decide +kernel
theorem dX4_fold_120 : decode cX4_fold 120 = .ok (.iaload, 1) := by decide +kernel
theorem dX4_fold_121 : decode cX4_fold 121 = .ok (.iconst 1, 1) := by decide +kernel
theorem dX4_fold_122 : decode cX4_fold 122 = .ok (.iadd, 1) := by decide +kernel
theorem dX4_fold_123 : decode cX4_fold 123 = .ok (.iastore, 1) := by decide +kernel
theorem dX4_fold_124 : decode cX4_fold 124 = .ok (.aload_n 0, 1) := by decide +kernel
theorem dX4_fold_125 : decode cX4_fold 125 = .ok (.getfield 35, 3) := by decide +kernel
theorem dX4_fold_128 : decode cX4_fold 128 = .ok (.iload 5, 2) := by decide +kernel
theorem dX4_fold_130 : decode cX4_fold 130 = .ok (.iaload, 1) := by decide +kernel
theorem dX4_fold_131 : decode cX4_fold 131 = .ok (.ireturn, 1) := by decide +kernel
theorem dX4_lacks_0 : decode cX4_lacks 0 = .ok (.aload_n 0, 1) := by decide +kernel
theorem dX4_lacks_1 : decode cX4_lacks 1 = .ok (.aload_n 0, 1) := by decide +kernel
theorem dX4_lacks_2 : decode cX4_lacks 2 = .ok (.iload_n 1, 1) := by decide +kernel
theorem dX4_lacks_3 : decode cX4_lacks 3 = .ok (.invokevirtual 105, 3) := by decide +kernel
theorem dX4_lacks_6 : decode cX4_lacks 6 = .ok (.ifCond .ne 7, 3) := by decide +kernel
theorem dX4_lacks_9 : decode cX4_lacks 9 = .ok (.iconst 1, 1) := by decide +kernel
theorem dX4_lacks_10 : decode cX4_lacks 10 = .ok (.goto 15, 3) := by decide +kernel
theorem dX4_lacks_13 : decode cX4_lacks 13 = .ok (.aload_n 0, 1) := by decide +kernel
theorem dX4_lacks_14 : decode cX4_lacks 14 = .ok (.getfield 112, 3) := by decide +kernel
theorem dX4_lacks_17 : decode cX4_lacks 17 = .ok (.ifCond .ne 7, 3) := by decide +kernel
theorem dX4_lacks_20 : decode cX4_lacks 20 = .ok (.iconst 2, 1) := by decide +kernel
theorem dX4_lacks_21 : decode cX4_lacks 21 = .ok (.goto 4, 3) := by decide +kernel
theorem dX4_lacks_24 : decode cX4_lacks 24 = .ok (.iconst 0, 1) := by decide +kernel
theorem dX4_lacks_25 : decode cX4_lacks 25 = .ok (.putfield 58, 3) := by decide +kernel
theorem dX4_lacks_28 : decode cX4_lacks 28 = .ok (.aload_n 0, 1) := by decide +kernel
theorem dX4_lacks_29 : decode cX4_lacks 29 = .ok (.aload_n 0, 1) := by decide +kernel
theorem dX4_lacks_30 : decode cX4_lacks 30 = .ok (.getfield 58, 3) := by decide +kernel
theorem dX4_lacks_33 : decode cX4_lacks 33 = .ok (.ifCond .ne 11, 3) := by decide +kernel
theorem dX4_lacks_36 : decode cX4_lacks 36 = .ok (.aload_n 0, 1) := by decide +kernel
theorem dX4_lacks_37 : decode cX4_lacks 37 = .ok (.iload_n 1, 1) := by decide +kernel
theorem dX4_lacks_38 : decode cX4_lacks 38 = .ok (.invokevirtual 116, 3) := by decide +kernel
theorem dX4_lacks_41 : decode cX4_lacks 41 = .ok (.goto 4, 3) := by decide +kernel
theorem dX4_lacks_44 : decode cX4_lacks 44 = .ok (.iconst (-1), 1) := by decide +kernel
theorem dX4_lacks_45 : decode cX4_lacks 45 = .ok (.putfield 120, 3) := by decide +kernel
theorem dX4_lacks_48 : decode cX4_lacks 48 = .ok (.aload_n 0, 1) := by decide +kernel
theorem dX4_lacks_49 : decode cX4_lacks 49 = .ok (.getfield 58, 3) := by decide +kernel
theorem dX4_lacks_52 : decode cX4_lacks 52 = .ok (.ifCond .le 7, 3) := by decide +kernel
theorem dX4_lacks_55 : decode cX4_lacks 55 = .ok (.iconst 1, 1) := by decide +kernel
theorem dX4_lacks_56 : decode cX4_lacks 56 = .ok (.goto 4, 3) := by decide +kernel
theorem dX4_lacks_59 : decode cX4_lacks 59 = .ok (.iconst 0, 1) := by decide +kernel
theorem dX4_lacks_60 : decode cX4_lacks 60 = .ok (.ireturn, 1) := by decide +kernel
theorem dX4_size_0 : decode cX4_size 0 = .ok (.aload_n 0, 1) := by decide +kernel
theorem dX4_size_1 : decode cX4_size 1 = .ok (.iload_n 1, 1) := by decide +kernel
theorem dX4_size_2 : decode cX4_size 2 = .ok (.invokevirtual 148, 3) := by decide +kernel
theorem dX4_size_5 : decode cX4_size 5 = .ok (.ifCond .ne 10, 3) := by decide +kernel
theorem dX4_size_8 : decode cX4_size 8 = .ok (.aload_n 0, 1) := by decide +kernel
theorem dX4_size_9 : decode cX4_size 9 = .ok (.getfield 120, 3) := by decide +kernel
theorem dX4_size_12 : decode cX4_size 12 = .ok (.ifCond .ge 7, 3) := by decide +kernel
theorem dX4_size_15 : decode cX4_size 15 = .ok (.iconst 0, 1) := by decide +kernel
theorem dX4_size_16 : decode cX4_size 16 = .ok (.goto 12, 3) := by decide +kernel
theorem dX4_size_19 : decode cX4_size 19 = .ok (.aload_n 0, 1) := by decide +kernel
theorem dX4_size_20 : decode cX4_size 20 = .ok (.getfield 35, 3) := by decide +kernel
theorem dX4_size_23 : decode cX4_size 23 = .ok (.aload_n 0, 1) := by decide +kernel
theorem dX4_size_24 : decode cX4_size 24 = .ok (.getfield 120, 3) := by decide +kernel
theorem dX4_size_27 : decode cX4_size 27 = .ok (.iaload, 1) := by decide +kernel
theorem dX4_size_28 : decode cX4_size 28 = .ok (.ireturn, 1) := by decide +kernel
theorem dX4_clear_0 : decode cX4_clear 0 = .ok (.aload_n 0, 1) := by decide +kernel
theorem dX4_clear_1 : decode cX4_clear 1 = .ok (.iload_n 1, 1) := by decide +kernel
theorem dX4_clear_2 : decode cX4_clear 2 = .ok (.invokevirtual 148, 3) := by decide +kernel
theorem dX4_clear_5 : decode cX4_clear 5 = .ok (.ifCond .ne 10, 3) := by decide +kernel
theorem dX4_clear_8 : decode cX4_clear 8 = .ok (.aload_n 0, 1) := by decide +kernel
theorem dX4_clear_9 : decode cX4_clear 9 = .ok (.getfield 120, 3) := by decide +kernel
theorem dX4_clear_12 : decode cX4_clear 12 = .ok (.ifCond .ge 5, 3) := by decide +kernel
theorem dX4_clear_15 : decode cX4_clear 15 = .ok (.iconst 0, 1) := by decide +kernel
theorem dX4_clear_16 : decode cX4_clear 16 = .ok (.ireturn, 1) := by decide +kernel
theorem dX4_clear_17 : decode cX4_clear 17 = .ok (.aload_n 0, 1) := by decide +kernel
theorem dX4_clear_18 : decode cX4_clear 18 = .ok (.aload_n 0, 1) := by decide +kernel
theorem dX4_clear_19 : decode cX4_clear 19 = .ok (.getfield 120, 3) := by decide +kernel
theorem dX4_clear_22 : decode cX4_clear 22 = .ok (.invokevirtual 141, 3) := by decide +kernel
theorem dX4_clear_25 : decode cX4_clear 25 = .ok (.iconst 1, 1) := by decide +kernel
theorem dX4_clear_26 : decode cX4_clear 26 = .ok (.ireturn, 1) := by decide +kernel
theorem dX4_clearSpan_0 : decode cX4_clearSpan 0 = .ok (.aload_n 0, 1) := by decide +kernel
theorem dX4_clearSpan_1 : decode cX4_clearSpan 1 = .ok (.iconst 0, 1) := by decide +kernel
theorem dX4_clearSpan_2 : decode cX4_clearSpan 2 = .ok (.putfield 58, 3) := by decide +kernel
theorem dX4_clearSpan_5 : decode cX4_clearSpan 5 = .ok (.iconst 0, 1) := by decide +kernel
theorem dX4_clearSpan_6 : decode cX4_clearSpan 6 = .ok (.istore_n 1, 1) := by decide +kernel
theorem dX4_clearSpan_7 : decode cX4_clearSpan 7 = .ok (.aload_n 0, 1) := by decide +kernel
theorem dX4_clearSpan_8 : decode cX4_clearSpan 8 = .ok (.getfield 22, 3) := by decide +kernel
theorem dX4_clearSpan_11 : decode cX4_clearSpan 11 = .ok (.iconst 0, 1) := by decide +kernel
theorem dX4_clearSpan_12 : decode cX4_clearSpan 12 = .ok (.iaload, 1) := by decide +kernel
theorem dX4_clearSpan_13 : decode cX4_clearSpan 13 = .ok (.iconst 1, 1) := by decide +kernel
theorem dX4_clearSpan_14 : decode cX4_clearSpan 14 = .ok (.isub, 1) := by decide +kernel
theorem dX4_clearSpan_15 : decode cX4_clearSpan 15 = .ok (.istore_n 2, 1) := by decide +kernel
theorem dX4_clearSpan_16 : decode cX4_clearSpan 16 = .ok (.iload_n 2, 1) := by decide +kernel
theorem dX4_clearSpan_17 : decode cX4_clearSpan 17 = .ok (.ifCond .lt 30, 3) := by decide +kernel
theorem dX4_clearSpan_20 : decode cX4_clearSpan 20 = .ok (.aload_n 0, 1) := by decide +kernel
theorem dX4_clearSpan_21 : decode cX4_clearSpan 21 = .ok (.getfield 32, 3) := by decide +kernel
theorem dX4_clearSpan_24 : decode cX4_clearSpan 24 = .ok (.iload_n 2, 1) := by decide +kernel
theorem dX4_clearSpan_25 : decode cX4_clearSpan 25 = .ok (.iaload, 1) := by decide +kernel
theorem dX4_clearSpan_26 : decode cX4_clearSpan 26 = .ok (.aload_n 0, 1) := by decide +kernel
theorem dX4_clearSpan_27 : decode cX4_clearSpan 27 = .ok (.getfield 84, 3) := by decide +kernel
theorem dX4_clearSpan_30 : decode cX4_clearSpan 30 = .ok (.if_icmp .ne 11, 3) := by decide +kernel
theorem dX4_clearSpan_33 : decode cX4_clearSpan 33 = .ok (.aload_n 0, 1) := by decide +kernel
theorem dX4_clearSpan_34 : decode cX4_clearSpan 34 = .ok (.iload_n 2, 1) := by decide +kernel
theorem dX4_clearSpan_35 : decode cX4_clearSpan 35 = .ok (.invokevirtual 141, 3) := by decide +kernel
theorem dX4_clearSpan_38 : decode cX4_clearSpan 38 = .ok (.iinc 1 1, 3) := by decide +kernel
theorem dX4_clearSpan_41 : decode cX4_clearSpan 41 = .ok (.iinc 2 (-1), 3) := by decide +kernel
theorem dX4_clearSpan_44 : decode cX4_clearSpan 44 = .ok (.goto (-28), 3) := by decide +kernel
theorem dX4_clearSpan_47 : decode cX4_clearSpan 47 = .ok (.iload_n 1, 1) := by decide +kernel
theorem dX4_clearSpan_48 : decode cX4_clearSpan 48 = .ok (.ireturn, 1) := by decide +kernel
theorem dX4_keys_0 : decode cX4_keys 0 = .ok (.aload_n 0, 1) := by decide +kernel
theorem dX4_keys_1 : decode cX4_keys 1 = .ok (.iconst 0, 1) := by decide +kernel
theorem dX4_keys_2 : decode cX4_keys 2 = .ok (.putfield 58, 3) := by decide +kernel
theorem dX4_keys_5 : decode cX4_keys 5 = .ok (.aload_n 0, 1) := by decide +kernel
theorem dX4_keys_6 : decode cX4_keys 6 = .ok (.iload_n 1, 1) := by decide +kernel
theorem dX4_keys_7 : decode cX4_keys 7 = .ok (.invokevirtual 105, 3) := by decide +kernel
theorem dX4_keys_10 : decode cX4_keys 10 = .ok (.ifCond .ne 9, 3) := by decide +kernel
theorem dX4_keys_13 : decode cX4_keys 13 = .ok (.aload_n 0, 1) := by decide +kernel
theorem dX4_keys_14 : decode cX4_keys 14 = .ok (.iconst 1, 1) := by decide +kernel
theorem dX4_keys_15 : decode cX4_keys 15 = .ok (.invokevirtual 130, 3) := by decide +kernel
theorem dX4_keys_18 : decode cX4_keys 18 = .ok (.ireturn, 1) := by decide +kernel
theorem dX4_keys_19 : decode cX4_keys 19 = .ok (.iconst 0, 1) := by decide +kernel
theorem dX4_keys_20 : decode cX4_keys 20 = .ok (.istore_n 2, 1) := by decide +kernel
theorem dX4_keys_21 : decode cX4_keys 21 = .ok (.iconst 0, 1) := by decide +kernel
theorem dX4_keys_22 : decode cX4_keys 22 = .ok (.istore_n 3, 1) := by decide +kernel
theorem dX4_keys_23 : decode cX4_keys 23 = .ok (.iload_n 3, 1) := by decide +kernel
theorem dX4_keys_24 : decode cX4_keys 24 = .ok (.aload_n 0, 1) := by decide +kernel
theorem dX4_keys_25 : decode cX4_keys 25 = .ok (.getfield 22, 3) := by decide +kernel
theorem dX4_keys_28 : decode cX4_keys 28 = .ok (.iconst 0, 1) := by decide +kernel
theorem dX4_keys_29 : decode cX4_keys 29 = .ok (.iaload, 1) := by decide +kernel
theorem dX4_keys_30 : decode cX4_keys 30 = .ok (.if_icmp .ge 40, 3) := by decide +kernel
theorem dX4_keys_33 : decode cX4_keys 33 = .ok (.iload_n 2, 1) := by decide +kernel
theorem dX4_keys_34 : decode cX4_keys 34 = .ok (.aload_n 0, 1) := by decide +kernel
theorem dX4_keys_35 : decode cX4_keys 35 = .ok (.getfield 25, 3) := by decide +kernel
theorem dX4_keys_38 : decode cX4_keys 38 = .ok (.iload_n 3, 1) := by decide +kernel
theorem dX4_keys_39 : decode cX4_keys 39 = .ok (.iaload, 1) := by decide +kernel
theorem dX4_keys_40 : decode cX4_keys 40 = .ok (.iload_n 1, 1) := by decide +kernel
theorem dX4_keys_41 : decode cX4_keys 41 = .ok (.if_icmp .ne 20, 3) := by decide +kernel
theorem dX4_keys_44 : decode cX4_keys 44 = .ok (.aload_n 0, 1) := by decide +kernel
theorem dX4_keys_45 : decode cX4_keys 45 = .ok (.getfield 32, 3) := by decide +kernel
theorem dX4_keys_48 : decode cX4_keys 48 = .ok (.iload_n 3, 1) := by decide +kernel
theorem dX4_keys_49 : decode cX4_keys 49 = .ok (.iaload, 1) := by decide +kernel
theorem dX4_keys_50 : decode cX4_keys 50 = .ok (.aload_n 0, 1) := by decide +kernel
theorem dX4_keys_51 : decode cX4_keys 51 = .ok (.getfield 84, 3) := by decide +kernel
theorem dX4_keys_54 : decode cX4_keys 54 = .ok (.if_icmp .ne 7, 3) := by decide +kernel
theorem dX4_keys_57 : decode cX4_keys 57 = .ok (.iconst 1, 1) := by decide +kernel
theorem dX4_keys_58 : decode cX4_keys 58 = .ok (.goto 4, 3) := by decide +kernel
theorem dX4_keys_61 : decode cX4_keys 61 = .ok (.iconst 0, 1) := by decide +kernel
theorem dX4_keys_62 : decode cX4_keys 62 = .ok (.iadd, 1) := by decide +kernel
theorem dX4_keys_63 : decode cX4_keys 63 = .ok (.istore_n 2, 1) := by decide +kernel
theorem dX4_keys_64 : decode cX4_keys 64 = .ok (.iinc 3 1, 3) := by decide +kernel
theorem dX4_keys_67 : decode cX4_keys 67 = .ok (.goto (-44), 3) := by decide +kernel
theorem dX4_keys_70 : decode cX4_keys 70 = .ok (.iload_n 2, 1) := by decide +kernel
theorem dX4_keys_71 : decode cX4_keys 71 = .ok (.ireturn, 1) := by decide +kernel
theorem dX4_keyAt_0 : decode cX4_keyAt 0 = .ok (.aload_n 0, 1) := by decide +kernel
theorem dX4_keyAt_1 : decode cX4_keyAt 1 = .ok (.iconst 0, 1) := by decide +kernel
theorem dX4_keyAt_2 : decode cX4_keyAt 2 = .ok (.putfield 58, 3) := by decide +kernel
theorem dX4_keyAt_5 : decode cX4_keyAt 5 = .ok (.iconst 0, 1) := by decide +kernel
theorem dX4_keyAt_6 : decode cX4_keyAt 6 = .ok (.istore_n 3, 1) := by decide +kernel
theorem dX4_keyAt_7 : decode cX4_keyAt 7 = .ok (.iload_n 3, 1) := by decide +kernel
theorem dX4_keyAt_8 : decode cX4_keyAt 8 = .ok (.aload_n 0, 1) := by decide +kernel
theorem dX4_keyAt_9 : decode cX4_keyAt 9 = .ok (.getfield 22, 3) := by decide +kernel
theorem dX4_keyAt_12 : decode cX4_keyAt 12 = .ok (.iconst 0, 1) := by decide +kernel
theorem dX4_keyAt_13 : decode cX4_keyAt 13 = .ok (.iaload, 1) := by decide +kernel
theorem dX4_keyAt_14 : decode cX4_keyAt 14 = .ok (.if_icmp .ge 128, 3) := by decide +kernel
theorem dX4_keyAt_17 : decode cX4_keyAt 17 = .ok (.aload_n 0, 1) := by decide +kernel
theorem dX4_keyAt_18 : decode cX4_keyAt 18 = .ok (.iload_n 1, 1) := by decide +kernel
theorem dX4_keyAt_19 : decode cX4_keyAt 19 = .ok (.invokevirtual 105, 3) := by decide +kernel
theorem dX4_keyAt_22 : decode cX4_keyAt 22 = .ok (.ifCond .eq 120, 3) := by decide +kernel
theorem dX4_keyAt_25 : decode cX4_keyAt 25 = .ok (.aload_n 0, 1) := by decide +kernel
theorem dX4_keyAt_26 : decode cX4_keyAt 26 = .ok (.getfield 25, 3) := by decide +kernel
theorem dX4_keyAt_29 : decode cX4_keyAt 29 = .ok (.iload_n 3, 1) := by decide +kernel
theorem dX4_keyAt_30 : decode cX4_keyAt 30 = .ok (.iaload, 1) := by decide +kernel
theorem dX4_keyAt_31 : decode cX4_keyAt 31 = .ok (.iload_n 1, 1) := by decide +kernel
theorem dX4_keyAt_32 : decode cX4_keyAt 32 = .ok (.if_icmp .ne 104, 3) := by decide +kernel
theorem dX4_keyAt_35 : decode cX4_keyAt 35 = .ok (.aload_n 0, 1) := by decide +kernel
theorem dX4_keyAt_36 : decode cX4_keyAt 36 = .ok (.getfield 32, 3) := by decide +kernel
theorem dX4_keyAt_39 : decode cX4_keyAt 39 = .ok (.iload_n 3, 1) := by decide +kernel
theorem dX4_keyAt_40 : decode cX4_keyAt 40 = .ok (.iaload, 1) := by decide +kernel
theorem dX4_keyAt_41 : decode cX4_keyAt 41 = .ok (.aload_n 0, 1) := by decide +kernel
theorem dX4_keyAt_42 : decode cX4_keyAt 42 = .ok (.getfield 84, 3) := by decide +kernel
theorem dX4_keyAt_45 : decode cX4_keyAt 45 = .ok (.if_icmp .ne 91, 3) := by decide +kernel
theorem dX4_keyAt_48 : decode cX4_keyAt 48 = .ok (.iconst 0, 1) := by decide +kernel
theorem dX4_keyAt_49 : decode cX4_keyAt 49 = .ok (.istore 4, 2) := by decide +kernel
theorem dX4_keyAt_51 : decode cX4_keyAt 51 = .ok (.iconst 0, 1) := by decide +kernel
theorem dX4_keyAt_52 : decode cX4_keyAt 52 = .ok (.istore 5, 2) := by decide +kernel
theorem dX4_keyAt_54 : decode cX4_keyAt 54 = .ok (.iload 5, 2) := by decide +kernel
theorem dX4_keyAt_56 : decode cX4_keyAt 56 = .ok (.aload_n 0, 1) := by decide +kernel
theorem dX4_keyAt_57 : decode cX4_keyAt 57 = .ok (.getfield 22, 3) := by decide +kernel
theorem dX4_keyAt_60 : decode cX4_keyAt 60 = .ok (.iconst 0, 1) := by decide +kernel
theorem dX4_keyAt_61 : decode cX4_keyAt 61 = .ok (.iaload, 1) := by decide +kernel
theorem dX4_keyAt_62 : decode cX4_keyAt 62 = .ok (.if_icmp .ge 61, 3) := by decide +kernel
theorem dX4_keyAt_65 : decode cX4_keyAt 65 = .ok (.iload 4, 2) := by decide +kernel
theorem dX4_keyAt_67 : decode cX4_keyAt 67 = .ok (.aload_n 0, 1) := by decide +kernel
theorem dX4_keyAt_68 : decode cX4_keyAt 68 = .ok (.getfield 25, 3) := by decide +kernel
theorem dX4_keyAt_71 : decode cX4_keyAt 71 = .ok (.iload 5, 2) := by decide +kernel
theorem dX4_keyAt_73 : decode cX4_keyAt 73 = .ok (.iaload, 1) := by decide +kernel
theorem dX4_keyAt_74 : decode cX4_keyAt 74 = .ok (.iload_n 1, 1) := by decide +kernel
theorem dX4_keyAt_75 : decode cX4_keyAt 75 = .ok (.if_icmp .ne 38, 3) := by decide +kernel
theorem dX4_keyAt_78 : decode cX4_keyAt 78 = .ok (.aload_n 0, 1) := by decide +kernel
theorem dX4_keyAt_79 : decode cX4_keyAt 79 = .ok (.getfield 32, 3) := by decide +kernel
theorem dX4_keyAt_82 : decode cX4_keyAt 82 = .ok (.iload 5, 2) := by decide +kernel
theorem dX4_keyAt_84 : decode cX4_keyAt 84 = .ok (.iaload, 1) := by decide +kernel
theorem dX4_keyAt_85 : decode cX4_keyAt 85 = .ok (.aload_n 0, 1) := by decide +kernel
theorem dX4_keyAt_86 : decode cX4_keyAt 86 = .ok (.getfield 84, 3) := by decide +kernel
theorem dX4_keyAt_89 : decode cX4_keyAt 89 = .ok (.if_icmp .ne 24, 3) := by decide +kernel
theorem dX4_keyAt_92 : decode cX4_keyAt 92 = .ok (.aload_n 0, 1) := by decide +kernel
theorem dX4_keyAt_93 : decode cX4_keyAt 93 = .ok (.getfield 28, 3) := by decide +kernel
theorem dX4_keyAt_96 : decode cX4_keyAt 96 = .ok (.iload 5, 2) := by decide +kernel
theorem dX4_keyAt_98 : decode cX4_keyAt 98 = .ok (.laload, 1) := by decide +kernel
theorem dX4_keyAt_99 : decode cX4_keyAt 99 = .ok (.aload_n 0, 1) := by decide +kernel
theorem dX4_keyAt_100 : decode cX4_keyAt 100 = .ok (.getfield 28, 3) := by decide +kernel
theorem dX4_keyAt_103 : decode cX4_keyAt 103 = .ok (.iload_n 3, 1) := by decide +kernel
theorem dX4_keyAt_104 : decode cX4_keyAt 104 = .ok (.laload, 1) := by decide +kernel
theorem dX4_keyAt_105 : decode cX4_keyAt 105 = .ok (.lcmp, 1) := by decide +kernel
theorem dX4_keyAt_106 : decode cX4_keyAt 106 = .ok (.ifCond .ge 7, 3) := by decide +kernel
theorem dX4_keyAt_109 : decode cX4_keyAt 109 = .ok (.iconst 1, 1) := by decide +kernel
theorem dX4_keyAt_110 : decode cX4_keyAt 110 = .ok (.goto 4, 3) := by decide +kernel
theorem dX4_keyAt_113 : decode cX4_keyAt 113 = .ok (.iconst 0, 1) := by decide +kernel
theorem dX4_keyAt_114 : decode cX4_keyAt 114 = .ok (.iadd, 1) := by decide +kernel
theorem dX4_keyAt_115 : decode cX4_keyAt 115 = .ok (.istore 4, 2) := by decide +kernel
theorem dX4_keyAt_117 : decode cX4_keyAt 117 = .ok (.iinc 5 1, 3) := by decide +kernel
theorem dX4_keyAt_120 : decode cX4_keyAt 120 = .ok (.goto (-66), 3) := by decide +kernel
theorem dX4_keyAt_123 : decode cX4_keyAt 123 = .ok (.iload 4, 2) := by decide +kernel
theorem dX4_keyAt_125 : decode cX4_keyAt 125 = .ok (.iload_n 2, 1) := by decide +kernel
theorem dX4_keyAt_126 : decode cX4_keyAt 126 = .ok (.if_icmp .ne 10, 3) := by decide +kernel
theorem dX4_keyAt_129 : decode cX4_keyAt 129 = .ok (.aload_n 0, 1) := by decide +kernel
theorem dX4_keyAt_130 : decode cX4_keyAt 130 = .ok (.getfield 28, 3) := by decide +kernel
theorem dX4_keyAt_133 : decode cX4_keyAt 133 = .ok (.iload_n 3, 1) := by decide +kernel
theorem dX4_keyAt_134 : decode cX4_keyAt 134 = .ok (.laload, 1) := by decide +kernel
theorem dX4_keyAt_135 : decode cX4_keyAt 135 = .ok (.lreturn, 1) := by decide +kernel
theorem dX4_keyAt_136 : decode cX4_keyAt 136 = .ok (.iinc 3 1, 3) := by decide +kernel
theorem dX4_keyAt_139 : decode cX4_keyAt 139 = .ok (.goto (-132), 3) := by decide +kernel
theorem dX4_keyAt_142 : decode cX4_keyAt 142 = .ok (.aload_n 0, 1) := by decide +kernel
theorem dX4_keyAt_143 : decode cX4_keyAt 143 = .ok (.iconst 1, 1) := by decide +kernel
theorem dX4_keyAt_144 : decode cX4_keyAt 144 = .ok (.invokevirtual 130, 3) := by decide +kernel
theorem dX4_keyAt_147 : decode cX4_keyAt 147 = .ok (.i2l, 1) := by decide +kernel
theorem dX4_keyAt_148 : decode cX4_keyAt 148 = .ok (.lreturn, 1) := by decide +kernel
theorem dX4_copyOf_0 : decode cX4_copyOf 0 = .ok (.bipush 6, 2) := by decide +kernel
theorem dX4_copyOf_2 : decode cX4_copyOf 2 = .ok (.istore_n 2, 1) := by decide +kernel
theorem dX4_copyOf_3 : decode cX4_copyOf 3 = .ok (.iload_n 2, 1) := by decide +kernel
theorem dX4_copyOf_4 : decode cX4_copyOf 4 = .ok (.ifCond .le 28, 3) := by decide +kernel
theorem dX4_copyOf_7 : decode cX4_copyOf 7 = .ok (.aload_n 0, 1) := by decide +kernel
theorem dX4_copyOf_8 : decode cX4_copyOf 8 = .ok (.getfield 47, 3) := by decide +kernel
theorem dX4_copyOf_11 : decode cX4_copyOf 11 = .ok (.iload_n 2, 1) := by decide +kernel
theorem dX4_copyOf_12 : decode cX4_copyOf 12 = .ok (.baload, 1) := by decide +kernel
theorem dX4_copyOf_13 : decode cX4_copyOf 13 = .ok (.ifCond .eq 13, 3) := by decide +kernel
theorem dX4_copyOf_16 : decode cX4_copyOf 16 = .ok (.aload_n 0, 1) := by decide +kernel
theorem dX4_copyOf_17 : decode cX4_copyOf 17 = .ok (.getfield 51, 3) := by decide +kernel
theorem dX4_copyOf_20 : decode cX4_copyOf 20 = .ok (.iload_n 2, 1) := by decide +kernel
theorem dX4_copyOf_21 : decode cX4_copyOf 21 = .ok (.iaload, 1) := by decide +kernel
theorem dX4_copyOf_22 : decode cX4_copyOf 22 = .ok (.iload_n 1, 1) := by decide +kernel
theorem dX4_copyOf_23 : decode cX4_copyOf 23 = .ok (.if_icmp .eq 9, 3) := by decide +kernel
theorem dX4_copyOf_26 : decode cX4_copyOf 26 = .ok (.iinc 2 (-1), 3) := by decide +kernel
theorem dX4_copyOf_29 : decode cX4_copyOf 29 = .ok (.goto (-26), 3) := by decide +kernel
theorem dX4_copyOf_32 : decode cX4_copyOf 32 = .ok (.iload_n 2, 1) := by decide +kernel
theorem dX4_copyOf_33 : decode cX4_copyOf 33 = .ok (.ireturn, 1) := by decide +kernel
theorem dX4_copyAll_0 : decode cX4_copyAll 0 = .ok (.aload_n 0, 1) := by decide +kernel
theorem dX4_copyAll_1 : decode cX4_copyAll 1 = .ok (.getfield 22, 3) := by decide +kernel
theorem dX4_copyAll_4 : decode cX4_copyAll 4 = .ok (.iload_n 2, 1) := by decide +kernel
theorem dX4_copyAll_5 : decode cX4_copyAll 5 = .ok (.aload_n 0, 1) := by decide +kernel
theorem dX4_copyAll_6 : decode cX4_copyAll 6 = .ok (.getfield 22, 3) := by decide +kernel
theorem dX4_copyAll_9 : decode cX4_copyAll 9 = .ok (.iload_n 1, 1) := by decide +kernel
theorem dX4_copyAll_10 : decode cX4_copyAll 10 = .ok (.iaload, 1) := by decide +kernel
theorem dX4_copyAll_11 : decode cX4_copyAll 11 = .ok (.iastore, 1) := by decide +kernel
theorem dX4_copyAll_12 : decode cX4_copyAll 12 = .ok (.iconst 0, 1) := by decide +kernel
theorem dX4_copyAll_13 : decode cX4_copyAll 13 = .ok (.istore_n 3, 1) := by decide +kernel
theorem dX4_copyAll_14 : decode cX4_copyAll 14 = .ok (.iload_n 3, 1) := by decide +kernel
theorem dX4_copyAll_15 : decode cX4_copyAll 15 = .ok (.aload_n 0, 1) := by decide +kernel
theorem dX4_copyAll_16 : decode cX4_copyAll 16 = .ok (.getfield 22, 3) := by decide +kernel
theorem dX4_copyAll_19 : decode cX4_copyAll 19 = .ok (.iload_n 1, 1) := by decide +kernel
theorem dX4_copyAll_20 : decode cX4_copyAll 20 = .ok (.iaload, 1) := by decide +kernel
theorem dX4_copyAll_21 : decode cX4_copyAll 21 = .ok (.if_icmp .ge 27, 3) := by decide +kernel
theorem dX4_copyAll_24 : decode cX4_copyAll 24 = .ok (.aload_n 0, 1) := by decide +kernel
theorem dX4_copyAll_25 : decode cX4_copyAll 25 = .ok (.sipush 150, 3) := by decide +kernel
theorem dX4_copyAll_28 : decode cX4_copyAll 28 = .ok (.iload_n 1, 1) := by decide +kernel
theorem dX4_copyAll_29 : decode cX4_copyAll 29 = .ok (.imul, 1) := by decide +kernel
theorem dX4_copyAll_30 : decode cX4_copyAll 30 = .ok (.iload_n 3, 1) := by decide +kernel
theorem dX4_copyAll_31 : decode cX4_copyAll 31 = .ok (.iadd, 1) := by decide +kernel
theorem dX4_copyAll_32 : decode cX4_copyAll 32 = .ok (.sipush 150, 3) := by decide +kernel
theorem dX4_copyAll_35 : decode cX4_copyAll 35 = .ok (.iload_n 2, 1) := by decide +kernel
theorem dX4_copyAll_36 : decode cX4_copyAll 36 = .ok (.imul, 1) := by decide +kernel
theorem dX4_copyAll_37 : decode cX4_copyAll 37 = .ok (.iload_n 3, 1) := by decide +kernel
theorem dX4_copyAll_38 : decode cX4_copyAll 38 = .ok (.iadd, 1) := by decide +kernel
theorem dX4_copyAll_39 : decode cX4_copyAll 39 = .ok (.invokevirtual 94, 3) := by decide +kernel
theorem dX4_copyAll_42 : decode cX4_copyAll 42 = .ok (.iinc 3 1, 3) := by decide +kernel
theorem dX4_copyAll_45 : decode cX4_copyAll 45 = .ok (.goto (-31), 3) := by decide +kernel
theorem dX4_copyAll_48 : decode cX4_copyAll 48 = .ok (.iconst 0, 1) := by decide +kernel
theorem dX4_copyAll_49 : decode cX4_copyAll 49 = .ok (.istore_n 3, 1) := by decide +kernel
theorem dX4_copyAll_50 : decode cX4_copyAll 50 = .ok (.iload_n 3, 1) := by decide +kernel
theorem dX4_copyAll_51 : decode cX4_copyAll 51 = .ok (.bipush 16, 2) := by decide +kernel
theorem dX4_copyAll_53 : decode cX4_copyAll 53 = .ok (.if_icmp .ge 31, 3) := by decide +kernel
theorem dX4_copyAll_56 : decode cX4_copyAll 56 = .ok (.aload_n 0, 1) := by decide +kernel
theorem dX4_copyAll_57 : decode cX4_copyAll 57 = .ok (.getfield 44, 3) := by decide +kernel
theorem dX4_copyAll_60 : decode cX4_copyAll 60 = .ok (.bipush 16, 2) := by decide +kernel
theorem dX4_copyAll_62 : decode cX4_copyAll 62 = .ok (.iload_n 2, 1) := by decide +kernel
theorem dX4_copyAll_63 : decode cX4_copyAll 63 = .ok (.imul, 1) := by decide +kernel
theorem dX4_copyAll_64 : decode cX4_copyAll 64 = .ok (.iload_n 3, 1) := by decide +kernel
theorem dX4_copyAll_65 : decode cX4_copyAll 65 = .ok (.iadd, 1) := by decide +kernel
theorem dX4_copyAll_66 : decode cX4_copyAll 66 = .ok (.aload_n 0, 1) := by decide +kernel
theorem dX4_copyAll_67 : decode cX4_copyAll 67 = .ok (.getfield 44, 3) := by decide +kernel
theorem dX4_copyAll_70 : decode cX4_copyAll 70 = .ok (.bipush 16, 2) := by decide +kernel
theorem dX4_copyAll_72 : decode cX4_copyAll 72 = .ok (.iload_n 1, 1) := by decide +kernel
theorem dX4_copyAll_73 : decode cX4_copyAll 73 = .ok (.imul, 1) := by decide +kernel
theorem dX4_copyAll_74 : decode cX4_copyAll 74 = .ok (.iload_n 3, 1) := by decide +kernel
theorem dX4_copyAll_75 : decode cX4_copyAll 75 = .ok (.iadd, 1) := by decide +kernel
theorem dX4_copyAll_76 : decode cX4_copyAll 76 = .ok (.iaload, 1) := by decide +kernel
theorem dX4_copyAll_77 : decode cX4_copyAll 77 = .ok (.iastore, 1) := by decide +kernel
theorem dX4_copyAll_78 : decode cX4_copyAll 78 = .ok (.iinc 3 1, 3) := by decide +kernel
theorem dX4_copyAll_81 : decode cX4_copyAll 81 = .ok (.goto (-31), 3) := by decide +kernel
theorem dX4_copyAll_84 : decode cX4_copyAll 84 = .ok (.return_, 1) := by decide +kernel
theorem dX4_snapshot_0 : decode cX4_snapshot 0 = .ok (.aload_n 0, 1) := by decide +kernel
theorem dX4_snapshot_1 : decode cX4_snapshot 1 = .ok (.iconst 0, 1) := by decide +kernel
theorem dX4_snapshot_2 : decode cX4_snapshot 2 = .ok (.putfield 58, 3) := by decide +kernel
theorem dX4_snapshot_5 : decode cX4_snapshot 5 = .ok (.iconst 1, 1) := by decide +kernel
theorem dX4_snapshot_6 : decode cX4_snapshot 6 = .ok (.istore_n 1, 1) := by decide +kernel
theorem dX4_snapshot_7 : decode cX4_snapshot 7 = .ok (.iload_n 1, 1) := by decide +kernel
theorem dX4_snapshot_8 : decode cX4_snapshot 8 = .ok (.bipush 7, 2) := by decide +kernel
theorem dX4_snapshot_10 : decode cX4_snapshot 10 = .ok (.if_icmp .ge 18, 3) := by decide +kernel
theorem dX4_snapshot_13 : decode cX4_snapshot 13 = .ok (.aload_n 0, 1) := by decide +kernel
theorem dX4_snapshot_14 : decode cX4_snapshot 14 = .ok (.getfield 47, 3) := by decide +kernel
theorem dX4_snapshot_17 : decode cX4_snapshot 17 = .ok (.iload_n 1, 1) := by decide +kernel
theorem dX4_snapshot_18 : decode cX4_snapshot 18 = .ok (.baload, 1) := by decide +kernel
theorem dX4_snapshot_19 : decode cX4_snapshot 19 = .ok (.ifCond .eq 9, 3) := by decide +kernel
theorem dX4_snapshot_22 : decode cX4_snapshot 22 = .ok (.iinc 1 1, 3) := by decide +kernel
theorem dX4_snapshot_25 : decode cX4_snapshot 25 = .ok (.goto (-18), 3) := by decide +kernel
theorem dX4_snapshot_28 : decode cX4_snapshot 28 = .ok (.iload_n 1, 1) := by decide +kernel
theorem dX4_snapshot_29 : decode cX4_snapshot 29 = .ok (.bipush 7, 2) := by decide +kernel
theorem dX4_snapshot_31 : decode cX4_snapshot 31 = .ok (.if_icmp .ne 6, 3) := by decide +kernel
theorem dX4_snapshot_34 : decode cX4_snapshot 34 = .ok (.bipush (-4), 2) := by decide +kernel
theorem dX4_snapshot_36 : decode cX4_snapshot 36 = .ok (.ireturn, 1) := by decide +kernel
theorem dX4_snapshot_37 : decode cX4_snapshot 37 = .ok (.aload_n 0, 1) := by decide +kernel
theorem dX4_snapshot_38 : decode cX4_snapshot 38 = .ok (.iconst 0, 1) := by decide +kernel
theorem dX4_snapshot_39 : decode cX4_snapshot 39 = .ok (.iload_n 1, 1) := by decide +kernel
theorem dX4_snapshot_40 : decode cX4_snapshot 40 = .ok (.invokevirtual 151, 3) := by decide +kernel
theorem dX4_snapshot_43 : decode cX4_snapshot 43 = .ok (.iconst 0, 1) := by decide +kernel
theorem dX4_snapshot_44 : decode cX4_snapshot 44 = .ok (.istore_n 2, 1) := by decide +kernel
theorem dX4_snapshot_45 : decode cX4_snapshot 45 = .ok (.iload_n 2, 1) := by decide +kernel
theorem dX4_snapshot_46 : decode cX4_snapshot 46 = .ok (.aload_n 0, 1) := by decide +kernel
theorem dX4_snapshot_47 : decode cX4_snapshot 47 = .ok (.getfield 102, 3) := by decide +kernel
theorem dX4_snapshot_50 : decode cX4_snapshot 50 = .ok (.if_icmp .ge 43, 3) := by decide +kernel
theorem dX4_snapshot_53 : decode cX4_snapshot 53 = .ok (.aload_n 0, 1) := by decide +kernel
theorem dX4_snapshot_54 : decode cX4_snapshot 54 = .ok (.getfield 13, 3) := by decide +kernel
theorem dX4_snapshot_57 : decode cX4_snapshot 57 = .ok (.bipush 8, 2) := by decide +kernel
theorem dX4_snapshot_59 : decode cX4_snapshot 59 = .ok (.iload_n 1, 1) := by decide +kernel
theorem dX4_snapshot_60 : decode cX4_snapshot 60 = .ok (.imul, 1) := by decide +kernel
theorem dX4_snapshot_61 : decode cX4_snapshot 61 = .ok (.iload_n 2, 1) := by decide +kernel
theorem dX4_snapshot_62 : decode cX4_snapshot 62 = .ok (.iadd, 1) := by decide +kernel
theorem dX4_snapshot_63 : decode cX4_snapshot 63 = .ok (.aload_n 0, 1) := by decide +kernel
theorem dX4_snapshot_64 : decode cX4_snapshot 64 = .ok (.getfield 13, 3) := by decide +kernel
theorem dX4_snapshot_67 : decode cX4_snapshot 67 = .ok (.iload_n 2, 1) := by decide +kernel
theorem dX4_snapshot_68 : decode cX4_snapshot 68 = .ok (.iaload, 1) := by decide +kernel
theorem dX4_snapshot_69 : decode cX4_snapshot 69 = .ok (.iastore, 1) := by decide +kernel
theorem dX4_snapshot_70 : decode cX4_snapshot 70 = .ok (.aload_n 0, 1) := by decide +kernel
theorem dX4_snapshot_71 : decode cX4_snapshot 71 = .ok (.getfield 16, 3) := by decide +kernel
theorem dX4_snapshot_74 : decode cX4_snapshot 74 = .ok (.bipush 8, 2) := by decide +kernel
theorem dX4_snapshot_76 : decode cX4_snapshot 76 = .ok (.iload_n 1, 1) := by decide +kernel
theorem dX4_snapshot_77 : decode cX4_snapshot 77 = .ok (.imul, 1) := by decide +kernel
theorem dX4_snapshot_78 : decode cX4_snapshot 78 = .ok (.iload_n 2, 1) := by decide +kernel
theorem dX4_snapshot_79 : decode cX4_snapshot 79 = .ok (.iadd, 1) := by decide +kernel
theorem dX4_snapshot_80 : decode cX4_snapshot 80 = .ok (.aload_n 0, 1) := by decide +kernel
theorem dX4_snapshot_81 : decode cX4_snapshot 81 = .ok (.getfield 16, 3) := by decide +kernel
theorem dX4_snapshot_84 : decode cX4_snapshot 84 = .ok (.iload_n 2, 1) := by decide +kernel
theorem dX4_snapshot_85 : decode cX4_snapshot 85 = .ok (.iaload, 1) := by decide +kernel
theorem dX4_snapshot_86 : decode cX4_snapshot 86 = .ok (.iastore, 1) := by decide +kernel
theorem dX4_snapshot_87 : decode cX4_snapshot 87 = .ok (.iinc 2 1, 3) := by decide +kernel
theorem dX4_snapshot_90 : decode cX4_snapshot 90 = .ok (.goto (-45), 3) := by decide +kernel
theorem dX4_snapshot_93 : decode cX4_snapshot 93 = .ok (.aload_n 0, 1) := by decide +kernel
theorem dX4_snapshot_94 : decode cX4_snapshot 94 = .ok (.getfield 19, 3) := by decide +kernel
theorem dX4_snapshot_97 : decode cX4_snapshot 97 = .ok (.iload_n 1, 1) := by decide +kernel
theorem dX4_snapshot_98 : decode cX4_snapshot 98 = .ok (.aload_n 0, 1) := by decide +kernel
theorem dX4_snapshot_99 : decode cX4_snapshot 99 = .ok (.getfield 102, 3) := by decide +kernel
theorem dX4_snapshot_102 : decode cX4_snapshot 102 = .ok (.iastore, 1) := by decide +kernel
theorem dX4_snapshot_103 : decode cX4_snapshot 103 = .ok (.aload_n 0, 1) := by decide +kernel
theorem dX4_snapshot_104 : decode cX4_snapshot 104 = .ok (.getfield 47, 3) := by decide +kernel
theorem dX4_snapshot_107 : decode cX4_snapshot 107 = .ok (.iload_n 1, 1) := by decide +kernel
theorem dX4_snapshot_108 : decode cX4_snapshot 108 = .ok (.iconst 1, 1) := by decide +kernel
theorem dX4_snapshot_109 : decode cX4_snapshot 109 = .ok (.bastore, 1) := by decide +kernel
theorem dX4_snapshot_110 : decode cX4_snapshot 110 = .ok (.aload_n 0, 1) := by decide +kernel
theorem dX4_snapshot_111 : decode cX4_snapshot 111 = .ok (.getfield 51, 3) := by decide +kernel
theorem dX4_snapshot_114 : decode cX4_snapshot 114 = .ok (.iload_n 1, 1) := by decide +kernel
theorem dX4_snapshot_115 : decode cX4_snapshot 115 = .ok (.aload_n 0, 1) := by decide +kernel
theorem dX4_snapshot_116 : decode cX4_snapshot 116 = .ok (.getfield 154, 3) := by decide +kernel
theorem dX4_snapshot_119 : decode cX4_snapshot 119 = .ok (.iastore, 1) := by decide +kernel
theorem dX4_snapshot_120 : decode cX4_snapshot 120 = .ok (.aload_n 0, 1) := by decide +kernel
theorem dX4_snapshot_121 : decode cX4_snapshot 121 = .ok (.dup, 1) := by decide +kernel
theorem dX4_snapshot_122 : decode cX4_snapshot 122 = .ok (.getfield 154, 3) := by decide +kernel
theorem dX4_snapshot_125 : decode cX4_snapshot 125 = .ok (.iconst 1, 1) := by decide +kernel
theorem dX4_snapshot_126 : decode cX4_snapshot 126 = .ok (.iadd, 1) := by decide +kernel
theorem dX4_snapshot_127 : decode cX4_snapshot 127 = .ok (.putfield 154, 3) := by decide +kernel
theorem dX4_snapshot_130 : decode cX4_snapshot 130 = .ok (.aload_n 0, 1) := by decide +kernel
theorem dX4_snapshot_131 : decode cX4_snapshot 131 = .ok (.getfield 154, 3) := by decide +kernel
theorem dX4_snapshot_134 : decode cX4_snapshot 134 = .ok (.iconst 1, 1) := by decide +kernel
theorem dX4_snapshot_135 : decode cX4_snapshot 135 = .ok (.isub, 1) := by decide +kernel
theorem dX4_snapshot_136 : decode cX4_snapshot 136 = .ok (.ireturn, 1) := by decide +kernel
theorem dX4_drop_0 : decode cX4_drop 0 = .ok (.aload_n 0, 1) := by decide +kernel
theorem dX4_drop_1 : decode cX4_drop 1 = .ok (.iconst 0, 1) := by decide +kernel
theorem dX4_drop_2 : decode cX4_drop 2 = .ok (.putfield 58, 3) := by decide +kernel
theorem dX4_drop_5 : decode cX4_drop 5 = .ok (.aload_n 0, 1) := by decide +kernel
theorem dX4_drop_6 : decode cX4_drop 6 = .ok (.iload_n 1, 1) := by decide +kernel
theorem dX4_drop_7 : decode cX4_drop 7 = .ok (.invokevirtual 157, 3) := by decide +kernel
theorem dX4_drop_10 : decode cX4_drop 10 = .ok (.istore_n 2, 1) := by decide +kernel
theorem dX4_drop_11 : decode cX4_drop 11 = .ok (.iload_n 2, 1) := by decide +kernel
theorem dX4_drop_12 : decode cX4_drop 12 = .ok (.ifCond .ne 9, 3) := by decide +kernel
theorem dX4_drop_15 : decode cX4_drop 15 = .ok (.aload_n 0, 1) := by decide +kernel
theorem dX4_drop_16 : decode cX4_drop 16 = .ok (.iconst 1, 1) := by decide +kernel
theorem dX4_drop_17 : decode cX4_drop 17 = .ok (.invokevirtual 130, 3) := by decide +kernel
theorem dX4_drop_20 : decode cX4_drop 20 = .ok (.ireturn, 1) := by decide +kernel
theorem dX4_drop_21 : decode cX4_drop 21 = .ok (.aload_n 0, 1) := by decide +kernel
theorem dX4_drop_22 : decode cX4_drop 22 = .ok (.getfield 47, 3) := by decide +kernel
theorem dX4_drop_25 : decode cX4_drop 25 = .ok (.iload_n 2, 1) := by decide +kernel
theorem dX4_drop_26 : decode cX4_drop 26 = .ok (.iconst 0, 1) := by decide +kernel
theorem dX4_drop_27 : decode cX4_drop 27 = .ok (.bastore, 1) := by decide +kernel
theorem dX4_drop_28 : decode cX4_drop 28 = .ok (.aload_n 0, 1) := by decide +kernel
theorem dX4_drop_29 : decode cX4_drop 29 = .ok (.invokevirtual 160, 3) := by decide +kernel
theorem dX4_drop_32 : decode cX4_drop 32 = .ok (.ireturn, 1) := by decide +kernel
theorem dX4_ask_0 : decode cX4_ask 0 = .ok (.aload_n 0, 1) := by decide +kernel
theorem dX4_ask_1 : decode cX4_ask 1 = .ok (.iconst 0, 1) := by decide +kernel
theorem dX4_ask_2 : decode cX4_ask 2 = .ok (.putfield 58, 3) := by decide +kernel
theorem dX4_ask_5 : decode cX4_ask 5 = .ok (.iload_n 1, 1) := by decide +kernel
theorem dX4_ask_6 : decode cX4_ask 6 = .ok (.iconst (-1), 1) := by decide +kernel
theorem dX4_ask_7 : decode cX4_ask 7 = .ok (.if_icmp .ne 7, 3) := by decide +kernel
theorem dX4_ask_10 : decode cX4_ask 10 = .ok (.iconst 0, 1) := by decide +kernel
theorem dX4_ask_11 : decode cX4_ask 11 = .ok (.goto 8, 3) := by decide +kernel
theorem dX4_ask_14 : decode cX4_ask 14 = .ok (.aload_n 0, 1) := by decide +kernel
theorem dX4_ask_15 : decode cX4_ask 15 = .ok (.iload_n 1, 1) := by decide +kernel
theorem dX4_ask_16 : decode cX4_ask 16 = .ok (.invokevirtual 157, 3) := by decide +kernel
theorem dX4_ask_19 : decode cX4_ask 19 = .ok (.istore 7, 2) := by decide +kernel
theorem dX4_ask_21 : decode cX4_ask 21 = .ok (.aload_n 0, 1) := by decide +kernel
theorem dX4_ask_22 : decode cX4_ask 22 = .ok (.iload_n 2, 1) := by decide +kernel
theorem dX4_ask_23 : decode cX4_ask 23 = .ok (.invokevirtual 105, 3) := by decide +kernel
theorem dX4_ask_26 : decode cX4_ask 26 = .ok (.ifCond .eq 13, 3) := by decide +kernel
theorem dX4_ask_29 : decode cX4_ask 29 = .ok (.iload_n 1, 1) := by decide +kernel
theorem dX4_ask_30 : decode cX4_ask 30 = .ok (.iconst (-1), 1) := by decide +kernel
theorem dX4_ask_31 : decode cX4_ask 31 = .ok (.if_icmp .eq 15, 3) := by decide +kernel
theorem dX4_ask_34 : decode cX4_ask 34 = .ok (.iload 7, 2) := by decide +kernel
theorem dX4_ask_36 : decode cX4_ask 36 = .ok (.ifCond .ne 10, 3) := by decide +kernel
theorem dX4_ask_39 : decode cX4_ask 39 = .ok (.aload_n 0, 1) := by decide +kernel
theorem dX4_ask_40 : decode cX4_ask 40 = .ok (.iconst 1, 1) := by decide +kernel
theorem dX4_ask_41 : decode cX4_ask 41 = .ok (.invokevirtual 130, 3) := by decide +kernel
theorem dX4_ask_44 : decode cX4_ask 44 = .ok (.i2l, 1) := by decide +kernel
theorem dX4_ask_45 : decode cX4_ask 45 = .ok (.lreturn, 1) := by decide +kernel
theorem dX4_ask_46 : decode cX4_ask 46 = .ok (.aload_n 0, 1) := by decide +kernel
theorem dX4_ask_47 : decode cX4_ask 47 = .ok (.iload 7, 2) := by decide +kernel
theorem dX4_ask_49 : decode cX4_ask 49 = .ok (.iload_n 2, 1) := by decide +kernel
theorem dX4_ask_50 : decode cX4_ask 50 = .ok (.lload_n 3, 1) := by decide +kernel
theorem dX4_ask_51 : decode cX4_ask 51 = .ok (.iload 5, 2) := by decide +kernel
theorem dX4_ask_53 : decode cX4_ask 53 = .ok (.invokevirtual 87, 3) := by decide +kernel
theorem dX4_ask_56 : decode cX4_ask 56 = .ok (.istore 8, 2) := by decide +kernel
theorem dX4_ask_58 : decode cX4_ask 58 = .ok (.iload 8, 2) := by decide +kernel
theorem dX4_ask_60 : decode cX4_ask 60 = .ok (.ifCond .lt 21, 3) := by decide +kernel
theorem dX4_ask_63 : decode cX4_ask 63 = .ok (.iload 6, 2) := by decide +kernel
theorem dX4_ask_65 : decode cX4_ask 65 = .ok (.ifCond .lt 16, 3) := by decide +kernel
theorem dX4_ask_68 : decode cX4_ask 68 = .ok (.iload 6, 2) := by decide +kernel
theorem dX4_ask_70 : decode cX4_ask 70 = .ok (.aload_n 0, 1) := by decide +kernel
theorem dX4_ask_71 : decode cX4_ask 71 = .ok (.iload 7, 2) := by decide +kernel
theorem dX4_ask_73 : decode cX4_ask 73 = .ok (.iload 8, 2) := by decide +kernel
theorem dX4_ask_75 : decode cX4_ask 75 = .ok (.invokevirtual 163, 3) := by decide +kernel
theorem dX4_ask_78 : decode cX4_ask 78 = .ok (.if_icmp .lt 12, 3) := by decide +kernel
theorem dX4_ask_81 : decode cX4_ask 81 = .ok (.aload_n 0, 1) := by decide +kernel
theorem dX4_ask_82 : decode cX4_ask 82 = .ok (.iconst 2, 1) := by decide +kernel
theorem dX4_ask_83 : decode cX4_ask 83 = .ok (.invokevirtual 130, 3) := by decide +kernel
theorem dX4_ask_86 : decode cX4_ask 86 = .ok (.i2l, 1) := by decide +kernel
theorem dX4_ask_87 : decode cX4_ask 87 = .ok (.goto 16, 3) := by decide +kernel
theorem dX4_ask_90 : decode cX4_ask 90 = .ok (.aload_n 0, 1) := by decide +kernel
theorem dX4_ask_91 : decode cX4_ask 91 = .ok (.getfield 38, 3) := by decide +kernel
theorem dX4_ask_94 : decode cX4_ask 94 = .ok (.bipush 10, 2) := by decide +kernel
theorem dX4_ask_96 : decode cX4_ask 96 = .ok (.iload 8, 2) := by decide +kernel
theorem dX4_ask_98 : decode cX4_ask 98 = .ok (.imul, 1) := by decide +kernel
theorem dX4_ask_99 : decode cX4_ask 99 = .ok (.iload 6, 2) := by decide +kernel
theorem dX4_ask_101 : decode cX4_ask 101 = .ok (.iadd, 1) := by decide +kernel
theorem dX4_ask_102 : decode cX4_ask 102 = .ok (.laload, 1) := by decide +kernel
theorem dX4_ask_103 : decode cX4_ask 103 = .ok (.lreturn, 1) := by decide +kernel
theorem dX4_entries_0 : decode cX4_entries 0 = .ok (.aload_n 0, 1) := by decide +kernel
theorem dX4_entries_1 : decode cX4_entries 1 = .ok (.iconst 0, 1) := by decide +kernel
theorem dX4_entries_2 : decode cX4_entries 2 = .ok (.putfield 58, 3) := by decide +kernel
theorem dX4_entries_5 : decode cX4_entries 5 = .ok (.iload_n 1, 1) := by decide +kernel
theorem dX4_entries_6 : decode cX4_entries 6 = .ok (.iconst (-1), 1) := by decide +kernel
theorem dX4_entries_7 : decode cX4_entries 7 = .ok (.if_icmp .ne 7, 3) := by decide +kernel
theorem dX4_entries_10 : decode cX4_entries 10 = .ok (.iconst 0, 1) := by decide +kernel
theorem dX4_entries_11 : decode cX4_entries 11 = .ok (.goto 8, 3) := by decide +kernel
theorem dX4_entries_14 : decode cX4_entries 14 = .ok (.aload_n 0, 1) := by decide +kernel
theorem dX4_entries_15 : decode cX4_entries 15 = .ok (.iload_n 1, 1) := by decide +kernel
theorem dX4_entries_16 : decode cX4_entries 16 = .ok (.invokevirtual 157, 3) := by decide +kernel
theorem dX4_entries_19 : decode cX4_entries 19 = .ok (.istore_n 3, 1) := by decide +kernel
theorem dX4_entries_20 : decode cX4_entries 20 = .ok (.aload_n 0, 1) := by decide +kernel
theorem dX4_entries_21 : decode cX4_entries 21 = .ok (.iload_n 2, 1) := by decide +kernel
theorem dX4_entries_22 : decode cX4_entries 22 = .ok (.invokevirtual 105, 3) := by decide +kernel
theorem dX4_entries_25 : decode cX4_entries 25 = .ok (.ifCond .eq 12, 3) := by decide +kernel
theorem dX4_entries_28 : decode cX4_entries 28 = .ok (.iload_n 1, 1) := by decide +kernel
theorem dX4_entries_29 : decode cX4_entries 29 = .ok (.iconst (-1), 1) := by decide +kernel
theorem dX4_entries_30 : decode cX4_entries 30 = .ok (.if_icmp .eq 13, 3) := by decide +kernel
theorem dX4_entries_33 : decode cX4_entries 33 = .ok (.iload_n 3, 1) := by decide +kernel
theorem dX4_entries_34 : decode cX4_entries 34 = .ok (.ifCond .ne 9, 3) := by decide +kernel
theorem dX4_entries_37 : decode cX4_entries 37 = .ok (.aload_n 0, 1) := by decide +kernel
theorem dX4_entries_38 : decode cX4_entries 38 = .ok (.iconst 1, 1) := by decide +kernel
theorem dX4_entries_39 : decode cX4_entries 39 = .ok (.invokevirtual 130, 3) := by decide +kernel
theorem dX4_entries_42 : decode cX4_entries 42 = .ok (.ireturn, 1) := by decide +kernel
theorem dX4_entries_43 : decode cX4_entries 43 = .ok (.iconst 0, 1) := by decide +kernel
theorem dX4_entries_44 : decode cX4_entries 44 = .ok (.istore 4, 2) := by decide +kernel
theorem dX4_entries_46 : decode cX4_entries 46 = .ok (.sipush 150, 3) := by decide +kernel
theorem dX4_entries_49 : decode cX4_entries 49 = .ok (.iload_n 3, 1) := by decide +kernel
theorem dX4_entries_50 : decode cX4_entries 50 = .ok (.imul, 1) := by decide +kernel
theorem dX4_entries_51 : decode cX4_entries 51 = .ok (.istore 5, 2) := by decide +kernel
theorem dX4_entries_53 : decode cX4_entries 53 = .ok (.iload 5, 2) := by decide +kernel
theorem dX4_entries_55 : decode cX4_entries 55 = .ok (.sipush 150, 3) := by decide +kernel
theorem dX4_entries_58 : decode cX4_entries 58 = .ok (.iload_n 3, 1) := by decide +kernel
theorem dX4_entries_59 : decode cX4_entries 59 = .ok (.imul, 1) := by decide +kernel
theorem dX4_entries_60 : decode cX4_entries 60 = .ok (.aload_n 0, 1) := by decide +kernel
theorem dX4_entries_61 : decode cX4_entries 61 = .ok (.getfield 22, 3) := by decide +kernel
theorem dX4_entries_64 : decode cX4_entries 64 = .ok (.iload_n 3, 1) := by decide +kernel
theorem dX4_entries_65 : decode cX4_entries 65 = .ok (.iaload, 1) := by decide +kernel
theorem dX4_entries_66 : decode cX4_entries 66 = .ok (.iadd, 1) := by decide +kernel
theorem dX4_entries_67 : decode cX4_entries 67 = .ok (.if_icmp .ge 30, 3) := by decide +kernel
theorem dX4_entries_70 : decode cX4_entries 70 = .ok (.iload 4, 2) := by decide +kernel
theorem dX4_entries_72 : decode cX4_entries 72 = .ok (.aload_n 0, 1) := by decide +kernel
theorem dX4_entries_73 : decode cX4_entries 73 = .ok (.getfield 25, 3) := by decide +kernel
theorem dX4_entries_76 : decode cX4_entries 76 = .ok (.iload 5, 2) := by decide +kernel
theorem dX4_entries_78 : decode cX4_entries 78 = .ok (.iaload, 1) := by decide +kernel
theorem dX4_entries_79 : decode cX4_entries 79 = .ok (.iload_n 2, 1) := by decide +kernel
theorem dX4_entries_80 : decode cX4_entries 80 = .ok (.if_icmp .ne 7, 3) := by decide +kernel
theorem dX4_entries_83 : decode cX4_entries 83 = .ok (.iconst 1, 1) := by decide +kernel
theorem dX4_entries_84 : decode cX4_entries 84 = .ok (.goto 4, 3) := by decide +kernel
theorem dX4_entries_87 : decode cX4_entries 87 = .ok (.iconst 0, 1) := by decide +kernel
theorem dX4_entries_88 : decode cX4_entries 88 = .ok (.iadd, 1) := by decide +kernel
theorem dX4_entries_89 : decode cX4_entries 89 = .ok (.istore 4, 2) := by decide +kernel
theorem dX4_entries_91 : decode cX4_entries 91 = .ok (.iinc 5 1, 3) := by decide +kernel
theorem dX4_entries_94 : decode cX4_entries 94 = .ok (.goto (-41), 3) := by decide +kernel
theorem dX4_entries_97 : decode cX4_entries 97 = .ok (.iload 4, 2) := by decide +kernel
theorem dX4_entries_99 : decode cX4_entries 99 = .ok (.ireturn, 1) := by decide +kernel
theorem dX4_restore_0 : decode cX4_restore 0 = .ok (.aload_n 0, 1) := by decide +kernel
theorem dX4_restore_1 : decode cX4_restore 1 = .ok (.iconst 0, 1) := by decide +kernel
theorem dX4_restore_2 : decode cX4_restore 2 = .ok (.putfield 58, 3) := by decide +kernel
theorem dX4_restore_5 : decode cX4_restore 5 = .ok (.aload_n 0, 1) := by decide +kernel
theorem dX4_restore_6 : decode cX4_restore 6 = .ok (.iload_n 1, 1) := by decide +kernel
theorem dX4_restore_7 : decode cX4_restore 7 = .ok (.invokevirtual 157, 3) := by decide +kernel
theorem dX4_restore_10 : decode cX4_restore 10 = .ok (.istore_n 2, 1) := by decide +kernel
theorem dX4_restore_11 : decode cX4_restore 11 = .ok (.iload_n 2, 1) := by decide +kernel
theorem dX4_restore_12 : decode cX4_restore 12 = .ok (.ifCond .ne 9, 3) := by decide +kernel
theorem dX4_restore_15 : decode cX4_restore 15 = .ok (.aload_n 0, 1) := by decide +kernel
theorem dX4_restore_16 : decode cX4_restore 16 = .ok (.iconst 1, 1) := by decide +kernel
theorem dX4_restore_17 : decode cX4_restore 17 = .ok (.invokevirtual 130, 3) := by decide +kernel
theorem dX4_restore_20 : decode cX4_restore 20 = .ok (.ireturn, 1) := by decide +kernel
theorem dX4_restore_21 : decode cX4_restore 21 = .ok (.aload_n 0, 1) := by decide +kernel
theorem dX4_restore_22 : decode cX4_restore 22 = .ok (.iload_n 2, 1) := by decide +kernel
theorem dX4_restore_23 : decode cX4_restore 23 = .ok (.iconst 0, 1) := by decide +kernel
theorem dX4_restore_24 : decode cX4_restore 24 = .ok (.invokevirtual 151, 3) := by decide +kernel
theorem dX4_restore_27 : decode cX4_restore 27 = .ok (.iconst 0, 1) := by decide +kernel
theorem dX4_restore_28 : decode cX4_restore 28 = .ok (.istore_n 3, 1) := by decide +kernel
theorem dX4_restore_29 : decode cX4_restore 29 = .ok (.iload_n 3, 1) := by decide +kernel
theorem dX4_restore_30 : decode cX4_restore 30 = .ok (.aload_n 0, 1) := by decide +kernel
theorem dX4_restore_31 : decode cX4_restore 31 = .ok (.getfield 19, 3) := by decide +kernel
theorem dX4_restore_34 : decode cX4_restore 34 = .ok (.iload_n 2, 1) := by decide +kernel
theorem dX4_restore_35 : decode cX4_restore 35 = .ok (.iaload, 1) := by decide +kernel
theorem dX4_restore_36 : decode cX4_restore 36 = .ok (.if_icmp .ge 43, 3) := by decide +kernel
theorem dX4_restore_39 : decode cX4_restore 39 = .ok (.aload_n 0, 1) := by decide +kernel
theorem dX4_restore_40 : decode cX4_restore 40 = .ok (.getfield 13, 3) := by decide +kernel
theorem dX4_restore_43 : decode cX4_restore 43 = .ok (.iload_n 3, 1) := by decide +kernel
theorem dX4_restore_44 : decode cX4_restore 44 = .ok (.aload_n 0, 1) := by decide +kernel
theorem dX4_restore_45 : decode cX4_restore 45 = .ok (.getfield 13, 3) := by decide +kernel
theorem dX4_restore_48 : decode cX4_restore 48 = .ok (.bipush 8, 2) := by decide +kernel
theorem dX4_restore_50 : decode cX4_restore 50 = .ok (.iload_n 2, 1) := by decide +kernel
theorem dX4_restore_51 : decode cX4_restore 51 = .ok (.imul, 1) := by decide +kernel
theorem dX4_restore_52 : decode cX4_restore 52 = .ok (.iload_n 3, 1) := by decide +kernel
theorem dX4_restore_53 : decode cX4_restore 53 = .ok (.iadd, 1) := by decide +kernel
theorem dX4_restore_54 : decode cX4_restore 54 = .ok (.iaload, 1) := by decide +kernel
theorem dX4_restore_55 : decode cX4_restore 55 = .ok (.iastore, 1) := by decide +kernel
theorem dX4_restore_56 : decode cX4_restore 56 = .ok (.aload_n 0, 1) := by decide +kernel
theorem dX4_restore_57 : decode cX4_restore 57 = .ok (.getfield 16, 3) := by decide +kernel
theorem dX4_restore_60 : decode cX4_restore 60 = .ok (.iload_n 3, 1) := by decide +kernel
theorem dX4_restore_61 : decode cX4_restore 61 = .ok (.aload_n 0, 1) := by decide +kernel
theorem dX4_restore_62 : decode cX4_restore 62 = .ok (.getfield 16, 3) := by decide +kernel
theorem dX4_restore_65 : decode cX4_restore 65 = .ok (.bipush 8, 2) := by decide +kernel
theorem dX4_restore_67 : decode cX4_restore 67 = .ok (.iload_n 2, 1) := by decide +kernel
theorem dX4_restore_68 : decode cX4_restore 68 = .ok (.imul, 1) := by decide +kernel
theorem dX4_restore_69 : decode cX4_restore 69 = .ok (.iload_n 3, 1) := by decide +kernel
theorem dX4_restore_70 : decode cX4_restore 70 = .ok (.iadd, 1) := by decide +kernel
theorem dX4_restore_71 : decode cX4_restore 71 = .ok (.iaload, 1) := by decide +kernel
theorem dX4_restore_72 : decode cX4_restore 72 = .ok (.iastore, 1) := by decide +kernel
theorem dX4_restore_73 : decode cX4_restore 73 = .ok (.iinc 3 1, 3) := by decide +kernel
theorem dX4_restore_76 : decode cX4_restore 76 = .ok (.goto (-47), 3) := by decide +kernel
theorem dX4_restore_79 : decode cX4_restore 79 = .ok (.aload_n 0, 1) := by decide +kernel
theorem dX4_restore_80 : decode cX4_restore 80 = .ok (.getfield 22, 3) := by decide +kernel
theorem dX4_restore_83 : decode cX4_restore 83 = .ok (.iconst 0, 1) := by decide +kernel
theorem dX4_restore_84 : decode cX4_restore 84 = .ok (.iaload, 1) := by decide +kernel
theorem dX4_restore_85 : decode cX4_restore 85 = .ok (.ireturn, 1) := by decide +kernel
theorem dX4_canMove_0 : decode cX4_canMove 0 = .ok (.iload_n 0, 1) := by decide +kernel
theorem dX4_canMove_1 : decode cX4_canMove 1 = .ok (.iload_n 1, 1) := by decide +kernel
theorem dX4_canMove_2 : decode cX4_canMove 2 = .ok (.if_icmp .ne 16, 3) := by decide +kernel
theorem dX4_canMove_5 : decode cX4_canMove 5 = .ok (.iload_n 0, 1) := by decide +kernel
theorem dX4_canMove_6 : decode cX4_canMove 6 = .ok (.iconst 3, 1) := by decide +kernel
theorem dX4_canMove_7 : decode cX4_canMove 7 = .ok (.if_icmp .eq 7, 3) := by decide +kernel
theorem dX4_canMove_10 : decode cX4_canMove 10 = .ok (.iconst 1, 1) := by decide +kernel
theorem dX4_canMove_11 : decode cX4_canMove 11 = .ok (.goto 74, 3) := by decide +kernel
theorem dX4_canMove_14 : decode cX4_canMove 14 = .ok (.iconst 0, 1) := by decide +kernel
theorem dX4_canMove_15 : decode cX4_canMove 15 = .ok (.goto 70, 3) := by decide +kernel
theorem dX4_canMove_18 : decode cX4_canMove 18 = .ok (.iload_n 0, 1) := by decide +kernel
theorem dX4_canMove_19 : decode cX4_canMove 19 = .ok (.ifCond .ne 21, 3) := by decide +kernel
theorem dX4_canMove_22 : decode cX4_canMove 22 = .ok (.iload_n 1, 1) := by decide +kernel
theorem dX4_canMove_23 : decode cX4_canMove 23 = .ok (.iconst 1, 1) := by decide +kernel
theorem dX4_canMove_24 : decode cX4_canMove 24 = .ok (.if_icmp .eq 8, 3) := by decide +kernel
theorem dX4_canMove_27 : decode cX4_canMove 27 = .ok (.iload_n 1, 1) := by decide +kernel
theorem dX4_canMove_28 : decode cX4_canMove 28 = .ok (.iconst 3, 1) := by decide +kernel
theorem dX4_canMove_29 : decode cX4_canMove 29 = .ok (.if_icmp .ne 7, 3) := by decide +kernel
theorem dX4_canMove_32 : decode cX4_canMove 32 = .ok (.iconst 1, 1) := by decide +kernel
theorem dX4_canMove_33 : decode cX4_canMove 33 = .ok (.goto 52, 3) := by decide +kernel
theorem dX4_canMove_36 : decode cX4_canMove 36 = .ok (.iconst 0, 1) := by decide +kernel
theorem dX4_canMove_37 : decode cX4_canMove 37 = .ok (.goto 48, 3) := by decide +kernel
theorem dX4_canMove_40 : decode cX4_canMove 40 = .ok (.iload_n 0, 1) := by decide +kernel
theorem dX4_canMove_41 : decode cX4_canMove 41 = .ok (.iconst 1, 1) := by decide +kernel
theorem dX4_canMove_42 : decode cX4_canMove 42 = .ok (.if_icmp .ne 16, 3) := by decide +kernel
theorem dX4_canMove_45 : decode cX4_canMove 45 = .ok (.iload_n 1, 1) := by decide +kernel
theorem dX4_canMove_46 : decode cX4_canMove 46 = .ok (.iconst 3, 1) := by decide +kernel
theorem dX4_canMove_47 : decode cX4_canMove 47 = .ok (.if_icmp .ne 7, 3) := by decide +kernel
theorem dX4_canMove_50 : decode cX4_canMove 50 = .ok (.iconst 1, 1) := by decide +kernel
theorem dX4_canMove_51 : decode cX4_canMove 51 = .ok (.goto 34, 3) := by decide +kernel
theorem dX4_canMove_54 : decode cX4_canMove 54 = .ok (.iconst 0, 1) := by decide +kernel
theorem dX4_canMove_55 : decode cX4_canMove 55 = .ok (.goto 30, 3) := by decide +kernel
theorem dX4_canMove_58 : decode cX4_canMove 58 = .ok (.iload_n 0, 1) := by decide +kernel
theorem dX4_canMove_59 : decode cX4_canMove 59 = .ok (.iconst 3, 1) := by decide +kernel
theorem dX4_canMove_60 : decode cX4_canMove 60 = .ok (.if_icmp .ne 15, 3) := by decide +kernel
theorem dX4_canMove_63 : decode cX4_canMove 63 = .ok (.iload_n 1, 1) := by decide +kernel
theorem dX4_canMove_64 : decode cX4_canMove 64 = .ok (.ifCond .ne 7, 3) := by decide +kernel
theorem dX4_canMove_67 : decode cX4_canMove 67 = .ok (.iconst 1, 1) := by decide +kernel
theorem dX4_canMove_68 : decode cX4_canMove 68 = .ok (.goto 17, 3) := by decide +kernel
theorem dX4_canMove_71 : decode cX4_canMove 71 = .ok (.iconst 0, 1) := by decide +kernel
theorem dX4_canMove_72 : decode cX4_canMove 72 = .ok (.goto 13, 3) := by decide +kernel
theorem dX4_canMove_75 : decode cX4_canMove 75 = .ok (.iload_n 1, 1) := by decide +kernel
theorem dX4_canMove_76 : decode cX4_canMove 76 = .ok (.iconst 1, 1) := by decide +kernel
theorem dX4_canMove_77 : decode cX4_canMove 77 = .ok (.if_icmp .ne 7, 3) := by decide +kernel
theorem dX4_canMove_80 : decode cX4_canMove 80 = .ok (.iconst 1, 1) := by decide +kernel
theorem dX4_canMove_81 : decode cX4_canMove 81 = .ok (.goto 4, 3) := by decide +kernel
theorem dX4_canMove_84 : decode cX4_canMove 84 = .ok (.iconst 0, 1) := by decide +kernel
theorem dX4_canMove_85 : decode cX4_canMove 85 = .ok (.ireturn, 1) := by decide +kernel
theorem dX4_move_0 : decode cX4_move 0 = .ok (.aload_n 0, 1) := by decide +kernel
theorem dX4_move_1 : decode cX4_move 1 = .ok (.iconst 0, 1) := by decide +kernel
theorem dX4_move_2 : decode cX4_move 2 = .ok (.putfield 58, 3) := by decide +kernel
theorem dX4_move_5 : decode cX4_move 5 = .ok (.aload_n 0, 1) := by decide +kernel
theorem dX4_move_6 : decode cX4_move 6 = .ok (.iload_n 1, 1) := by decide +kernel
theorem dX4_move_7 : decode cX4_move 7 = .ok (.invokevirtual 105, 3) := by decide +kernel
theorem dX4_move_10 : decode cX4_move 10 = .ok (.ifCond .ne 9, 3) := by decide +kernel
theorem dX4_move_13 : decode cX4_move 13 = .ok (.aload_n 0, 1) := by decide +kernel
theorem dX4_move_14 : decode cX4_move 14 = .ok (.iconst 1, 1) := by decide +kernel
theorem dX4_move_15 : decode cX4_move 15 = .ok (.invokevirtual 130, 3) := by decide +kernel
theorem dX4_move_18 : decode cX4_move 18 = .ok (.ireturn, 1) := by decide +kernel
theorem dX4_move_19 : decode cX4_move 19 = .ok (.iload_n 2, 1) := by decide +kernel
theorem dX4_move_20 : decode cX4_move 20 = .ok (.ifCond .lt 17, 3) := by decide +kernel
theorem dX4_move_23 : decode cX4_move 23 = .ok (.iload_n 2, 1) := by decide +kernel
theorem dX4_move_24 : decode cX4_move 24 = .ok (.iconst 3, 1) := by decide +kernel
theorem dX4_move_25 : decode cX4_move 25 = .ok (.if_icmp .gt 12, 3) := by decide +kernel
theorem dX4_move_28 : decode cX4_move 28 = .ok (.iload_n 3, 1) := by decide +kernel
theorem dX4_move_29 : decode cX4_move 29 = .ok (.ifCond .lt 8, 3) := by decide +kernel
theorem dX4_move_32 : decode cX4_move 32 = .ok (.iload_n 3, 1) := by decide +kernel
theorem dX4_move_33 : decode cX4_move 33 = .ok (.iconst 2, 1) := by decide +kernel
theorem dX4_move_34 : decode cX4_move 34 = .ok (.if_icmp .le 5, 3) := by decide +kernel
theorem dX4_move_37 : decode cX4_move 37 = .ok (.iconst (-1), 1) := by decide +kernel
theorem dX4_move_38 : decode cX4_move 38 = .ok (.ireturn, 1) := by decide +kernel
theorem dX4_move_39 : decode cX4_move 39 = .ok (.aload_n 0, 1) := by decide +kernel
theorem dX4_move_40 : decode cX4_move 40 = .ok (.getfield 13, 3) := by decide +kernel
theorem dX4_move_43 : decode cX4_move 43 = .ok (.iload_n 1, 1) := by decide +kernel
theorem dX4_move_44 : decode cX4_move 44 = .ok (.iaload, 1) := by decide +kernel
theorem dX4_move_45 : decode cX4_move 45 = .ok (.iload_n 2, 1) := by decide +kernel
theorem dX4_move_46 : decode cX4_move 46 = .ok (.invokestatic 167, 3) := by decide +kernel
theorem dX4_move_49 : decode cX4_move 49 = .ok (.istore 4, 2) := by decide +kernel
theorem dX4_move_51 : decode cX4_move 51 = .ok (.iconst 0, 1) := by decide +kernel
theorem dX4_move_52 : decode cX4_move 52 = .ok (.istore 5, 2) := by decide +kernel
theorem dX4_move_54 : decode cX4_move 54 = .ok (.iload 5, 2) := by decide +kernel
theorem dX4_move_56 : decode cX4_move 56 = .ok (.aload_n 0, 1) := by decide +kernel
theorem dX4_move_57 : decode cX4_move 57 = .ok (.getfield 22, 3) := by decide +kernel
theorem dX4_move_60 : decode cX4_move 60 = .ok (.iconst 0, 1) := by decide +kernel
theorem dX4_move_61 : decode cX4_move 61 = .ok (.iaload, 1) := by decide +kernel
theorem dX4_move_62 : decode cX4_move 62 = .ok (.if_icmp .ge 64, 3) := by decide +kernel
theorem dX4_move_65 : decode cX4_move 65 = .ok (.iconst 0, 1) := by decide +kernel
theorem dX4_move_66 : decode cX4_move 66 = .ok (.istore 6, 2) := by decide +kernel
theorem dX4_move_68 : decode cX4_move 68 = .ok (.aload_n 0, 1) := by decide +kernel
theorem dX4_move_69 : decode cX4_move 69 = .ok (.getfield 25, 3) := by decide +kernel
theorem dX4_move_72 : decode cX4_move 72 = .ok (.iload 5, 2) := by decide +kernel
theorem dX4_move_74 : decode cX4_move 74 = .ok (.iaload, 1) := by decide +kernel
theorem dX4_move_75 : decode cX4_move 75 = .ok (.iload_n 1, 1) := by decide +kernel
theorem dX4_move_76 : decode cX4_move 76 = .ok (.if_icmp .ne 44, 3) := by decide +kernel
theorem dX4_move_79 : decode cX4_move 79 = .ok (.iload 6, 2) := by decide +kernel
theorem dX4_move_81 : decode cX4_move 81 = .ok (.aload_n 0, 1) := by decide +kernel
theorem dX4_move_82 : decode cX4_move 82 = .ok (.iconst 0, 1) := by decide +kernel
theorem dX4_move_83 : decode cX4_move 83 = .ok (.iload 5, 2) := by decide +kernel
theorem dX4_move_85 : decode cX4_move 85 = .ok (.invokevirtual 163, 3) := by decide +kernel
theorem dX4_move_88 : decode cX4_move 88 = .ok (.if_icmp .ge 32, 3) := by decide +kernel
theorem dX4_move_91 : decode cX4_move 91 = .ok (.iload 4, 2) := by decide +kernel
theorem dX4_move_93 : decode cX4_move 93 = .ok (.iload_n 2, 1) := by decide +kernel
theorem dX4_move_94 : decode cX4_move 94 = .ok (.iload_n 3, 1) := by decide +kernel
theorem dX4_move_95 : decode cX4_move 95 = .ok (.aload_n 0, 1) := by decide +kernel
theorem dX4_move_96 : decode cX4_move 96 = .ok (.getfield 38, 3) := by decide +kernel
theorem dX4_move_99 : decode cX4_move 99 = .ok (.bipush 10, 2) := by decide +kernel
theorem dX4_move_101 : decode cX4_move 101 = .ok (.iload 5, 2) := by decide +kernel
theorem dX4_move_103 : decode cX4_move 103 = .ok (.imul, 1) := by decide +kernel
theorem dX4_move_104 : decode cX4_move 104 = .ok (.iload 6, 2) := by decide +kernel
theorem dX4_move_106 : decode cX4_move 106 = .ok (.iadd, 1) := by decide +kernel
theorem dX4_move_107 : decode cX4_move 107 = .ok (.laload, 1) := by decide +kernel
theorem dX4_move_108 : decode cX4_move 108 = .ok (.invokestatic 108, 3) := by decide +kernel
theorem dX4_move_111 : decode cX4_move 111 = .ok (.iand, 1) := by decide +kernel
theorem dX4_move_112 : decode cX4_move 112 = .ok (.istore 4, 2) := by decide +kernel
theorem dX4_move_114 : decode cX4_move 114 = .ok (.iinc 6 1, 3) := by decide +kernel
theorem dX4_move_117 : decode cX4_move 117 = .ok (.goto (-49), 3) := by decide +kernel
theorem dX4_move_120 : decode cX4_move 120 = .ok (.iinc 5 1, 3) := by decide +kernel
theorem dX4_move_123 : decode cX4_move 123 = .ok (.goto (-69), 3) := by decide +kernel
theorem dX4_move_126 : decode cX4_move 126 = .ok (.iload 4, 2) := by decide +kernel
theorem dX4_move_128 : decode cX4_move 128 = .ok (.ifCond .ne 6, 3) := by decide +kernel
theorem dX4_move_131 : decode cX4_move 131 = .ok (.bipush (-3), 2) := by decide +kernel
theorem dX4_move_133 : decode cX4_move 133 = .ok (.ireturn, 1) := by decide +kernel
theorem dX4_move_134 : decode cX4_move 134 = .ok (.iconst 0, 1) := by decide +kernel
theorem dX4_move_135 : decode cX4_move 135 = .ok (.istore 5, 2) := by decide +kernel
theorem dX4_move_137 : decode cX4_move 137 = .ok (.iconst 0, 1) := by decide +kernel
theorem dX4_move_138 : decode cX4_move 138 = .ok (.istore 6, 2) := by decide +kernel
theorem dX4_move_140 : decode cX4_move 140 = .ok (.iload 6, 2) := by decide +kernel
theorem dX4_move_142 : decode cX4_move 142 = .ok (.aload_n 0, 1) := by decide +kernel
theorem dX4_move_143 : decode cX4_move 143 = .ok (.getfield 22, 3) := by decide +kernel
theorem dX4_move_146 : decode cX4_move 146 = .ok (.iconst 0, 1) := by decide +kernel
theorem dX4_move_147 : decode cX4_move 147 = .ok (.iaload, 1) := by decide +kernel
theorem dX4_move_148 : decode cX4_move 148 = .ok (.if_icmp .ge 123, 3) := by decide +kernel
theorem dX4_move_151 : decode cX4_move 151 = .ok (.aload_n 0, 1) := by decide +kernel
theorem dX4_move_152 : decode cX4_move 152 = .ok (.getfield 25, 3) := by decide +kernel
theorem dX4_move_155 : decode cX4_move 155 = .ok (.iload 6, 2) := by decide +kernel
theorem dX4_move_157 : decode cX4_move 157 = .ok (.iaload, 1) := by decide +kernel
theorem dX4_move_158 : decode cX4_move 158 = .ok (.iload_n 1, 1) := by decide +kernel
theorem dX4_move_159 : decode cX4_move 159 = .ok (.if_icmp .ne 106, 3) := by decide +kernel
theorem dX4_move_162 : decode cX4_move 162 = .ok (.aload_n 0, 1) := by decide +kernel
theorem dX4_move_163 : decode cX4_move 163 = .ok (.iload 6, 2) := by decide +kernel
theorem dX4_move_165 : decode cX4_move 165 = .ok (.invokevirtual 91, 3) := by decide +kernel
theorem dX4_move_168 : decode cX4_move 168 = .ok (.aload_n 0, 1) := by decide +kernel
theorem dX4_move_169 : decode cX4_move 169 = .ok (.getfield 13, 3) := by decide +kernel
theorem dX4_move_172 : decode cX4_move 172 = .ok (.iload_n 1, 1) := by decide +kernel
theorem dX4_move_173 : decode cX4_move 173 = .ok (.iaload, 1) := by decide +kernel
theorem dX4_move_174 : decode cX4_move 174 = .ok (.iconst 1, 1) := by decide +kernel
theorem dX4_move_175 : decode cX4_move 175 = .ok (.if_icmp .ne 69, 3) := by decide +kernel
theorem dX4_move_178 : decode cX4_move 178 = .ok (.iload_n 2, 1) := by decide +kernel
theorem dX4_move_179 : decode cX4_move 179 = .ok (.iconst 3, 1) := by decide +kernel
theorem dX4_move_180 : decode cX4_move 180 = .ok (.if_icmp .ne 64, 3) := by decide +kernel
theorem dX4_move_183 : decode cX4_move 183 = .ok (.iconst 1, 1) := by decide +kernel
theorem dX4_move_184 : decode cX4_move 184 = .ok (.istore 7, 2) := by decide +kernel
theorem dX4_move_186 : decode cX4_move 186 = .ok (.iload 7, 2) := by decide +kernel
theorem dX4_move_188 : decode cX4_move 188 = .ok (.aload_n 0, 1) := by decide +kernel
theorem dX4_move_189 : decode cX4_move 189 = .ok (.getfield 35, 3) := by decide +kernel
theorem dX4_move_192 : decode cX4_move 192 = .ok (.iload 6, 2) := by decide +kernel
theorem dX4_move_194 : decode cX4_move 194 = .ok (.iaload, 1) := by decide +kernel
theorem dX4_move_195 : decode cX4_move 195 = .ok (.if_icmp .ge 46, 3) := by decide +kernel
theorem dX4_move_198 : decode cX4_move 198 = .ok (.aload_n 0, 1) := by decide +kernel
theorem dX4_move_199 : decode cX4_move 199 = .ok (.getfield 38, 3) := by decide +kernel
theorem dX4_move_202 : decode cX4_move 202 = .ok (.bipush 10, 2) := by decide +kernel
theorem dX4_move_204 : decode cX4_move 204 = .ok (.iload 6, 2) := by decide +kernel
theorem dX4_move_206 : decode cX4_move 206 = .ok (.imul, 1) := by decide +kernel
theorem dX4_move_207 : decode cX4_move 207 = .ok (.iload_n 3, 1) := by decide +kernel
theorem dX4_move_208 : decode cX4_move 208 = .ok (.aload_n 0, 1) := by decide +kernel
theorem dX4_move_209 : decode cX4_move 209 = .ok (.getfield 38, 3) := by decide +kernel
theorem dX4_move_212 : decode cX4_move 212 = .ok (.bipush 10, 2) := by decide +kernel
theorem dX4_move_214 : decode cX4_move 214 = .ok (.iload 6, 2) := by decide +kernel
theorem dX4_move_216 : decode cX4_move 216 = .ok (.imul, 1) := by decide +kernel
theorem dX4_move_217 : decode cX4_move 217 = .ok (.laload, 1) := by decide +kernel
theorem dX4_move_218 : decode cX4_move 218 = .ok (.aload_n 0, 1) := by decide +kernel
theorem dX4_move_219 : decode cX4_move 219 = .ok (.getfield 38, 3) := by decide +kernel
theorem dX4_move_222 : decode cX4_move 222 = .ok (.bipush 10, 2) := by decide +kernel
theorem dX4_move_224 : decode cX4_move 224 = .ok (.iload 6, 2) := by decide +kernel
theorem dX4_move_226 : decode cX4_move 226 = .ok (.imul, 1) := by decide +kernel
theorem dX4_move_227 : decode cX4_move 227 = .ok (.iload 7, 2) := by decide +kernel
theorem dX4_move_229 : decode cX4_move 229 = .ok (.iadd, 1) := by decide +kernel
theorem dX4_move_230 : decode cX4_move 230 = .ok (.laload, 1) := by decide +kernel
theorem dX4_move_231 : decode cX4_move 231 = .ok (.invokestatic 144, 3) := by decide +kernel
theorem dX4_move_234 : decode cX4_move 234 = .ok (.lastore, 1) := by decide +kernel
theorem dX4_move_235 : decode cX4_move 235 = .ok (.iinc 7 1, 3) := by decide +kernel
theorem dX4_move_238 : decode cX4_move 238 = .ok (.goto (-52), 3) := by decide +kernel
theorem dX4_move_241 : decode cX4_move 241 = .ok (.goto 21, 3) := by decide +kernel
theorem dX4_move_244 : decode cX4_move 244 = .ok (.aload_n 0, 1) := by decide +kernel
theorem dX4_move_245 : decode cX4_move 245 = .ok (.getfield 13, 3) := by decide +kernel
theorem dX4_move_248 : decode cX4_move 248 = .ok (.iload_n 1, 1) := by decide +kernel
theorem dX4_move_249 : decode cX4_move 249 = .ok (.iaload, 1) := by decide +kernel
theorem dX4_move_250 : decode cX4_move 250 = .ok (.iconst 3, 1) := by decide +kernel
theorem dX4_move_251 : decode cX4_move 251 = .ok (.if_icmp .ne 11, 3) := by decide +kernel
theorem dX4_move_254 : decode cX4_move 254 = .ok (.aload_n 0, 1) := by decide +kernel
theorem dX4_move_255 : decode cX4_move 255 = .ok (.getfield 35, 3) := by decide +kernel
theorem dX4_move_258 : decode cX4_move 258 = .ok (.iload 6, 2) := by decide +kernel
theorem dX4_move_260 : decode cX4_move 260 = .ok (.iconst 1, 1) := by decide +kernel
theorem dX4_move_261 : decode cX4_move 261 = .ok (.iastore, 1) := by decide +kernel
theorem dX4_move_262 : decode cX4_move 262 = .ok (.iinc 5 1, 3) := by decide +kernel
theorem dX4_move_265 : decode cX4_move 265 = .ok (.iinc 6 1, 3) := by decide +kernel
theorem dX4_move_268 : decode cX4_move 268 = .ok (.goto (-128), 3) := by decide +kernel
theorem dX4_move_271 : decode cX4_move 271 = .ok (.aload_n 0, 1) := by decide +kernel
theorem dX4_move_272 : decode cX4_move 272 = .ok (.getfield 13, 3) := by decide +kernel
theorem dX4_move_275 : decode cX4_move 275 = .ok (.iload_n 1, 1) := by decide +kernel
theorem dX4_move_276 : decode cX4_move 276 = .ok (.iload_n 2, 1) := by decide +kernel
theorem dX4_move_277 : decode cX4_move 277 = .ok (.iastore, 1) := by decide +kernel
theorem dX4_move_278 : decode cX4_move 278 = .ok (.aload_n 0, 1) := by decide +kernel
theorem dX4_move_279 : decode cX4_move 279 = .ok (.getfield 16, 3) := by decide +kernel
theorem dX4_move_282 : decode cX4_move 282 = .ok (.iload_n 1, 1) := by decide +kernel
theorem dX4_move_283 : decode cX4_move 283 = .ok (.iload_n 3, 1) := by decide +kernel
theorem dX4_move_284 : decode cX4_move 284 = .ok (.iastore, 1) := by decide +kernel
theorem dX4_move_285 : decode cX4_move 285 = .ok (.iload 5, 2) := by decide +kernel
theorem dX4_move_287 : decode cX4_move 287 = .ok (.ireturn, 1) := by decide +kernel
theorem dX4_of_0 : decode cX4_of 0 = .ok (.aload_n 0, 1) := by decide +kernel
theorem dX4_of_1 : decode cX4_of 1 = .ok (.iconst 0, 1) := by decide +kernel
theorem dX4_of_2 : decode cX4_of 2 = .ok (.putfield 58, 3) := by decide +kernel
theorem dX4_of_5 : decode cX4_of 5 = .ok (.aload_n 0, 1) := by decide +kernel
theorem dX4_of_6 : decode cX4_of 6 = .ok (.iload_n 1, 1) := by decide +kernel
theorem dX4_of_7 : decode cX4_of 7 = .ok (.invokevirtual 105, 3) := by decide +kernel
theorem dX4_of_10 : decode cX4_of 10 = .ok (.ifCond .eq 12, 3) := by decide +kernel
theorem dX4_of_13 : decode cX4_of 13 = .ok (.iload_n 2, 1) := by decide +kernel
theorem dX4_of_14 : decode cX4_of 14 = .ok (.ifCond .lt 8, 3) := by decide +kernel
theorem dX4_of_17 : decode cX4_of 17 = .ok (.iload_n 2, 1) := by decide +kernel
theorem dX4_of_18 : decode cX4_of 18 = .ok (.iconst 2, 1) := by decide +kernel
theorem dX4_of_19 : decode cX4_of 19 = .ok (.if_icmp .le 9, 3) := by decide +kernel
theorem dX4_of_22 : decode cX4_of 22 = .ok (.aload_n 0, 1) := by decide +kernel
theorem dX4_of_23 : decode cX4_of 23 = .ok (.iconst 1, 1) := by decide +kernel
theorem dX4_of_24 : decode cX4_of 24 = .ok (.invokevirtual 130, 3) := by decide +kernel
theorem dX4_of_27 : decode cX4_of 27 = .ok (.ireturn, 1) := by decide +kernel
theorem dX4_of_28 : decode cX4_of 28 = .ok (.iload_n 2, 1) := by decide +kernel
theorem dX4_of_29 : decode cX4_of 29 = .ok (.ifCond .ne 12, 3) := by decide +kernel
theorem dX4_of_32 : decode cX4_of 32 = .ok (.aload_n 0, 1) := by decide +kernel
theorem dX4_of_33 : decode cX4_of 33 = .ok (.getfield 7, 3) := by decide +kernel
theorem dX4_of_36 : decode cX4_of 36 = .ok (.iload_n 1, 1) := by decide +kernel
theorem dX4_of_37 : decode cX4_of 37 = .ok (.iaload, 1) := by decide +kernel
theorem dX4_of_38 : decode cX4_of 38 = .ok (.goto 23, 3) := by decide +kernel
theorem dX4_of_41 : decode cX4_of 41 = .ok (.iload_n 2, 1) := by decide +kernel
theorem dX4_of_42 : decode cX4_of 42 = .ok (.iconst 1, 1) := by decide +kernel
theorem dX4_of_43 : decode cX4_of 43 = .ok (.if_icmp .ne 12, 3) := by decide +kernel
theorem dX4_of_46 : decode cX4_of 46 = .ok (.aload_n 0, 1) := by decide +kernel
theorem dX4_of_47 : decode cX4_of 47 = .ok (.getfield 13, 3) := by decide +kernel
theorem dX4_of_50 : decode cX4_of 50 = .ok (.iload_n 1, 1) := by decide +kernel
theorem dX4_of_51 : decode cX4_of 51 = .ok (.iaload, 1) := by decide +kernel
theorem dX4_of_52 : decode cX4_of 52 = .ok (.goto 9, 3) := by decide +kernel
theorem dX4_of_55 : decode cX4_of 55 = .ok (.aload_n 0, 1) := by decide +kernel
theorem dX4_of_56 : decode cX4_of 56 = .ok (.getfield 16, 3) := by decide +kernel
theorem dX4_of_59 : decode cX4_of 59 = .ok (.iload_n 1, 1) := by decide +kernel
theorem dX4_of_60 : decode cX4_of 60 = .ok (.iaload, 1) := by decide +kernel
theorem dX4_of_61 : decode cX4_of 61 = .ok (.ireturn, 1) := by decide +kernel
theorem dX4_told_0 : decode cX4_told 0 = .ok (.aload_n 0, 1) := by decide +kernel
theorem dX4_told_1 : decode cX4_told 1 = .ok (.iconst 0, 1) := by decide +kernel
theorem dX4_told_2 : decode cX4_told 2 = .ok (.putfield 58, 3) := by decide +kernel
theorem dX4_told_5 : decode cX4_told 5 = .ok (.iconst 0, 1) := by decide +kernel
theorem dX4_told_6 : decode cX4_told 6 = .ok (.istore_n 2, 1) := by decide +kernel
theorem dX4_told_7 : decode cX4_told 7 = .ok (.iconst 0, 1) := by decide +kernel
theorem dX4_told_8 : decode cX4_told 8 = .ok (.istore_n 3, 1) := by decide +kernel
theorem dX4_told_9 : decode cX4_told 9 = .ok (.iconst 0, 1) := by decide +kernel
theorem dX4_told_10 : decode cX4_told 10 = .ok (.istore 4, 2) := by decide +kernel
theorem dX4_told_12 : decode cX4_told 12 = .ok (.iload 4, 2) := by decide +kernel
theorem dX4_told_14 : decode cX4_told 14 = .ok (.aload_n 0, 1) := by decide +kernel
theorem dX4_told_15 : decode cX4_told 15 = .ok (.getfield 22, 3) := by decide +kernel
theorem dX4_told_18 : decode cX4_told 18 = .ok (.iconst 0, 1) := by decide +kernel
theorem dX4_told_19 : decode cX4_told 19 = .ok (.iaload, 1) := by decide +kernel
theorem dX4_told_20 : decode cX4_told 20 = .ok (.if_icmp .ge 49, 3) := by decide +kernel
theorem dX4_told_23 : decode cX4_told 23 = .ok (.iload_n 2, 1) := by decide +kernel
theorem dX4_told_24 : decode cX4_told 24 = .ok (.iconst 1, 1) := by decide +kernel
theorem dX4_told_25 : decode cX4_told 25 = .ok (.aload_n 0, 1) := by decide +kernel
theorem dX4_told_26 : decode cX4_told 26 = .ok (.aload_n 0, 1) := by decide +kernel
theorem dX4_told_27 : decode cX4_told 27 = .ok (.getfield 25, 3) := by decide +kernel
theorem dX4_told_30 : decode cX4_told 30 = .ok (.iload 4, 2) := by decide +kernel
theorem dX4_told_32 : decode cX4_told 32 = .ok (.iaload, 1) := by decide +kernel
theorem dX4_told_33 : decode cX4_told 33 = .ok (.aload_n 0, 1) := by decide +kernel
theorem dX4_told_34 : decode cX4_told 34 = .ok (.getfield 28, 3) := by decide +kernel
theorem dX4_told_37 : decode cX4_told 37 = .ok (.iload 4, 2) := by decide +kernel
theorem dX4_told_39 : decode cX4_told 39 = .ok (.laload, 1) := by decide +kernel
theorem dX4_told_40 : decode cX4_told 40 = .ok (.aload_n 0, 1) := by decide +kernel
theorem dX4_told_41 : decode cX4_told 41 = .ok (.getfield 32, 3) := by decide +kernel
theorem dX4_told_44 : decode cX4_told 44 = .ok (.iload 4, 2) := by decide +kernel
theorem dX4_told_46 : decode cX4_told 46 = .ok (.iaload, 1) := by decide +kernel
theorem dX4_told_47 : decode cX4_told 47 = .ok (.invokevirtual 72, 3) := by decide +kernel
theorem dX4_told_50 : decode cX4_told 50 = .ok (.ishl, 1) := by decide +kernel
theorem dX4_told_51 : decode cX4_told 51 = .ok (.ior, 1) := by decide +kernel
theorem dX4_told_52 : decode cX4_told 52 = .ok (.istore_n 2, 1) := by decide +kernel
theorem dX4_told_53 : decode cX4_told 53 = .ok (.iload_n 3, 1) := by decide +kernel
theorem dX4_told_54 : decode cX4_told 54 = .ok (.aload_n 0, 1) := by decide +kernel
theorem dX4_told_55 : decode cX4_told 55 = .ok (.iconst 0, 1) := by decide +kernel
theorem dX4_told_56 : decode cX4_told 56 = .ok (.iload 4, 2) := by decide +kernel
theorem dX4_told_58 : decode cX4_told 58 = .ok (.invokevirtual 163, 3) := by decide +kernel
theorem dX4_told_61 : decode cX4_told 61 = .ok (.iadd, 1) := by decide +kernel
theorem dX4_told_62 : decode cX4_told 62 = .ok (.istore_n 3, 1) := by decide +kernel
theorem dX4_told_63 : decode cX4_told 63 = .ok (.iinc 4 1, 3) := by decide +kernel
theorem dX4_told_66 : decode cX4_told 66 = .ok (.goto (-54), 3) := by decide +kernel
theorem dX4_told_69 : decode cX4_told 69 = .ok (.iconst 0, 1) := by decide +kernel
theorem dX4_told_70 : decode cX4_told 70 = .ok (.istore 4, 2) := by decide +kernel
theorem dX4_told_72 : decode cX4_told 72 = .ok (.iconst 0, 1) := by decide +kernel
theorem dX4_told_73 : decode cX4_told 73 = .ok (.istore 5, 2) := by decide +kernel
theorem dX4_told_75 : decode cX4_told 75 = .ok (.iload 5, 2) := by decide +kernel
theorem dX4_told_77 : decode cX4_told 77 = .ok (.bipush 16, 2) := by decide +kernel
theorem dX4_told_79 : decode cX4_told 79 = .ok (.if_icmp .ge 20, 3) := by decide +kernel
theorem dX4_told_82 : decode cX4_told 82 = .ok (.iload 4, 2) := by decide +kernel
theorem dX4_told_84 : decode cX4_told 84 = .ok (.iload_n 2, 1) := by decide +kernel
theorem dX4_told_85 : decode cX4_told 85 = .ok (.iload 5, 2) := by decide +kernel
theorem dX4_told_87 : decode cX4_told 87 = .ok (.ishr, 1) := by decide +kernel
theorem dX4_told_88 : decode cX4_told 88 = .ok (.iconst 1, 1) := by decide +kernel
theorem dX4_told_89 : decode cX4_told 89 = .ok (.iand, 1) := by decide +kernel
theorem dX4_told_90 : decode cX4_told 90 = .ok (.iadd, 1) := by decide +kernel
theorem dX4_told_91 : decode cX4_told 91 = .ok (.istore 4, 2) := by decide +kernel
theorem dX4_told_93 : decode cX4_told 93 = .ok (.iinc 5 1, 3) := by decide +kernel
theorem dX4_told_96 : decode cX4_told 96 = .ok (.goto (-21), 3) := by decide +kernel
theorem dX4_told_99 : decode cX4_told 99 = .ok (.iconst 0, 1) := by decide +kernel
theorem dX4_told_100 : decode cX4_told 100 = .ok (.istore 5, 2) := by decide +kernel
theorem dX4_told_102 : decode cX4_told 102 = .ok (.iconst 1, 1) := by decide +kernel
theorem dX4_told_103 : decode cX4_told 103 = .ok (.istore 6, 2) := by decide +kernel
theorem dX4_told_105 : decode cX4_told 105 = .ok (.iload 6, 2) := by decide +kernel
theorem dX4_told_107 : decode cX4_told 107 = .ok (.bipush 7, 2) := by decide +kernel
theorem dX4_told_109 : decode cX4_told 109 = .ok (.if_icmp .ge 29, 3) := by decide +kernel
theorem dX4_told_112 : decode cX4_told 112 = .ok (.iload 5, 2) := by decide +kernel
theorem dX4_told_114 : decode cX4_told 114 = .ok (.aload_n 0, 1) := by decide +kernel
theorem dX4_told_115 : decode cX4_told 115 = .ok (.getfield 47, 3) := by decide +kernel
theorem dX4_told_118 : decode cX4_told 118 = .ok (.iload 6, 2) := by decide +kernel
theorem dX4_told_120 : decode cX4_told 120 = .ok (.baload, 1) := by decide +kernel
theorem dX4_told_121 : decode cX4_told 121 = .ok (.ifCond .eq 7, 3) := by decide +kernel
theorem dX4_told_124 : decode cX4_told 124 = .ok (.iconst 1, 1) := by decide +kernel
theorem dX4_told_125 : decode cX4_told 125 = .ok (.goto 4, 3) := by decide +kernel
theorem dX4_told_128 : decode cX4_told 128 = .ok (.iconst 0, 1) := by decide +kernel
theorem dX4_told_129 : decode cX4_told 129 = .ok (.iadd, 1) := by decide +kernel
theorem dX4_told_130 : decode cX4_told 130 = .ok (.istore 5, 2) := by decide +kernel
theorem dX4_told_132 : decode cX4_told 132 = .ok (.iinc 6 1, 3) := by decide +kernel
theorem dX4_told_135 : decode cX4_told 135 = .ok (.goto (-30), 3) := by decide +kernel
theorem dX4_told_138 : decode cX4_told 138 = .ok (.iload_n 1, 1) := by decide +kernel
theorem dX4_told_139 : decode cX4_told 139 = .ok (.ifCond .ne 10, 3) := by decide +kernel
theorem dX4_told_142 : decode cX4_told 142 = .ok (.aload_n 0, 1) := by decide +kernel
theorem dX4_told_143 : decode cX4_told 143 = .ok (.getfield 102, 3) := by decide +kernel
theorem dX4_told_146 : decode cX4_told 146 = .ok (.goto 72, 3) := by decide +kernel
theorem dX4_told_149 : decode cX4_told 149 = .ok (.iload_n 1, 1) := by decide +kernel
theorem dX4_told_150 : decode cX4_told 150 = .ok (.iconst 1, 1) := by decide +kernel
theorem dX4_told_151 : decode cX4_told 151 = .ok (.if_icmp .ne 12, 3) := by decide +kernel
theorem dX4_told_154 : decode cX4_told 154 = .ok (.aload_n 0, 1) := by decide +kernel
theorem dX4_told_155 : decode cX4_told 155 = .ok (.getfield 22, 3) := by decide +kernel
theorem dX4_told_158 : decode cX4_told 158 = .ok (.iconst 0, 1) := by decide +kernel
theorem dX4_told_159 : decode cX4_told 159 = .ok (.iaload, 1) := by decide +kernel
theorem dX4_told_160 : decode cX4_told 160 = .ok (.goto 58, 3) := by decide +kernel
theorem dX4_told_163 : decode cX4_told 163 = .ok (.iload_n 1, 1) := by decide +kernel
theorem dX4_told_164 : decode cX4_told 164 = .ok (.iconst 2, 1) := by decide +kernel
theorem dX4_told_165 : decode cX4_told 165 = .ok (.if_icmp .ne 8, 3) := by decide +kernel
theorem dX4_told_168 : decode cX4_told 168 = .ok (.iload 5, 2) := by decide +kernel
theorem dX4_told_170 : decode cX4_told 170 = .ok (.goto 48, 3) := by decide +kernel
theorem dX4_told_173 : decode cX4_told 173 = .ok (.iload_n 1, 1) := by decide +kernel
theorem dX4_told_174 : decode cX4_told 174 = .ok (.iconst 3, 1) := by decide +kernel
theorem dX4_told_175 : decode cX4_told 175 = .ok (.if_icmp .ne 10, 3) := by decide +kernel
theorem dX4_told_178 : decode cX4_told 178 = .ok (.aload_n 0, 1) := by decide +kernel
theorem dX4_told_179 : decode cX4_told 179 = .ok (.invokevirtual 160, 3) := by decide +kernel
theorem dX4_told_182 : decode cX4_told 182 = .ok (.goto 36, 3) := by decide +kernel
theorem dX4_told_185 : decode cX4_told 185 = .ok (.iload_n 1, 1) := by decide +kernel
theorem dX4_told_186 : decode cX4_told 186 = .ok (.iconst 4, 1) := by decide +kernel
theorem dX4_told_187 : decode cX4_told 187 = .ok (.if_icmp .ne 10, 3) := by decide +kernel
theorem dX4_told_190 : decode cX4_told 190 = .ok (.aload_n 0, 1) := by decide +kernel
theorem dX4_told_191 : decode cX4_told 191 = .ok (.getfield 69, 3) := by decide +kernel
theorem dX4_told_194 : decode cX4_told 194 = .ok (.goto 24, 3) := by decide +kernel
theorem dX4_told_197 : decode cX4_told 197 = .ok (.iload_n 1, 1) := by decide +kernel
theorem dX4_told_198 : decode cX4_told 198 = .ok (.iconst 5, 1) := by decide +kernel
theorem dX4_told_199 : decode cX4_told 199 = .ok (.if_icmp .ne 8, 3) := by decide +kernel
theorem dX4_told_202 : decode cX4_told 202 = .ok (.iload 4, 2) := by decide +kernel
theorem dX4_told_204 : decode cX4_told 204 = .ok (.goto 14, 3) := by decide +kernel
theorem dX4_told_207 : decode cX4_told 207 = .ok (.iload_n 1, 1) := by decide +kernel
theorem dX4_told_208 : decode cX4_told 208 = .ok (.bipush 6, 2) := by decide +kernel
theorem dX4_told_210 : decode cX4_told 210 = .ok (.if_icmp .ne 7, 3) := by decide +kernel
theorem dX4_told_213 : decode cX4_told 213 = .ok (.iload_n 3, 1) := by decide +kernel
theorem dX4_told_214 : decode cX4_told 214 = .ok (.goto 4, 3) := by decide +kernel
theorem dX4_told_217 : decode cX4_told 217 = .ok (.iconst (-1), 1) := by decide +kernel
theorem dX4_told_218 : decode cX4_told 218 = .ok (.ireturn, 1) := by decide +kernel
