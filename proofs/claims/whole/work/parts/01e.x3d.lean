theorem dX3_init_0 : decode cX3_init 0 = .ok (.aload_n 0, 1) := by decide +kernel
theorem dX3_init_1 : decode cX3_init 1 = .ok (.invokespecial 1, 3) := by decide +kernel
theorem dX3_init_4 : decode cX3_init 4 = .ok (.aload_n 0, 1) := by decide +kernel
theorem dX3_init_5 : decode cX3_init 5 = .ok (.bipush 8, 2) := by decide +kernel
theorem dX3_init_7 : decode cX3_init 7 = .ok (.newarray .int, 2) := by decide +kernel
theorem dX3_init_9 : decode cX3_init 9 = .ok (.putfield 9, 3) := by decide +kernel
theorem dX3_init_12 : decode cX3_init 12 = .ok (.aload_n 0, 1) := by decide +kernel
theorem dX3_init_13 : decode cX3_init 13 = .ok (.new 13, 3) := by decide +kernel
theorem dX3_init_16 : decode cX3_init 16 = .ok (.dup, 1) := by decide +kernel
theorem dX3_init_17 : decode cX3_init 17 = .ok (.invokespecial 15, 3) := by decide +kernel
theorem dX3_init_20 : decode cX3_init 20 = .ok (.putfield 16, 3) := by decide +kernel
theorem dX3_init_23 : decode cX3_init 23 = .ok (.aload_n 0, 1) := by decide +kernel
theorem dX3_init_24 : decode cX3_init 24 = .ok (.bipush 6, 2) := by decide +kernel
theorem dX3_init_26 : decode cX3_init 26 = .ok (.anewarray 13, 3) := by decide +kernel
theorem dX3_init_29 : decode cX3_init 29 = .ok (.putfield 20, 3) := by decide +kernel
theorem dX3_init_32 : decode cX3_init 32 = .ok (.aload_n 0, 1) := by decide +kernel
theorem dX3_init_33 : decode cX3_init 33 = .ok (.sipush 150, 3) := by decide +kernel
theorem dX3_init_36 : decode cX3_init 36 = .ok (.newarray .long, 2) := by decide +kernel
theorem dX3_init_38 : decode cX3_init 38 = .ok (.putfield 24, 3) := by decide +kernel
theorem dX3_init_41 : decode cX3_init 41 = .ok (.aload_n 0, 1) := by decide +kernel
theorem dX3_init_42 : decode cX3_init 42 = .ok (.iconst 0, 1) := by decide +kernel
theorem dX3_init_43 : decode cX3_init 43 = .ok (.putfield 28, 3) := by decide +kernel
theorem dX3_init_46 : decode cX3_init 46 = .ok (.aload_n 0, 1) := by decide +kernel
theorem dX3_init_47 : decode cX3_init 47 = .ok (.iconst 0, 1) := by decide +kernel
theorem dX3_init_48 : decode cX3_init 48 = .ok (.putfield 32, 3) := by decide +kernel
theorem dX3_init_51 : decode cX3_init 51 = .ok (.aload_n 0, 1) := by decide +kernel
theorem dX3_init_52 : decode cX3_init 52 = .ok (.iconst 0, 1) := by decide +kernel
theorem dX3_init_53 : decode cX3_init 53 = .ok (.putfield 35, 3) := by decide +kernel
theorem dX3_init_56 : decode cX3_init 56 = .ok (.aload_n 0, 1) := by decide +kernel
theorem dX3_init_57 : decode cX3_init 57 = .ok (.lconst 0, 1) := by decide +kernel
theorem dX3_init_58 : decode cX3_init 58 = .ok (.putfield 39, 3) := by decide +kernel
theorem dX3_init_61 : decode cX3_init 61 = .ok (.aload_n 0, 1) := by decide +kernel
theorem dX3_init_62 : decode cX3_init 62 = .ok (.iconst 0, 1) := by decide +kernel
theorem dX3_init_63 : decode cX3_init 63 = .ok (.putfield 43, 3) := by decide +kernel
theorem dX3_init_66 : decode cX3_init 66 = .ok (.return_, 1) := by decide +kernel
theorem dX3_state_0 : decode cX3_state 0 = .ok (.iload_n 2, 1) := by decide +kernel
theorem dX3_state_1 : decode cX3_state 1 = .ok (.iload_n 3, 1) := by decide +kernel
theorem dX3_state_2 : decode cX3_state 2 = .ok (.invokestatic 46, 3) := by decide +kernel
theorem dX3_state_5 : decode cX3_state 5 = .ok (.ifCond .ne 5, 3) := by decide +kernel
theorem dX3_state_8 : decode cX3_state 8 = .ok (.iconst (-1), 1) := by decide +kernel
theorem dX3_state_9 : decode cX3_state 9 = .ok (.ireturn, 1) := by decide +kernel
theorem dX3_state_10 : decode cX3_state 10 = .ok (.iconst 0, 1) := by decide +kernel
theorem dX3_state_11 : decode cX3_state 11 = .ok (.istore 4, 2) := by decide +kernel
theorem dX3_state_13 : decode cX3_state 13 = .ok (.iload 4, 2) := by decide +kernel
theorem dX3_state_15 : decode cX3_state 15 = .ok (.aload_n 0, 1) := by decide +kernel
theorem dX3_state_16 : decode cX3_state 16 = .ok (.getfield 16, 3) := by decide +kernel
theorem dX3_state_19 : decode cX3_state 19 = .ok (.getfield 50, 3) := by decide +kernel
theorem dX3_state_22 : decode cX3_state 22 = .ok (.if_icmp .ge 56, 3) := by decide +kernel
theorem dX3_state_25 : decode cX3_state 25 = .ok (.aload_n 0, 1) := by decide +kernel
theorem dX3_state_26 : decode cX3_state 26 = .ok (.getfield 9, 3) := by decide +kernel
theorem dX3_state_29 : decode cX3_state 29 = .ok (.iload 4, 2) := by decide +kernel
theorem dX3_state_31 : decode cX3_state 31 = .ok (.iaload, 1) := by decide +kernel
theorem dX3_state_32 : decode cX3_state 32 = .ok (.iload_n 1, 1) := by decide +kernel
theorem dX3_state_33 : decode cX3_state 33 = .ok (.if_icmp .ne 39, 3) := by decide +kernel
theorem dX3_state_36 : decode cX3_state 36 = .ok (.aload_n 0, 1) := by decide +kernel
theorem dX3_state_37 : decode cX3_state 37 = .ok (.getfield 16, 3) := by decide +kernel
theorem dX3_state_40 : decode cX3_state 40 = .ok (.getfield 53, 3) := by decide +kernel
theorem dX3_state_43 : decode cX3_state 43 = .ok (.iload 4, 2) := by decide +kernel
theorem dX3_state_45 : decode cX3_state 45 = .ok (.iaload, 1) := by decide +kernel
theorem dX3_state_46 : decode cX3_state 46 = .ok (.iload_n 2, 1) := by decide +kernel
theorem dX3_state_47 : decode cX3_state 47 = .ok (.if_icmp .ne 22, 3) := by decide +kernel
theorem dX3_state_50 : decode cX3_state 50 = .ok (.aload_n 0, 1) := by decide +kernel
theorem dX3_state_51 : decode cX3_state 51 = .ok (.getfield 16, 3) := by decide +kernel
theorem dX3_state_54 : decode cX3_state 54 = .ok (.getfield 56, 3) := by decide +kernel
theorem dX3_state_57 : decode cX3_state 57 = .ok (.iload 4, 2) := by decide +kernel
theorem dX3_state_59 : decode cX3_state 59 = .ok (.iaload, 1) := by decide +kernel
theorem dX3_state_60 : decode cX3_state 60 = .ok (.iload_n 3, 1) := by decide +kernel
theorem dX3_state_61 : decode cX3_state 61 = .ok (.if_icmp .ne 8, 3) := by decide +kernel
theorem dX3_state_64 : decode cX3_state 64 = .ok (.iload 4, 2) := by decide +kernel
theorem dX3_state_66 : decode cX3_state 66 = .ok (.goto 5, 3) := by decide +kernel
theorem dX3_state_69 : decode cX3_state 69 = .ok (.bipush (-3), 2) := by decide +kernel
theorem dX3_state_71 : decode cX3_state 71 = .ok (.ireturn, 1) := by decide +kernel
theorem dX3_state_72 : decode cX3_state 72 = .ok (.iinc 4 1, 3) := by decide +kernel
theorem dX3_state_75 : decode cX3_state 75 = .ok (.goto (-62), 3) := by decide +kernel
theorem dX3_state_78 : decode cX3_state 78 = .ok (.aload_n 0, 1) := by decide +kernel
theorem dX3_state_79 : decode cX3_state 79 = .ok (.getfield 16, 3) := by decide +kernel
theorem dX3_state_82 : decode cX3_state 82 = .ok (.getfield 50, 3) := by decide +kernel
theorem dX3_state_85 : decode cX3_state 85 = .ok (.bipush 8, 2) := by decide +kernel
theorem dX3_state_87 : decode cX3_state 87 = .ok (.if_icmp .lt 6, 3) := by decide +kernel
theorem dX3_state_90 : decode cX3_state 90 = .ok (.bipush (-4), 2) := by decide +kernel
theorem dX3_state_92 : decode cX3_state 92 = .ok (.ireturn, 1) := by decide +kernel
theorem dX3_state_93 : decode cX3_state 93 = .ok (.aload_n 0, 1) := by decide +kernel
theorem dX3_state_94 : decode cX3_state 94 = .ok (.getfield 9, 3) := by decide +kernel
theorem dX3_state_97 : decode cX3_state 97 = .ok (.aload_n 0, 1) := by decide +kernel
theorem dX3_state_98 : decode cX3_state 98 = .ok (.getfield 16, 3) := by decide +kernel
theorem dX3_state_101 : decode cX3_state 101 = .ok (.getfield 50, 3) := by decide +kernel
theorem dX3_state_104 : decode cX3_state 104 = .ok (.iload_n 1, 1) := by decide +kernel
theorem dX3_state_105 : decode cX3_state 105 = .ok (.iastore, 1) := by decide +kernel
theorem dX3_state_106 : decode cX3_state 106 = .ok (.aload_n 0, 1) := by decide +kernel
theorem dX3_state_107 : decode cX3_state 107 = .ok (.getfield 16, 3) := by decide +kernel
theorem dX3_state_110 : decode cX3_state 110 = .ok (.iload_n 2, 1) := by decide +kernel
theorem dX3_state_111 : decode cX3_state 111 = .ok (.iload_n 3, 1) := by decide +kernel
theorem dX3_state_112 : decode cX3_state 112 = .ok (.invokevirtual 59, 3) := by decide +kernel
theorem dX3_state_115 : decode cX3_state 115 = .ok (.ireturn, 1) := by decide +kernel
theorem dX3_key_0 : decode cX3_key 0 = .ok (.aload_n 0, 1) := by decide +kernel
theorem dX3_key_1 : decode cX3_key 1 = .ok (.iconst 1, 1) := by decide +kernel
theorem dX3_key_2 : decode cX3_key 2 = .ok (.putfield 35, 3) := by decide +kernel
theorem dX3_key_5 : decode cX3_key 5 = .ok (.aload_n 0, 1) := by decide +kernel
theorem dX3_key_6 : decode cX3_key 6 = .ok (.lload_n 1, 1) := by decide +kernel
theorem dX3_key_7 : decode cX3_key 7 = .ok (.putfield 39, 3) := by decide +kernel
theorem dX3_key_10 : decode cX3_key 10 = .ok (.return_, 1) := by decide +kernel
theorem dX3_leave_0 : decode cX3_leave 0 = .ok (.aload_n 0, 1) := by decide +kernel
theorem dX3_leave_1 : decode cX3_leave 1 = .ok (.getfield 35, 3) := by decide +kernel
theorem dX3_leave_4 : decode cX3_leave 4 = .ok (.istore_n 1, 1) := by decide +kernel
theorem dX3_leave_5 : decode cX3_leave 5 = .ok (.aload_n 0, 1) := by decide +kernel
theorem dX3_leave_6 : decode cX3_leave 6 = .ok (.iconst 0, 1) := by decide +kernel
theorem dX3_leave_7 : decode cX3_leave 7 = .ok (.putfield 35, 3) := by decide +kernel
theorem dX3_leave_10 : decode cX3_leave 10 = .ok (.iload_n 1, 1) := by decide +kernel
theorem dX3_leave_11 : decode cX3_leave 11 = .ok (.ireturn, 1) := by decide +kernel
theorem dX3_span_0 : decode cX3_span 0 = .ok (.aload_n 0, 1) := by decide +kernel
theorem dX3_span_1 : decode cX3_span 1 = .ok (.getfield 43, 3) := by decide +kernel
theorem dX3_span_4 : decode cX3_span 4 = .ok (.istore_n 2, 1) := by decide +kernel
theorem dX3_span_5 : decode cX3_span 5 = .ok (.aload_n 0, 1) := by decide +kernel
theorem dX3_span_6 : decode cX3_span 6 = .ok (.iload_n 1, 1) := by decide +kernel
theorem dX3_span_7 : decode cX3_span 7 = .ok (.putfield 43, 3) := by decide +kernel
theorem dX3_span_10 : decode cX3_span 10 = .ok (.iload_n 2, 1) := by decide +kernel
theorem dX3_span_11 : decode cX3_span 11 = .ok (.ireturn, 1) := by decide +kernel
theorem dX3_put_0 : decode cX3_put 0 = .ok (.aload_n 0, 1) := by decide +kernel
theorem dX3_put_1 : decode cX3_put 1 = .ok (.iload_n 1, 1) := by decide +kernel
theorem dX3_put_2 : decode cX3_put 2 = .ok (.iconst 0, 1) := by decide +kernel
theorem dX3_put_3 : decode cX3_put 3 = .ok (.lload_n 2, 1) := by decide +kernel
theorem dX3_put_4 : decode cX3_put 4 = .ok (.invokevirtual 63, 3) := by decide +kernel
theorem dX3_put_7 : decode cX3_put 7 = .ok (.aload_n 0, 1) := by decide +kernel
theorem dX3_put_8 : decode cX3_put 8 = .ok (.iload_n 1, 1) := by decide +kernel
theorem dX3_put_9 : decode cX3_put 9 = .ok (.invokevirtual 67, 3) := by decide +kernel
theorem dX3_put_12 : decode cX3_put 12 = .ok (.astore 4, 2) := by decide +kernel
theorem dX3_put_14 : decode cX3_put 14 = .ok (.aload_n 0, 1) := by decide +kernel
theorem dX3_put_15 : decode cX3_put 15 = .ok (.aload 4, 2) := by decide +kernel
theorem dX3_put_17 : decode cX3_put 17 = .ok (.invokevirtual 71, 3) := by decide +kernel
theorem dX3_put_20 : decode cX3_put 20 = .ok (.ifCond .eq 6, 3) := by decide +kernel
theorem dX3_put_23 : decode cX3_put 23 = .ok (.bipush (-4), 2) := by decide +kernel
theorem dX3_put_25 : decode cX3_put 25 = .ok (.ireturn, 1) := by decide +kernel
theorem dX3_put_26 : decode cX3_put 26 = .ok (.aload_n 0, 1) := by decide +kernel
theorem dX3_put_27 : decode cX3_put 27 = .ok (.aload 4, 2) := by decide +kernel
theorem dX3_put_29 : decode cX3_put 29 = .ok (.lload_n 2, 1) := by decide +kernel
theorem dX3_put_30 : decode cX3_put 30 = .ok (.invokevirtual 75, 3) := by decide +kernel
theorem dX3_put_33 : decode cX3_put 33 = .ok (.invokevirtual 81, 3) := by decide +kernel
theorem dX3_put_36 : decode cX3_put 36 = .ok (.aload 4, 2) := by decide +kernel
theorem dX3_put_38 : decode cX3_put 38 = .ok (.invokevirtual 85, 3) := by decide +kernel
theorem dX3_put_41 : decode cX3_put 41 = .ok (.ifCond .eq 7, 3) := by decide +kernel
theorem dX3_put_44 : decode cX3_put 44 = .ok (.iconst 1, 1) := by decide +kernel
theorem dX3_put_45 : decode cX3_put 45 = .ok (.goto 4, 3) := by decide +kernel
theorem dX3_put_48 : decode cX3_put 48 = .ok (.iconst 0, 1) := by decide +kernel
theorem dX3_put_49 : decode cX3_put 49 = .ok (.ireturn, 1) := by decide +kernel
theorem dX3_value_0 : decode cX3_value 0 = .ok (.aload_n 0, 1) := by decide +kernel
theorem dX3_value_1 : decode cX3_value 1 = .ok (.iload_n 1, 1) := by decide +kernel
theorem dX3_value_2 : decode cX3_value 2 = .ok (.iconst 0, 1) := by decide +kernel
theorem dX3_value_3 : decode cX3_value 3 = .ok (.iconst 3, 1) := by decide +kernel
theorem dX3_value_4 : decode cX3_value 4 = .ok (.invokevirtual 89, 3) := by decide +kernel
theorem dX3_value_7 : decode cX3_value 7 = .ok (.aload_n 0, 1) := by decide +kernel
theorem dX3_value_8 : decode cX3_value 8 = .ok (.iload_n 1, 1) := by decide +kernel
theorem dX3_value_9 : decode cX3_value 9 = .ok (.invokevirtual 67, 3) := by decide +kernel
theorem dX3_value_12 : decode cX3_value 12 = .ok (.astore_n 2, 1) := by decide +kernel
theorem dX3_value_13 : decode cX3_value 13 = .ok (.aload_n 2, 1) := by decide +kernel
theorem dX3_value_14 : decode cX3_value 14 = .ok (.invokevirtual 85, 3) := by decide +kernel
theorem dX3_value_17 : decode cX3_value 17 = .ok (.ifCond .eq 13, 3) := by decide +kernel
theorem dX3_value_20 : decode cX3_value 20 = .ok (.new 93, 3) := by decide +kernel
theorem dX3_value_23 : decode cX3_value 23 = .ok (.dup, 1) := by decide +kernel
theorem dX3_value_24 : decode cX3_value 24 = .ok (.ldc 95, 2) := by decide +kernel
theorem dX3_value_26 : decode cX3_value 26 = .ok (.invokespecial 97, 3) := by decide +kernel
theorem dX3_value_29 : decode cX3_value 29 = .ok (.athrow, 1) := by decide +kernel
theorem dX3_value_30 : decode cX3_value 30 = .ok (.aload_n 2, 1) := by decide +kernel
theorem dX3_value_31 : decode cX3_value 31 = .ok (.getfield 100, 3) := by decide +kernel
theorem dX3_value_34 : decode cX3_value 34 = .ok (.iconst 0, 1) := by decide +kernel
theorem dX3_value_35 : decode cX3_value 35 = .ok (.laload, 1) := by decide +kernel
theorem dX3_value_36 : decode cX3_value 36 = .ok (.lreturn, 1) := by decide +kernel
theorem dX3_add_0 : decode cX3_add 0 = .ok (.aload_n 0, 1) := by decide +kernel
theorem dX3_add_1 : decode cX3_add 1 = .ok (.iload_n 1, 1) := by decide +kernel
theorem dX3_add_2 : decode cX3_add 2 = .ok (.iconst 1, 1) := by decide +kernel
theorem dX3_add_3 : decode cX3_add 3 = .ok (.lload_n 2, 1) := by decide +kernel
theorem dX3_add_4 : decode cX3_add 4 = .ok (.invokevirtual 63, 3) := by decide +kernel
theorem dX3_add_7 : decode cX3_add 7 = .ok (.aload_n 0, 1) := by decide +kernel
theorem dX3_add_8 : decode cX3_add 8 = .ok (.iload_n 1, 1) := by decide +kernel
theorem dX3_add_9 : decode cX3_add 9 = .ok (.invokevirtual 67, 3) := by decide +kernel
theorem dX3_add_12 : decode cX3_add 12 = .ok (.astore 4, 2) := by decide +kernel
theorem dX3_add_14 : decode cX3_add 14 = .ok (.aload 4, 2) := by decide +kernel
theorem dX3_add_16 : decode cX3_add 16 = .ok (.getfield 100, 3) := by decide +kernel
theorem dX3_add_19 : decode cX3_add 19 = .ok (.arraylength, 1) := by decide +kernel
theorem dX3_add_20 : decode cX3_add 20 = .ok (.bipush 10, 2) := by decide +kernel
theorem dX3_add_22 : decode cX3_add 22 = .ok (.if_icmp .ge 12, 3) := by decide +kernel
theorem dX3_add_25 : decode cX3_add 25 = .ok (.aload_n 0, 1) := by decide +kernel
theorem dX3_add_26 : decode cX3_add 26 = .ok (.aload 4, 2) := by decide +kernel
theorem dX3_add_28 : decode cX3_add 28 = .ok (.invokevirtual 71, 3) := by decide +kernel
theorem dX3_add_31 : decode cX3_add 31 = .ok (.ifCond .eq 6, 3) := by decide +kernel
theorem dX3_add_34 : decode cX3_add 34 = .ok (.bipush (-4), 2) := by decide +kernel
theorem dX3_add_36 : decode cX3_add 36 = .ok (.ireturn, 1) := by decide +kernel
theorem dX3_add_37 : decode cX3_add 37 = .ok (.aload_n 0, 1) := by decide +kernel
theorem dX3_add_38 : decode cX3_add 38 = .ok (.aload 4, 2) := by decide +kernel
theorem dX3_add_40 : decode cX3_add 40 = .ok (.lload_n 2, 1) := by decide +kernel
theorem dX3_add_41 : decode cX3_add 41 = .ok (.invokevirtual 103, 3) := by decide +kernel
theorem dX3_add_44 : decode cX3_add 44 = .ok (.invokevirtual 81, 3) := by decide +kernel
theorem dX3_add_47 : decode cX3_add 47 = .ok (.aload 4, 2) := by decide +kernel
theorem dX3_add_49 : decode cX3_add 49 = .ok (.getfield 100, 3) := by decide +kernel
theorem dX3_add_52 : decode cX3_add 52 = .ok (.arraylength, 1) := by decide +kernel
theorem dX3_add_53 : decode cX3_add 53 = .ok (.iconst 1, 1) := by decide +kernel
theorem dX3_add_54 : decode cX3_add 54 = .ok (.iadd, 1) := by decide +kernel
theorem dX3_add_55 : decode cX3_add 55 = .ok (.ireturn, 1) := by decide +kernel
theorem dX3_item_0 : decode cX3_item 0 = .ok (.aload_n 0, 1) := by decide +kernel
theorem dX3_item_1 : decode cX3_item 1 = .ok (.iload_n 1, 1) := by decide +kernel
theorem dX3_item_2 : decode cX3_item 2 = .ok (.iconst 1, 1) := by decide +kernel
theorem dX3_item_3 : decode cX3_item 3 = .ok (.iconst 2, 1) := by decide +kernel
theorem dX3_item_4 : decode cX3_item 4 = .ok (.invokevirtual 89, 3) := by decide +kernel
theorem dX3_item_7 : decode cX3_item 7 = .ok (.aload_n 0, 1) := by decide +kernel
theorem dX3_item_8 : decode cX3_item 8 = .ok (.iload_n 1, 1) := by decide +kernel
theorem dX3_item_9 : decode cX3_item 9 = .ok (.invokevirtual 67, 3) := by decide +kernel
theorem dX3_item_12 : decode cX3_item 12 = .ok (.getfield 100, 3) := by decide +kernel
theorem dX3_item_15 : decode cX3_item 15 = .ok (.iload_n 2, 1) := by decide +kernel
theorem dX3_item_16 : decode cX3_item 16 = .ok (.invokestatic 106, 3) := by decide +kernel
theorem dX3_item_19 : decode cX3_item 19 = .ok (.lreturn, 1) := by decide +kernel
theorem dX3_set_0 : decode cX3_set 0 = .ok (.aload_n 0, 1) := by decide +kernel
theorem dX3_set_1 : decode cX3_set 1 = .ok (.iload_n 1, 1) := by decide +kernel
theorem dX3_set_2 : decode cX3_set 2 = .ok (.iconst 2, 1) := by decide +kernel
theorem dX3_set_3 : decode cX3_set 3 = .ok (.lload 4, 2) := by decide +kernel
theorem dX3_set_5 : decode cX3_set 5 = .ok (.invokevirtual 63, 3) := by decide +kernel
theorem dX3_set_8 : decode cX3_set 8 = .ok (.aload_n 0, 1) := by decide +kernel
theorem dX3_set_9 : decode cX3_set 9 = .ok (.iload_n 1, 1) := by decide +kernel
theorem dX3_set_10 : decode cX3_set 10 = .ok (.invokevirtual 67, 3) := by decide +kernel
theorem dX3_set_13 : decode cX3_set 13 = .ok (.astore 6, 2) := by decide +kernel
theorem dX3_set_15 : decode cX3_set 15 = .ok (.aload 6, 2) := by decide +kernel
theorem dX3_set_17 : decode cX3_set 17 = .ok (.lload_n 2, 1) := by decide +kernel
theorem dX3_set_18 : decode cX3_set 18 = .ok (.invokevirtual 110, 3) := by decide +kernel
theorem dX3_set_21 : decode cX3_set 21 = .ok (.istore 7, 2) := by decide +kernel
theorem dX3_set_23 : decode cX3_set 23 = .ok (.aload 6, 2) := by decide +kernel
theorem dX3_set_25 : decode cX3_set 25 = .ok (.iload 7, 2) := by decide +kernel
theorem dX3_set_27 : decode cX3_set 27 = .ok (.lload_n 2, 1) := by decide +kernel
theorem dX3_set_28 : decode cX3_set 28 = .ok (.invokevirtual 114, 3) := by decide +kernel
theorem dX3_set_31 : decode cX3_set 31 = .ok (.ifCond .eq 18, 3) := by decide +kernel
theorem dX3_set_34 : decode cX3_set 34 = .ok (.aload_n 0, 1) := by decide +kernel
theorem dX3_set_35 : decode cX3_set 35 = .ok (.aload 6, 2) := by decide +kernel
theorem dX3_set_37 : decode cX3_set 37 = .ok (.iload 7, 2) := by decide +kernel
theorem dX3_set_39 : decode cX3_set 39 = .ok (.lload 4, 2) := by decide +kernel
theorem dX3_set_41 : decode cX3_set 41 = .ok (.invokevirtual 118, 3) := by decide +kernel
theorem dX3_set_44 : decode cX3_set 44 = .ok (.invokevirtual 81, 3) := by decide +kernel
theorem dX3_set_47 : decode cX3_set 47 = .ok (.iconst 0, 1) := by decide +kernel
theorem dX3_set_48 : decode cX3_set 48 = .ok (.ireturn, 1) := by decide +kernel
theorem dX3_set_49 : decode cX3_set 49 = .ok (.aload 6, 2) := by decide +kernel
theorem dX3_set_51 : decode cX3_set 51 = .ok (.getfield 122, 3) := by decide +kernel
theorem dX3_set_54 : decode cX3_set 54 = .ok (.arraylength, 1) := by decide +kernel
theorem dX3_set_55 : decode cX3_set 55 = .ok (.bipush 10, 2) := by decide +kernel
theorem dX3_set_57 : decode cX3_set 57 = .ok (.if_icmp .ge 12, 3) := by decide +kernel
theorem dX3_set_60 : decode cX3_set 60 = .ok (.aload_n 0, 1) := by decide +kernel
theorem dX3_set_61 : decode cX3_set 61 = .ok (.aload 6, 2) := by decide +kernel
theorem dX3_set_63 : decode cX3_set 63 = .ok (.invokevirtual 71, 3) := by decide +kernel
theorem dX3_set_66 : decode cX3_set 66 = .ok (.ifCond .eq 6, 3) := by decide +kernel
theorem dX3_set_69 : decode cX3_set 69 = .ok (.bipush (-4), 2) := by decide +kernel
theorem dX3_set_71 : decode cX3_set 71 = .ok (.ireturn, 1) := by decide +kernel
theorem dX3_set_72 : decode cX3_set 72 = .ok (.aload_n 0, 1) := by decide +kernel
theorem dX3_set_73 : decode cX3_set 73 = .ok (.aload 6, 2) := by decide +kernel
theorem dX3_set_75 : decode cX3_set 75 = .ok (.iload 7, 2) := by decide +kernel
theorem dX3_set_77 : decode cX3_set 77 = .ok (.lload_n 2, 1) := by decide +kernel
theorem dX3_set_78 : decode cX3_set 78 = .ok (.lload 4, 2) := by decide +kernel
theorem dX3_set_80 : decode cX3_set 80 = .ok (.invokevirtual 125, 3) := by decide +kernel
theorem dX3_set_83 : decode cX3_set 83 = .ok (.invokevirtual 81, 3) := by decide +kernel
theorem dX3_set_86 : decode cX3_set 86 = .ok (.iconst 1, 1) := by decide +kernel
theorem dX3_set_87 : decode cX3_set 87 = .ok (.ireturn, 1) := by decide +kernel
theorem dX3_get_0 : decode cX3_get 0 = .ok (.aload_n 0, 1) := by decide +kernel
theorem dX3_get_1 : decode cX3_get 1 = .ok (.iload_n 1, 1) := by decide +kernel
theorem dX3_get_2 : decode cX3_get 2 = .ok (.iconst 2, 1) := by decide +kernel
theorem dX3_get_3 : decode cX3_get 3 = .ok (.iconst 2, 1) := by decide +kernel
theorem dX3_get_4 : decode cX3_get 4 = .ok (.invokevirtual 89, 3) := by decide +kernel
theorem dX3_get_7 : decode cX3_get 7 = .ok (.aload_n 0, 1) := by decide +kernel
theorem dX3_get_8 : decode cX3_get 8 = .ok (.iload_n 1, 1) := by decide +kernel
theorem dX3_get_9 : decode cX3_get 9 = .ok (.invokevirtual 67, 3) := by decide +kernel
theorem dX3_get_12 : decode cX3_get 12 = .ok (.astore 4, 2) := by decide +kernel
theorem dX3_get_14 : decode cX3_get 14 = .ok (.aload 4, 2) := by decide +kernel
theorem dX3_get_16 : decode cX3_get 16 = .ok (.lload_n 2, 1) := by decide +kernel
theorem dX3_get_17 : decode cX3_get 17 = .ok (.invokevirtual 110, 3) := by decide +kernel
theorem dX3_get_20 : decode cX3_get 20 = .ok (.istore 5, 2) := by decide +kernel
theorem dX3_get_22 : decode cX3_get 22 = .ok (.aload 4, 2) := by decide +kernel
theorem dX3_get_24 : decode cX3_get 24 = .ok (.iload 5, 2) := by decide +kernel
theorem dX3_get_26 : decode cX3_get 26 = .ok (.lload_n 2, 1) := by decide +kernel
theorem dX3_get_27 : decode cX3_get 27 = .ok (.invokevirtual 114, 3) := by decide +kernel
theorem dX3_get_30 : decode cX3_get 30 = .ok (.ifCond .ne 13, 3) := by decide +kernel
theorem dX3_get_33 : decode cX3_get 33 = .ok (.new 93, 3) := by decide +kernel
theorem dX3_get_36 : decode cX3_get 36 = .ok (.dup, 1) := by decide +kernel
theorem dX3_get_37 : decode cX3_get 37 = .ok (.ldc 129, 2) := by decide +kernel
theorem dX3_get_39 : decode cX3_get 39 = .ok (.invokespecial 97, 3) := by decide +kernel
theorem dX3_get_42 : decode cX3_get 42 = .ok (.athrow, 1) := by decide +kernel
theorem dX3_get_43 : decode cX3_get 43 = .ok (.aload 4, 2) := by decide +kernel
theorem dX3_get_45 : decode cX3_get 45 = .ok (.getfield 100, 3) := by decide +kernel
theorem dX3_get_48 : decode cX3_get 48 = .ok (.iload 5, 2) := by decide +kernel
theorem dX3_get_50 : decode cX3_get 50 = .ok (.laload, 1) := by decide +kernel
theorem dX3_get_51 : decode cX3_get 51 = .ok (.lreturn, 1) := by decide +kernel
theorem dX3_member_0 : decode cX3_member 0 = .ok (.aload_n 0, 1) := by decide +kernel
theorem dX3_member_1 : decode cX3_member 1 = .ok (.iload_n 1, 1) := by decide +kernel
theorem dX3_member_2 : decode cX3_member 2 = .ok (.iconst 2, 1) := by decide +kernel
theorem dX3_member_3 : decode cX3_member 3 = .ok (.iconst 2, 1) := by decide +kernel
theorem dX3_member_4 : decode cX3_member 4 = .ok (.invokevirtual 89, 3) := by decide +kernel
theorem dX3_member_7 : decode cX3_member 7 = .ok (.aload_n 0, 1) := by decide +kernel
theorem dX3_member_8 : decode cX3_member 8 = .ok (.iload_n 1, 1) := by decide +kernel
theorem dX3_member_9 : decode cX3_member 9 = .ok (.invokevirtual 67, 3) := by decide +kernel
theorem dX3_member_12 : decode cX3_member 12 = .ok (.getfield 122, 3) := by decide +kernel
theorem dX3_member_15 : decode cX3_member 15 = .ok (.iload_n 2, 1) := by decide +kernel
theorem dX3_member_16 : decode cX3_member 16 = .ok (.invokestatic 106, 3) := by decide +kernel
theorem dX3_member_19 : decode cX3_member 19 = .ok (.lreturn, 1) := by decide +kernel
theorem dX3_remove_0 : decode cX3_remove 0 = .ok (.aload_n 0, 1) := by decide +kernel
theorem dX3_remove_1 : decode cX3_remove 1 = .ok (.iload_n 1, 1) := by decide +kernel
theorem dX3_remove_2 : decode cX3_remove 2 = .ok (.iconst 2, 1) := by decide +kernel
theorem dX3_remove_3 : decode cX3_remove 3 = .ok (.iconst 2, 1) := by decide +kernel
theorem dX3_remove_4 : decode cX3_remove 4 = .ok (.invokevirtual 89, 3) := by decide +kernel
theorem dX3_remove_7 : decode cX3_remove 7 = .ok (.aload_n 0, 1) := by decide +kernel
theorem dX3_remove_8 : decode cX3_remove 8 = .ok (.iload_n 1, 1) := by decide +kernel
theorem dX3_remove_9 : decode cX3_remove 9 = .ok (.invokevirtual 67, 3) := by decide +kernel
theorem dX3_remove_12 : decode cX3_remove 12 = .ok (.astore 4, 2) := by decide +kernel
theorem dX3_remove_14 : decode cX3_remove 14 = .ok (.aload 4, 2) := by decide +kernel
theorem dX3_remove_16 : decode cX3_remove 16 = .ok (.lload_n 2, 1) := by decide +kernel
theorem dX3_remove_17 : decode cX3_remove 17 = .ok (.invokevirtual 110, 3) := by decide +kernel
theorem dX3_remove_20 : decode cX3_remove 20 = .ok (.istore 5, 2) := by decide +kernel
theorem dX3_remove_22 : decode cX3_remove 22 = .ok (.aload 4, 2) := by decide +kernel
theorem dX3_remove_24 : decode cX3_remove 24 = .ok (.iload 5, 2) := by decide +kernel
theorem dX3_remove_26 : decode cX3_remove 26 = .ok (.lload_n 2, 1) := by decide +kernel
theorem dX3_remove_27 : decode cX3_remove 27 = .ok (.invokevirtual 114, 3) := by decide +kernel
theorem dX3_remove_30 : decode cX3_remove 30 = .ok (.ifCond .ne 5, 3) := by decide +kernel
theorem dX3_remove_33 : decode cX3_remove 33 = .ok (.iconst 0, 1) := by decide +kernel
theorem dX3_remove_34 : decode cX3_remove 34 = .ok (.ireturn, 1) := by decide +kernel
theorem dX3_remove_35 : decode cX3_remove 35 = .ok (.aload_n 0, 1) := by decide +kernel
theorem dX3_remove_36 : decode cX3_remove 36 = .ok (.aload 4, 2) := by decide +kernel
theorem dX3_remove_38 : decode cX3_remove 38 = .ok (.iload 5, 2) := by decide +kernel
theorem dX3_remove_40 : decode cX3_remove 40 = .ok (.invokevirtual 131, 3) := by decide +kernel
theorem dX3_remove_43 : decode cX3_remove 43 = .ok (.invokevirtual 81, 3) := by decide +kernel
theorem dX3_remove_46 : decode cX3_remove 46 = .ok (.iconst 1, 1) := by decide +kernel
theorem dX3_remove_47 : decode cX3_remove 47 = .ok (.ireturn, 1) := by decide +kernel
theorem dX3_fold_0 : decode cX3_fold 0 = .ok (.aload_n 0, 1) := by decide +kernel
theorem dX3_fold_1 : decode cX3_fold 1 = .ok (.iload_n 1, 1) := by decide +kernel
theorem dX3_fold_2 : decode cX3_fold 2 = .ok (.iconst 3, 1) := by decide +kernel
theorem dX3_fold_3 : decode cX3_fold 3 = .ok (.lload_n 2, 1) := by decide +kernel
theorem dX3_fold_4 : decode cX3_fold 4 = .ok (.invokevirtual 63, 3) := by decide +kernel
theorem dX3_fold_7 : decode cX3_fold 7 = .ok (.aload_n 0, 1) := by decide +kernel
theorem dX3_fold_8 : decode cX3_fold 8 = .ok (.iload_n 1, 1) := by decide +kernel
theorem dX3_fold_9 : decode cX3_fold 9 = .ok (.invokevirtual 67, 3) := by decide +kernel
theorem dX3_fold_12 : decode cX3_fold 12 = .ok (.astore 4, 2) := by decide +kernel
theorem dX3_fold_14 : decode cX3_fold 14 = .ok (.aload_n 0, 1) := by decide +kernel
theorem dX3_fold_15 : decode cX3_fold 15 = .ok (.aload 4, 2) := by decide +kernel
theorem dX3_fold_17 : decode cX3_fold 17 = .ok (.invokevirtual 71, 3) := by decide +kernel
theorem dX3_fold_20 : decode cX3_fold 20 = .ok (.ifCond .eq 6, 3) := by decide +kernel
theorem dX3_fold_23 : decode cX3_fold 23 = .ok (.bipush (-4), 2) := by decide +kernel
theorem dX3_fold_25 : decode cX3_fold 25 = .ok (.ireturn, 1) := by decide +kernel
theorem dX3_fold_26 : decode cX3_fold 26 = .ok (.aload_n 0, 1) := by decide +kernel
theorem dX3_fold_27 : decode cX3_fold 27 = .ok (.aload 4, 2) := by decide +kernel
theorem dX3_fold_29 : decode cX3_fold 29 = .ok (.aload_n 0, 1) := by decide +kernel
theorem dX3_fold_30 : decode cX3_fold 30 = .ok (.getfield 16, 3) := by decide +kernel
theorem dX3_fold_33 : decode cX3_fold 33 = .ok (.getfield 56, 3) := by decide +kernel
theorem dX3_fold_36 : decode cX3_fold 36 = .ok (.iload_n 1, 1) := by decide +kernel
theorem dX3_fold_37 : decode cX3_fold 37 = .ok (.iaload, 1) := by decide +kernel
theorem dX3_fold_38 : decode cX3_fold 38 = .ok (.lload_n 2, 1) := by decide +kernel
theorem dX3_fold_39 : decode cX3_fold 39 = .ok (.invokevirtual 134, 3) := by decide +kernel
theorem dX3_fold_42 : decode cX3_fold 42 = .ok (.invokevirtual 81, 3) := by decide +kernel
theorem dX3_fold_45 : decode cX3_fold 45 = .ok (.aload 4, 2) := by decide +kernel
theorem dX3_fold_47 : decode cX3_fold 47 = .ok (.getfield 137, 3) := by decide +kernel
theorem dX3_fold_50 : decode cX3_fold 50 = .ok (.iconst 1, 1) := by decide +kernel
theorem dX3_fold_51 : decode cX3_fold 51 = .ok (.iadd, 1) := by decide +kernel
theorem dX3_fold_52 : decode cX3_fold 52 = .ok (.ireturn, 1) := by decide +kernel
theorem dX3_size_0 : decode cX3_size 0 = .ok (.aload_n 0, 1) := by decide +kernel
theorem dX3_size_1 : decode cX3_size 1 = .ok (.iload_n 1, 1) := by decide +kernel
theorem dX3_size_2 : decode cX3_size 2 = .ok (.invokevirtual 140, 3) := by decide +kernel
theorem dX3_size_5 : decode cX3_size 5 = .ok (.aload_n 0, 1) := by decide +kernel
theorem dX3_size_6 : decode cX3_size 6 = .ok (.invokevirtual 144, 3) := by decide +kernel
theorem dX3_size_9 : decode cX3_size 9 = .ok (.aload_n 0, 1) := by decide +kernel
theorem dX3_size_10 : decode cX3_size 10 = .ok (.iload_n 1, 1) := by decide +kernel
theorem dX3_size_11 : decode cX3_size 11 = .ok (.invokevirtual 67, 3) := by decide +kernel
theorem dX3_size_14 : decode cX3_size 14 = .ok (.astore_n 2, 1) := by decide +kernel
theorem dX3_size_15 : decode cX3_size 15 = .ok (.aload_n 0, 1) := by decide +kernel
theorem dX3_size_16 : decode cX3_size 16 = .ok (.getfield 16, 3) := by decide +kernel
theorem dX3_size_19 : decode cX3_size 19 = .ok (.getfield 53, 3) := by decide +kernel
theorem dX3_size_22 : decode cX3_size 22 = .ok (.iload_n 1, 1) := by decide +kernel
theorem dX3_size_23 : decode cX3_size 23 = .ok (.iaload, 1) := by decide +kernel
theorem dX3_size_24 : decode cX3_size 24 = .ok (.iconst 3, 1) := by decide +kernel
theorem dX3_size_25 : decode cX3_size 25 = .ok (.if_icmp .ne 10, 3) := by decide +kernel
theorem dX3_size_28 : decode cX3_size 28 = .ok (.aload_n 2, 1) := by decide +kernel
theorem dX3_size_29 : decode cX3_size 29 = .ok (.getfield 137, 3) := by decide +kernel
theorem dX3_size_32 : decode cX3_size 32 = .ok (.goto 8, 3) := by decide +kernel
theorem dX3_size_35 : decode cX3_size 35 = .ok (.aload_n 2, 1) := by decide +kernel
theorem dX3_size_36 : decode cX3_size 36 = .ok (.getfield 100, 3) := by decide +kernel
theorem dX3_size_39 : decode cX3_size 39 = .ok (.arraylength, 1) := by decide +kernel
theorem dX3_size_40 : decode cX3_size 40 = .ok (.ireturn, 1) := by decide +kernel
theorem dX3_clear_0 : decode cX3_clear 0 = .ok (.aload_n 0, 1) := by decide +kernel
theorem dX3_clear_1 : decode cX3_clear 1 = .ok (.iload_n 1, 1) := by decide +kernel
theorem dX3_clear_2 : decode cX3_clear 2 = .ok (.invokevirtual 140, 3) := by decide +kernel
theorem dX3_clear_5 : decode cX3_clear 5 = .ok (.aload_n 0, 1) := by decide +kernel
theorem dX3_clear_6 : decode cX3_clear 6 = .ok (.invokevirtual 144, 3) := by decide +kernel
theorem dX3_clear_9 : decode cX3_clear 9 = .ok (.aload_n 0, 1) := by decide +kernel
theorem dX3_clear_10 : decode cX3_clear 10 = .ok (.iload_n 1, 1) := by decide +kernel
theorem dX3_clear_11 : decode cX3_clear 11 = .ok (.invokevirtual 67, 3) := by decide +kernel
theorem dX3_clear_14 : decode cX3_clear 14 = .ok (.astore_n 2, 1) := by decide +kernel
theorem dX3_clear_15 : decode cX3_clear 15 = .ok (.aload_n 2, 1) := by decide +kernel
theorem dX3_clear_16 : decode cX3_clear 16 = .ok (.invokevirtual 85, 3) := by decide +kernel
theorem dX3_clear_19 : decode cX3_clear 19 = .ok (.ifCond .eq 5, 3) := by decide +kernel
theorem dX3_clear_22 : decode cX3_clear 22 = .ok (.iconst 0, 1) := by decide +kernel
theorem dX3_clear_23 : decode cX3_clear 23 = .ok (.ireturn, 1) := by decide +kernel
theorem dX3_clear_24 : decode cX3_clear 24 = .ok (.aload_n 0, 1) := by decide +kernel
theorem dX3_clear_25 : decode cX3_clear 25 = .ok (.aload_n 2, 1) := by decide +kernel
theorem dX3_clear_26 : decode cX3_clear 26 = .ok (.invokevirtual 147, 3) := by decide +kernel
theorem dX3_clear_29 : decode cX3_clear 29 = .ok (.invokevirtual 81, 3) := by decide +kernel
theorem dX3_clear_32 : decode cX3_clear 32 = .ok (.iconst 1, 1) := by decide +kernel
theorem dX3_clear_33 : decode cX3_clear 33 = .ok (.ireturn, 1) := by decide +kernel
theorem dX3_clearSpan_0 : decode cX3_clearSpan 0 = .ok (.iconst 0, 1) := by decide +kernel
theorem dX3_clearSpan_1 : decode cX3_clearSpan 1 = .ok (.istore_n 1, 1) := by decide +kernel
theorem dX3_clearSpan_2 : decode cX3_clearSpan 2 = .ok (.iconst 0, 1) := by decide +kernel
theorem dX3_clearSpan_3 : decode cX3_clearSpan 3 = .ok (.istore_n 2, 1) := by decide +kernel
theorem dX3_clearSpan_4 : decode cX3_clearSpan 4 = .ok (.iload_n 2, 1) := by decide +kernel
theorem dX3_clearSpan_5 : decode cX3_clearSpan 5 = .ok (.bipush 16, 2) := by decide +kernel
theorem dX3_clearSpan_7 : decode cX3_clearSpan 7 = .ok (.if_icmp .ge 43, 3) := by decide +kernel
theorem dX3_clearSpan_10 : decode cX3_clearSpan 10 = .ok (.aload_n 0, 1) := by decide +kernel
theorem dX3_clearSpan_11 : decode cX3_clearSpan 11 = .ok (.getfield 16, 3) := by decide +kernel
theorem dX3_clearSpan_14 : decode cX3_clearSpan 14 = .ok (.getfield 151, 3) := by decide +kernel
theorem dX3_clearSpan_17 : decode cX3_clearSpan 17 = .ok (.iload_n 2, 1) := by decide +kernel
theorem dX3_clearSpan_18 : decode cX3_clearSpan 18 = .ok (.aaload, 1) := by decide +kernel
theorem dX3_clearSpan_19 : decode cX3_clearSpan 19 = .ok (.aload_n 0, 1) := by decide +kernel
theorem dX3_clearSpan_20 : decode cX3_clearSpan 20 = .ok (.getfield 43, 3) := by decide +kernel
theorem dX3_clearSpan_23 : decode cX3_clearSpan 23 = .ok (.invokevirtual 155, 3) := by decide +kernel
theorem dX3_clearSpan_26 : decode cX3_clearSpan 26 = .ok (.ifCond .eq 18, 3) := by decide +kernel
theorem dX3_clearSpan_29 : decode cX3_clearSpan 29 = .ok (.iload_n 1, 1) := by decide +kernel
theorem dX3_clearSpan_30 : decode cX3_clearSpan 30 = .ok (.aload_n 0, 1) := by decide +kernel
theorem dX3_clearSpan_31 : decode cX3_clearSpan 31 = .ok (.iload_n 2, 1) := by decide +kernel
theorem dX3_clearSpan_32 : decode cX3_clearSpan 32 = .ok (.invokevirtual 161, 3) := by decide +kernel
theorem dX3_clearSpan_35 : decode cX3_clearSpan 35 = .ok (.aload_n 0, 1) := by decide +kernel
theorem dX3_clearSpan_36 : decode cX3_clearSpan 36 = .ok (.getfield 43, 3) := by decide +kernel
theorem dX3_clearSpan_39 : decode cX3_clearSpan 39 = .ok (.invokevirtual 165, 3) := by decide +kernel
theorem dX3_clearSpan_42 : decode cX3_clearSpan 42 = .ok (.iadd, 1) := by decide +kernel
theorem dX3_clearSpan_43 : decode cX3_clearSpan 43 = .ok (.istore_n 1, 1) := by decide +kernel
theorem dX3_clearSpan_44 : decode cX3_clearSpan 44 = .ok (.iinc 2 1, 3) := by decide +kernel
theorem dX3_clearSpan_47 : decode cX3_clearSpan 47 = .ok (.goto (-43), 3) := by decide +kernel
theorem dX3_clearSpan_50 : decode cX3_clearSpan 50 = .ok (.iload_n 1, 1) := by decide +kernel
theorem dX3_clearSpan_51 : decode cX3_clearSpan 51 = .ok (.ireturn, 1) := by decide +kernel
theorem dX3_keys_0 : decode cX3_keys 0 = .ok (.aload_n 0, 1) := by decide +kernel
theorem dX3_keys_1 : decode cX3_keys 1 = .ok (.iload_n 1, 1) := by decide +kernel
theorem dX3_keys_2 : decode cX3_keys 2 = .ok (.invokevirtual 140, 3) := by decide +kernel
theorem dX3_keys_5 : decode cX3_keys 5 = .ok (.aload_n 0, 1) := by decide +kernel
theorem dX3_keys_6 : decode cX3_keys 6 = .ok (.iload_n 1, 1) := by decide +kernel
theorem dX3_keys_7 : decode cX3_keys 7 = .ok (.invokevirtual 169, 3) := by decide +kernel
theorem dX3_keys_10 : decode cX3_keys 10 = .ok (.ireturn, 1) := by decide +kernel
theorem dX3_keyAt_0 : decode cX3_keyAt 0 = .ok (.aload_n 0, 1) := by decide +kernel
theorem dX3_keyAt_1 : decode cX3_keyAt 1 = .ok (.iload_n 1, 1) := by decide +kernel
theorem dX3_keyAt_2 : decode cX3_keyAt 2 = .ok (.invokevirtual 140, 3) := by decide +kernel
theorem dX3_keyAt_5 : decode cX3_keyAt 5 = .ok (.aload_n 0, 1) := by decide +kernel
theorem dX3_keyAt_6 : decode cX3_keyAt 6 = .ok (.iload_n 1, 1) := by decide +kernel
theorem dX3_keyAt_7 : decode cX3_keyAt 7 = .ok (.invokevirtual 169, 3) := by decide +kernel
theorem dX3_keyAt_10 : decode cX3_keyAt 10 = .ok (.istore_n 3, 1) := by decide +kernel
theorem dX3_keyAt_11 : decode cX3_keyAt 11 = .ok (.iload_n 2, 1) := by decide +kernel
theorem dX3_keyAt_12 : decode cX3_keyAt 12 = .ok (.ifCond .lt 8, 3) := by decide +kernel
theorem dX3_keyAt_15 : decode cX3_keyAt 15 = .ok (.iload_n 2, 1) := by decide +kernel
theorem dX3_keyAt_16 : decode cX3_keyAt 16 = .ok (.iload_n 3, 1) := by decide +kernel
theorem dX3_keyAt_17 : decode cX3_keyAt 17 = .ok (.if_icmp .lt 13, 3) := by decide +kernel
theorem dX3_keyAt_20 : decode cX3_keyAt 20 = .ok (.new 172, 3) := by decide +kernel
theorem dX3_keyAt_23 : decode cX3_keyAt 23 = .ok (.dup, 1) := by decide +kernel
theorem dX3_keyAt_24 : decode cX3_keyAt 24 = .ok (.ldc 174, 2) := by decide +kernel
theorem dX3_keyAt_26 : decode cX3_keyAt 26 = .ok (.invokespecial 176, 3) := by decide +kernel
theorem dX3_keyAt_29 : decode cX3_keyAt 29 = .ok (.athrow, 1) := by decide +kernel
theorem dX3_keyAt_30 : decode cX3_keyAt 30 = .ok (.aload_n 0, 1) := by decide +kernel
theorem dX3_keyAt_31 : decode cX3_keyAt 31 = .ok (.getfield 24, 3) := by decide +kernel
theorem dX3_keyAt_34 : decode cX3_keyAt 34 = .ok (.iload_n 2, 1) := by decide +kernel
theorem dX3_keyAt_35 : decode cX3_keyAt 35 = .ok (.laload, 1) := by decide +kernel
theorem dX3_keyAt_36 : decode cX3_keyAt 36 = .ok (.lreturn, 1) := by decide +kernel
theorem dX3_snapshot_0 : decode cX3_snapshot 0 = .ok (.iconst 0, 1) := by decide +kernel
theorem dX3_snapshot_1 : decode cX3_snapshot 1 = .ok (.istore_n 1, 1) := by decide +kernel
theorem dX3_snapshot_2 : decode cX3_snapshot 2 = .ok (.iload_n 1, 1) := by decide +kernel
theorem dX3_snapshot_3 : decode cX3_snapshot 3 = .ok (.bipush 6, 2) := by decide +kernel
theorem dX3_snapshot_5 : decode cX3_snapshot 5 = .ok (.if_icmp .ge 52, 3) := by decide +kernel
theorem dX3_snapshot_8 : decode cX3_snapshot 8 = .ok (.aload_n 0, 1) := by decide +kernel
theorem dX3_snapshot_9 : decode cX3_snapshot 9 = .ok (.getfield 20, 3) := by decide +kernel
theorem dX3_snapshot_12 : decode cX3_snapshot 12 = .ok (.iload_n 1, 1) := by decide +kernel
theorem dX3_snapshot_13 : decode cX3_snapshot 13 = .ok (.aaload, 1) := by decide +kernel
theorem dX3_snapshot_14 : decode cX3_snapshot 14 = .ok (.ifnonnull 37, 3) := by decide +kernel
theorem dX3_snapshot_17 : decode cX3_snapshot 17 = .ok (.aload_n 0, 1) := by decide +kernel
theorem dX3_snapshot_18 : decode cX3_snapshot 18 = .ok (.getfield 16, 3) := by decide +kernel
theorem dX3_snapshot_21 : decode cX3_snapshot 21 = .ok (.aload_n 0, 1) := by decide +kernel
theorem dX3_snapshot_22 : decode cX3_snapshot 22 = .ok (.getfield 28, 3) := by decide +kernel
theorem dX3_snapshot_25 : decode cX3_snapshot 25 = .ok (.invokevirtual 177, 3) := by decide +kernel
theorem dX3_snapshot_28 : decode cX3_snapshot 28 = .ok (.astore_n 2, 1) := by decide +kernel
theorem dX3_snapshot_29 : decode cX3_snapshot 29 = .ok (.aload_n 0, 1) := by decide +kernel
theorem dX3_snapshot_30 : decode cX3_snapshot 30 = .ok (.getfield 20, 3) := by decide +kernel
theorem dX3_snapshot_33 : decode cX3_snapshot 33 = .ok (.iload_n 1, 1) := by decide +kernel
theorem dX3_snapshot_34 : decode cX3_snapshot 34 = .ok (.aload_n 2, 1) := by decide +kernel
theorem dX3_snapshot_35 : decode cX3_snapshot 35 = .ok (.aastore, 1) := by decide +kernel
theorem dX3_snapshot_36 : decode cX3_snapshot 36 = .ok (.aload_n 0, 1) := by decide +kernel
theorem dX3_snapshot_37 : decode cX3_snapshot 37 = .ok (.dup, 1) := by decide +kernel
theorem dX3_snapshot_38 : decode cX3_snapshot 38 = .ok (.getfield 28, 3) := by decide +kernel
theorem dX3_snapshot_41 : decode cX3_snapshot 41 = .ok (.iconst 1, 1) := by decide +kernel
theorem dX3_snapshot_42 : decode cX3_snapshot 42 = .ok (.iadd, 1) := by decide +kernel
theorem dX3_snapshot_43 : decode cX3_snapshot 43 = .ok (.putfield 28, 3) := by decide +kernel
theorem dX3_snapshot_46 : decode cX3_snapshot 46 = .ok (.aload_n 2, 1) := by decide +kernel
theorem dX3_snapshot_47 : decode cX3_snapshot 47 = .ok (.getfield 181, 3) := by decide +kernel
theorem dX3_snapshot_50 : decode cX3_snapshot 50 = .ok (.ireturn, 1) := by decide +kernel
theorem dX3_snapshot_51 : decode cX3_snapshot 51 = .ok (.iinc 1 1, 3) := by decide +kernel
theorem dX3_snapshot_54 : decode cX3_snapshot 54 = .ok (.goto (-52), 3) := by decide +kernel
theorem dX3_snapshot_57 : decode cX3_snapshot 57 = .ok (.bipush (-4), 2) := by decide +kernel
theorem dX3_snapshot_59 : decode cX3_snapshot 59 = .ok (.ireturn, 1) := by decide +kernel
theorem dX3_drop_0 : decode cX3_drop 0 = .ok (.aload_n 0, 1) := by decide +kernel
theorem dX3_drop_1 : decode cX3_drop 1 = .ok (.iload_n 1, 1) := by decide +kernel
theorem dX3_drop_2 : decode cX3_drop 2 = .ok (.invokevirtual 184, 3) := by decide +kernel
theorem dX3_drop_5 : decode cX3_drop 5 = .ok (.istore_n 2, 1) := by decide +kernel
theorem dX3_drop_6 : decode cX3_drop 6 = .ok (.aload_n 0, 1) := by decide +kernel
theorem dX3_drop_7 : decode cX3_drop 7 = .ok (.iload_n 2, 1) := by decide +kernel
theorem dX3_drop_8 : decode cX3_drop 8 = .ok (.invokevirtual 187, 3) := by decide +kernel
theorem dX3_drop_11 : decode cX3_drop 11 = .ok (.invokevirtual 190, 3) := by decide +kernel
theorem dX3_drop_14 : decode cX3_drop 14 = .ok (.aload_n 0, 1) := by decide +kernel
theorem dX3_drop_15 : decode cX3_drop 15 = .ok (.getfield 20, 3) := by decide +kernel
theorem dX3_drop_18 : decode cX3_drop 18 = .ok (.iload_n 2, 1) := by decide +kernel
theorem dX3_drop_19 : decode cX3_drop 19 = .ok (.aconst_null, 1) := by decide +kernel
theorem dX3_drop_20 : decode cX3_drop 20 = .ok (.aastore, 1) := by decide +kernel
theorem dX3_drop_21 : decode cX3_drop 21 = .ok (.aload_n 0, 1) := by decide +kernel
theorem dX3_drop_22 : decode cX3_drop 22 = .ok (.getfield 16, 3) := by decide +kernel
theorem dX3_drop_25 : decode cX3_drop 25 = .ok (.invokevirtual 193, 3) := by decide +kernel
theorem dX3_drop_28 : decode cX3_drop 28 = .ok (.ireturn, 1) := by decide +kernel
theorem dX3_ask_0 : decode cX3_ask 0 = .ok (.aload_n 0, 1) := by decide +kernel
theorem dX3_ask_1 : decode cX3_ask 1 = .ok (.iload_n 1, 1) := by decide +kernel
theorem dX3_ask_2 : decode cX3_ask 2 = .ok (.invokevirtual 197, 3) := by decide +kernel
theorem dX3_ask_5 : decode cX3_ask 5 = .ok (.astore 7, 2) := by decide +kernel
theorem dX3_ask_7 : decode cX3_ask 7 = .ok (.aload_n 0, 1) := by decide +kernel
theorem dX3_ask_8 : decode cX3_ask 8 = .ok (.iload_n 2, 1) := by decide +kernel
theorem dX3_ask_9 : decode cX3_ask 9 = .ok (.invokevirtual 140, 3) := by decide +kernel
theorem dX3_ask_12 : decode cX3_ask 12 = .ok (.aload 7, 2) := by decide +kernel
theorem dX3_ask_14 : decode cX3_ask 14 = .ok (.iload_n 2, 1) := by decide +kernel
theorem dX3_ask_15 : decode cX3_ask 15 = .ok (.lload_n 3, 1) := by decide +kernel
theorem dX3_ask_16 : decode cX3_ask 16 = .ok (.iload 5, 2) := by decide +kernel
theorem dX3_ask_18 : decode cX3_ask 18 = .ok (.invokevirtual 200, 3) := by decide +kernel
theorem dX3_ask_21 : decode cX3_ask 21 = .ok (.getfield 100, 3) := by decide +kernel
theorem dX3_ask_24 : decode cX3_ask 24 = .ok (.astore 8, 2) := by decide +kernel
theorem dX3_ask_26 : decode cX3_ask 26 = .ok (.iload 6, 2) := by decide +kernel
theorem dX3_ask_28 : decode cX3_ask 28 = .ok (.ifCond .lt 11, 3) := by decide +kernel
theorem dX3_ask_31 : decode cX3_ask 31 = .ok (.iload 6, 2) := by decide +kernel
theorem dX3_ask_33 : decode cX3_ask 33 = .ok (.aload 8, 2) := by decide +kernel
theorem dX3_ask_35 : decode cX3_ask 35 = .ok (.arraylength, 1) := by decide +kernel
theorem dX3_ask_36 : decode cX3_ask 36 = .ok (.if_icmp .lt 13, 3) := by decide +kernel
theorem dX3_ask_39 : decode cX3_ask 39 = .ok (.new 93, 3) := by decide +kernel
theorem dX3_ask_42 : decode cX3_ask 42 = .ok (.dup, 1) := by decide +kernel
theorem dX3_ask_43 : decode cX3_ask 43 = .ok (.ldc 204, 2) := by decide +kernel
theorem dX3_ask_45 : decode cX3_ask 45 = .ok (.invokespecial 97, 3) := by decide +kernel
theorem dX3_ask_48 : decode cX3_ask 48 = .ok (.athrow, 1) := by decide +kernel
theorem dX3_ask_49 : decode cX3_ask 49 = .ok (.aload 8, 2) := by decide +kernel
theorem dX3_ask_51 : decode cX3_ask 51 = .ok (.iload 6, 2) := by decide +kernel
theorem dX3_ask_53 : decode cX3_ask 53 = .ok (.laload, 1) := by decide +kernel
theorem dX3_ask_54 : decode cX3_ask 54 = .ok (.lreturn, 1) := by decide +kernel
theorem dX3_entries_0 : decode cX3_entries 0 = .ok (.aload_n 0, 1) := by decide +kernel
theorem dX3_entries_1 : decode cX3_entries 1 = .ok (.iload_n 1, 1) := by decide +kernel
theorem dX3_entries_2 : decode cX3_entries 2 = .ok (.invokevirtual 197, 3) := by decide +kernel
theorem dX3_entries_5 : decode cX3_entries 5 = .ok (.astore_n 3, 1) := by decide +kernel
theorem dX3_entries_6 : decode cX3_entries 6 = .ok (.aload_n 0, 1) := by decide +kernel
theorem dX3_entries_7 : decode cX3_entries 7 = .ok (.iload_n 2, 1) := by decide +kernel
theorem dX3_entries_8 : decode cX3_entries 8 = .ok (.invokevirtual 140, 3) := by decide +kernel
theorem dX3_entries_11 : decode cX3_entries 11 = .ok (.aload_n 3, 1) := by decide +kernel
theorem dX3_entries_12 : decode cX3_entries 12 = .ok (.iload_n 2, 1) := by decide +kernel
theorem dX3_entries_13 : decode cX3_entries 13 = .ok (.invokevirtual 206, 3) := by decide +kernel
theorem dX3_entries_16 : decode cX3_entries 16 = .ok (.ireturn, 1) := by decide +kernel
theorem dX3_restore_0 : decode cX3_restore 0 = .ok (.aload_n 0, 1) := by decide +kernel
theorem dX3_restore_1 : decode cX3_restore 1 = .ok (.getfield 16, 3) := by decide +kernel
theorem dX3_restore_4 : decode cX3_restore 4 = .ok (.aload_n 0, 1) := by decide +kernel
theorem dX3_restore_5 : decode cX3_restore 5 = .ok (.aload_n 0, 1) := by decide +kernel
theorem dX3_restore_6 : decode cX3_restore 6 = .ok (.iload_n 1, 1) := by decide +kernel
theorem dX3_restore_7 : decode cX3_restore 7 = .ok (.invokevirtual 184, 3) := by decide +kernel
theorem dX3_restore_10 : decode cX3_restore 10 = .ok (.invokevirtual 187, 3) := by decide +kernel
theorem dX3_restore_13 : decode cX3_restore 13 = .ok (.invokevirtual 209, 3) := by decide +kernel
theorem dX3_restore_16 : decode cX3_restore 16 = .ok (.aload_n 0, 1) := by decide +kernel
theorem dX3_restore_17 : decode cX3_restore 17 = .ok (.getfield 16, 3) := by decide +kernel
theorem dX3_restore_20 : decode cX3_restore 20 = .ok (.invokevirtual 213, 3) := by decide +kernel
theorem dX3_restore_23 : decode cX3_restore 23 = .ok (.ireturn, 1) := by decide +kernel
theorem dX3_move_0 : decode cX3_move 0 = .ok (.aload_n 0, 1) := by decide +kernel
theorem dX3_move_1 : decode cX3_move 1 = .ok (.iload_n 1, 1) := by decide +kernel
theorem dX3_move_2 : decode cX3_move 2 = .ok (.invokevirtual 140, 3) := by decide +kernel
theorem dX3_move_5 : decode cX3_move 5 = .ok (.iload_n 2, 1) := by decide +kernel
theorem dX3_move_6 : decode cX3_move 6 = .ok (.iload_n 3, 1) := by decide +kernel
theorem dX3_move_7 : decode cX3_move 7 = .ok (.invokestatic 46, 3) := by decide +kernel
theorem dX3_move_10 : decode cX3_move 10 = .ok (.ifCond .ne 5, 3) := by decide +kernel
theorem dX3_move_13 : decode cX3_move 13 = .ok (.iconst (-1), 1) := by decide +kernel
theorem dX3_move_14 : decode cX3_move 14 = .ok (.ireturn, 1) := by decide +kernel
theorem dX3_move_15 : decode cX3_move 15 = .ok (.aload_n 0, 1) := by decide +kernel
theorem dX3_move_16 : decode cX3_move 16 = .ok (.getfield 16, 3) := by decide +kernel
theorem dX3_move_19 : decode cX3_move 19 = .ok (.getfield 53, 3) := by decide +kernel
theorem dX3_move_22 : decode cX3_move 22 = .ok (.iload_n 1, 1) := by decide +kernel
theorem dX3_move_23 : decode cX3_move 23 = .ok (.iaload, 1) := by decide +kernel
theorem dX3_move_24 : decode cX3_move 24 = .ok (.iload_n 2, 1) := by decide +kernel
theorem dX3_move_25 : decode cX3_move 25 = .ok (.invokestatic 216, 3) := by decide +kernel
theorem dX3_move_28 : decode cX3_move 28 = .ok (.ifCond .eq 16, 3) := by decide +kernel
theorem dX3_move_31 : decode cX3_move 31 = .ok (.aload_n 0, 1) := by decide +kernel
theorem dX3_move_32 : decode cX3_move 32 = .ok (.getfield 16, 3) := by decide +kernel
theorem dX3_move_35 : decode cX3_move 35 = .ok (.iload_n 1, 1) := by decide +kernel
theorem dX3_move_36 : decode cX3_move 36 = .ok (.iload_n 2, 1) := by decide +kernel
theorem dX3_move_37 : decode cX3_move 37 = .ok (.iload_n 3, 1) := by decide +kernel
theorem dX3_move_38 : decode cX3_move 38 = .ok (.invokevirtual 219, 3) := by decide +kernel
theorem dX3_move_41 : decode cX3_move 41 = .ok (.ifCond .ne 6, 3) := by decide +kernel
theorem dX3_move_44 : decode cX3_move 44 = .ok (.bipush (-3), 2) := by decide +kernel
theorem dX3_move_46 : decode cX3_move 46 = .ok (.ireturn, 1) := by decide +kernel
theorem dX3_move_47 : decode cX3_move 47 = .ok (.iconst 0, 1) := by decide +kernel
theorem dX3_move_48 : decode cX3_move 48 = .ok (.istore 4, 2) := by decide +kernel
theorem dX3_move_50 : decode cX3_move 50 = .ok (.iconst 0, 1) := by decide +kernel
theorem dX3_move_51 : decode cX3_move 51 = .ok (.istore 5, 2) := by decide +kernel
theorem dX3_move_53 : decode cX3_move 53 = .ok (.iload 5, 2) := by decide +kernel
theorem dX3_move_55 : decode cX3_move 55 = .ok (.bipush 16, 2) := by decide +kernel
theorem dX3_move_57 : decode cX3_move 57 = .ok (.if_icmp .ge 43, 3) := by decide +kernel
theorem dX3_move_60 : decode cX3_move 60 = .ok (.aload_n 0, 1) := by decide +kernel
theorem dX3_move_61 : decode cX3_move 61 = .ok (.getfield 16, 3) := by decide +kernel
theorem dX3_move_64 : decode cX3_move 64 = .ok (.getfield 151, 3) := by decide +kernel
theorem dX3_move_67 : decode cX3_move 67 = .ok (.iload 5, 2) := by decide +kernel
theorem dX3_move_69 : decode cX3_move 69 = .ok (.aaload, 1) := by decide +kernel
theorem dX3_move_70 : decode cX3_move 70 = .ok (.iload_n 1, 1) := by decide +kernel
theorem dX3_move_71 : decode cX3_move 71 = .ok (.invokevirtual 223, 3) := by decide +kernel
theorem dX3_move_74 : decode cX3_move 74 = .ok (.ifCond .le 20, 3) := by decide +kernel
theorem dX3_move_77 : decode cX3_move 77 = .ok (.iload 4, 2) := by decide +kernel
theorem dX3_move_79 : decode cX3_move 79 = .ok (.aload_n 0, 1) := by decide +kernel
theorem dX3_move_80 : decode cX3_move 80 = .ok (.iload 5, 2) := by decide +kernel
theorem dX3_move_82 : decode cX3_move 82 = .ok (.invokevirtual 161, 3) := by decide +kernel
theorem dX3_move_85 : decode cX3_move 85 = .ok (.iload_n 1, 1) := by decide +kernel
theorem dX3_move_86 : decode cX3_move 86 = .ok (.iload_n 2, 1) := by decide +kernel
theorem dX3_move_87 : decode cX3_move 87 = .ok (.iload_n 3, 1) := by decide +kernel
theorem dX3_move_88 : decode cX3_move 88 = .ok (.invokevirtual 224, 3) := by decide +kernel
theorem dX3_move_91 : decode cX3_move 91 = .ok (.iadd, 1) := by decide +kernel
theorem dX3_move_92 : decode cX3_move 92 = .ok (.istore 4, 2) := by decide +kernel
theorem dX3_move_94 : decode cX3_move 94 = .ok (.iinc 5 1, 3) := by decide +kernel
theorem dX3_move_97 : decode cX3_move 97 = .ok (.goto (-44), 3) := by decide +kernel
theorem dX3_move_100 : decode cX3_move 100 = .ok (.aload_n 0, 1) := by decide +kernel
theorem dX3_move_101 : decode cX3_move 101 = .ok (.getfield 16, 3) := by decide +kernel
theorem dX3_move_104 : decode cX3_move 104 = .ok (.getfield 53, 3) := by decide +kernel
theorem dX3_move_107 : decode cX3_move 107 = .ok (.iload_n 1, 1) := by decide +kernel
theorem dX3_move_108 : decode cX3_move 108 = .ok (.iload_n 2, 1) := by decide +kernel
theorem dX3_move_109 : decode cX3_move 109 = .ok (.iastore, 1) := by decide +kernel
theorem dX3_move_110 : decode cX3_move 110 = .ok (.aload_n 0, 1) := by decide +kernel
theorem dX3_move_111 : decode cX3_move 111 = .ok (.getfield 16, 3) := by decide +kernel
theorem dX3_move_114 : decode cX3_move 114 = .ok (.getfield 56, 3) := by decide +kernel
theorem dX3_move_117 : decode cX3_move 117 = .ok (.iload_n 1, 1) := by decide +kernel
theorem dX3_move_118 : decode cX3_move 118 = .ok (.iload_n 3, 1) := by decide +kernel
theorem dX3_move_119 : decode cX3_move 119 = .ok (.iastore, 1) := by decide +kernel
theorem dX3_move_120 : decode cX3_move 120 = .ok (.iload 4, 2) := by decide +kernel
theorem dX3_move_122 : decode cX3_move 122 = .ok (.ireturn, 1) := by decide +kernel
theorem dX3_of_0 : decode cX3_of 0 = .ok (.aload_n 0, 1) := by decide +kernel
theorem dX3_of_1 : decode cX3_of 1 = .ok (.iload_n 1, 1) := by decide +kernel
theorem dX3_of_2 : decode cX3_of 2 = .ok (.invokevirtual 140, 3) := by decide +kernel
theorem dX3_of_5 : decode cX3_of 5 = .ok (.iload_n 2, 1) := by decide +kernel
theorem dX3_of_6 : decode cX3_of 6 = .ok (.tableswitch 53 0 2 #[26, 33, 43], 26) := by decide +kernel
theorem dX3_of_32 : decode cX3_of 32 = .ok (.aload_n 0, 1) := by decide +kernel
theorem dX3_of_33 : decode cX3_of 33 = .ok (.getfield 9, 3) := by decide +kernel
theorem dX3_of_36 : decode cX3_of 36 = .ok (.iload_n 1, 1) := by decide +kernel
theorem dX3_of_37 : decode cX3_of 37 = .ok (.iaload, 1) := by decide +kernel
theorem dX3_of_38 : decode cX3_of 38 = .ok (.ireturn, 1) := by decide +kernel
theorem dX3_of_39 : decode cX3_of 39 = .ok (.aload_n 0, 1) := by decide +kernel
theorem dX3_of_40 : decode cX3_of 40 = .ok (.getfield 16, 3) := by decide +kernel
theorem dX3_of_43 : decode cX3_of 43 = .ok (.getfield 53, 3) := by decide +kernel
theorem dX3_of_46 : decode cX3_of 46 = .ok (.iload_n 1, 1) := by decide +kernel
theorem dX3_of_47 : decode cX3_of 47 = .ok (.iaload, 1) := by decide +kernel
theorem dX3_of_48 : decode cX3_of 48 = .ok (.ireturn, 1) := by decide +kernel
theorem dX3_of_49 : decode cX3_of 49 = .ok (.aload_n 0, 1) := by decide +kernel
theorem dX3_of_50 : decode cX3_of 50 = .ok (.getfield 16, 3) := by decide +kernel
theorem dX3_of_53 : decode cX3_of 53 = .ok (.getfield 56, 3) := by decide +kernel
theorem dX3_of_56 : decode cX3_of 56 = .ok (.iload_n 1, 1) := by decide +kernel
theorem dX3_of_57 : decode cX3_of 57 = .ok (.iaload, 1) := by decide +kernel
theorem dX3_of_58 : decode cX3_of 58 = .ok (.ireturn, 1) := by decide +kernel
theorem dX3_of_59 : decode cX3_of 59 = .ok (.new 172, 3) := by decide +kernel
theorem dX3_of_62 : decode cX3_of 62 = .ok (.dup, 1) := by decide +kernel
theorem dX3_of_63 : decode cX3_of 63 = .ok (.ldc 228, 2) := by decide +kernel
theorem dX3_of_65 : decode cX3_of 65 = .ok (.invokespecial 176, 3) := by decide +kernel
theorem dX3_of_68 : decode cX3_of 68 = .ok (.athrow, 1) := by decide +kernel
theorem dX3_told_0 : decode cX3_told 0 = .ok (.iload_n 1, 1) := by decide +kernel
theorem dX3_told_1 : decode cX3_told 1 = .ok (.tableswitch 93 0 6 #[43, 51, 59, 64, 72, 77, 85], 43) := by decide +kernel
theorem dX3_told_44 : decode cX3_told 44 = .ok (.aload_n 0, 1) := by decide +kernel
theorem dX3_told_45 : decode cX3_told 45 = .ok (.getfield 16, 3) := by decide +kernel
theorem dX3_told_48 : decode cX3_told 48 = .ok (.getfield 50, 3) := by decide +kernel
theorem dX3_told_51 : decode cX3_told 51 = .ok (.ireturn, 1) := by decide +kernel
theorem dX3_told_52 : decode cX3_told 52 = .ok (.aload_n 0, 1) := by decide +kernel
theorem dX3_told_53 : decode cX3_told 53 = .ok (.getfield 16, 3) := by decide +kernel
theorem dX3_told_56 : decode cX3_told 56 = .ok (.invokevirtual 213, 3) := by decide +kernel
theorem dX3_told_59 : decode cX3_told 59 = .ok (.ireturn, 1) := by decide +kernel
theorem dX3_told_60 : decode cX3_told 60 = .ok (.aload_n 0, 1) := by decide +kernel
theorem dX3_told_61 : decode cX3_told 61 = .ok (.invokevirtual 230, 3) := by decide +kernel
theorem dX3_told_64 : decode cX3_told 64 = .ok (.ireturn, 1) := by decide +kernel
theorem dX3_told_65 : decode cX3_told 65 = .ok (.aload_n 0, 1) := by decide +kernel
theorem dX3_told_66 : decode cX3_told 66 = .ok (.getfield 16, 3) := by decide +kernel
theorem dX3_told_69 : decode cX3_told 69 = .ok (.invokevirtual 193, 3) := by decide +kernel
theorem dX3_told_72 : decode cX3_told 72 = .ok (.ireturn, 1) := by decide +kernel
theorem dX3_told_73 : decode cX3_told 73 = .ok (.aload_n 0, 1) := by decide +kernel
theorem dX3_told_74 : decode cX3_told 74 = .ok (.getfield 32, 3) := by decide +kernel
theorem dX3_told_77 : decode cX3_told 77 = .ok (.ireturn, 1) := by decide +kernel
theorem dX3_told_78 : decode cX3_told 78 = .ok (.aload_n 0, 1) := by decide +kernel
theorem dX3_told_79 : decode cX3_told 79 = .ok (.getfield 16, 3) := by decide +kernel
theorem dX3_told_82 : decode cX3_told 82 = .ok (.invokevirtual 233, 3) := by decide +kernel
theorem dX3_told_85 : decode cX3_told 85 = .ok (.ireturn, 1) := by decide +kernel
theorem dX3_told_86 : decode cX3_told 86 = .ok (.aload_n 0, 1) := by decide +kernel
theorem dX3_told_87 : decode cX3_told 87 = .ok (.getfield 16, 3) := by decide +kernel
theorem dX3_told_90 : decode cX3_told 90 = .ok (.invokevirtual 236, 3) := by decide +kernel
theorem dX3_told_93 : decode cX3_told 93 = .ok (.ireturn, 1) := by decide +kernel
theorem dX3_told_94 : decode cX3_told 94 = .ok (.iconst (-1), 1) := by decide +kernel
theorem dX3_told_95 : decode cX3_told 95 = .ok (.ireturn, 1) := by decide +kernel
theorem dX3_needState_0 : decode cX3_needState 0 = .ok (.iload_n 1, 1) := by decide +kernel
theorem dX3_needState_1 : decode cX3_needState 1 = .ok (.ifCond .lt 14, 3) := by decide +kernel
theorem dX3_needState_4 : decode cX3_needState 4 = .ok (.iload_n 1, 1) := by decide +kernel
theorem dX3_needState_5 : decode cX3_needState 5 = .ok (.aload_n 0, 1) := by decide +kernel
theorem dX3_needState_6 : decode cX3_needState 6 = .ok (.getfield 16, 3) := by decide +kernel
theorem dX3_needState_9 : decode cX3_needState 9 = .ok (.getfield 50, 3) := by decide +kernel
theorem dX3_needState_12 : decode cX3_needState 12 = .ok (.if_icmp .lt 13, 3) := by decide +kernel
theorem dX3_needState_15 : decode cX3_needState 15 = .ok (.new 172, 3) := by decide +kernel
theorem dX3_needState_18 : decode cX3_needState 18 = .ok (.dup, 1) := by decide +kernel
theorem dX3_needState_19 : decode cX3_needState 19 = .ok (.ldc 239, 2) := by decide +kernel
theorem dX3_needState_21 : decode cX3_needState 21 = .ok (.invokespecial 176, 3) := by decide +kernel
theorem dX3_needState_24 : decode cX3_needState 24 = .ok (.athrow, 1) := by decide +kernel
theorem dX3_needState_25 : decode cX3_needState 25 = .ok (.return_, 1) := by decide +kernel
theorem dX3_needKey_0 : decode cX3_needKey 0 = .ok (.aload_n 0, 1) := by decide +kernel
theorem dX3_needKey_1 : decode cX3_needKey 1 = .ok (.getfield 35, 3) := by decide +kernel
theorem dX3_needKey_4 : decode cX3_needKey 4 = .ok (.ifCond .ne 13, 3) := by decide +kernel
theorem dX3_needKey_7 : decode cX3_needKey 7 = .ok (.new 241, 3) := by decide +kernel
theorem dX3_needKey_10 : decode cX3_needKey 10 = .ok (.dup, 1) := by decide +kernel
theorem dX3_needKey_11 : decode cX3_needKey 11 = .ok (.ldc 243, 2) := by decide +kernel
theorem dX3_needKey_13 : decode cX3_needKey 13 = .ok (.invokespecial 245, 3) := by decide +kernel
theorem dX3_needKey_16 : decode cX3_needKey 16 = .ok (.athrow, 1) := by decide +kernel
theorem dX3_needKey_17 : decode cX3_needKey 17 = .ok (.return_, 1) := by decide +kernel
theorem dX3_needToWrite_0 : decode cX3_needToWrite 0 = .ok (.aload_n 0, 1) := by decide +kernel
theorem dX3_needToWrite_1 : decode cX3_needToWrite 1 = .ok (.iload_n 1, 1) := by decide +kernel
theorem dX3_needToWrite_2 : decode cX3_needToWrite 2 = .ok (.invokevirtual 140, 3) := by decide +kernel
theorem dX3_needToWrite_5 : decode cX3_needToWrite 5 = .ok (.aload_n 0, 1) := by decide +kernel
theorem dX3_needToWrite_6 : decode cX3_needToWrite 6 = .ok (.getfield 16, 3) := by decide +kernel
theorem dX3_needToWrite_9 : decode cX3_needToWrite 9 = .ok (.getfield 53, 3) := by decide +kernel
theorem dX3_needToWrite_12 : decode cX3_needToWrite 12 = .ok (.iload_n 1, 1) := by decide +kernel
theorem dX3_needToWrite_13 : decode cX3_needToWrite 13 = .ok (.iaload, 1) := by decide +kernel
theorem dX3_needToWrite_14 : decode cX3_needToWrite 14 = .ok (.iload_n 2, 1) := by decide +kernel
theorem dX3_needToWrite_15 : decode cX3_needToWrite 15 = .ok (.if_icmp .eq 13, 3) := by decide +kernel
theorem dX3_needToWrite_18 : decode cX3_needToWrite 18 = .ok (.new 246, 3) := by decide +kernel
theorem dX3_needToWrite_21 : decode cX3_needToWrite 21 = .ok (.dup, 1) := by decide +kernel
theorem dX3_needToWrite_22 : decode cX3_needToWrite 22 = .ok (.ldc 248, 2) := by decide +kernel
theorem dX3_needToWrite_24 : decode cX3_needToWrite 24 = .ok (.invokespecial 250, 3) := by decide +kernel
theorem dX3_needToWrite_27 : decode cX3_needToWrite 27 = .ok (.athrow, 1) := by decide +kernel
theorem dX3_needToWrite_28 : decode cX3_needToWrite 28 = .ok (.iload_n 2, 1) := by decide +kernel
theorem dX3_needToWrite_29 : decode cX3_needToWrite 29 = .ok (.aload_n 0, 1) := by decide +kernel
theorem dX3_needToWrite_30 : decode cX3_needToWrite 30 = .ok (.getfield 16, 3) := by decide +kernel
theorem dX3_needToWrite_33 : decode cX3_needToWrite 33 = .ok (.getfield 56, 3) := by decide +kernel
theorem dX3_needToWrite_36 : decode cX3_needToWrite 36 = .ok (.iload_n 1, 1) := by decide +kernel
theorem dX3_needToWrite_37 : decode cX3_needToWrite 37 = .ok (.iaload, 1) := by decide +kernel
theorem dX3_needToWrite_38 : decode cX3_needToWrite 38 = .ok (.lload_n 3, 1) := by decide +kernel
theorem dX3_needToWrite_39 : decode cX3_needToWrite 39 = .ok (.invokestatic 251, 3) := by decide +kernel
theorem dX3_needToWrite_42 : decode cX3_needToWrite 42 = .ok (.ifCond .ne 13, 3) := by decide +kernel
theorem dX3_needToWrite_45 : decode cX3_needToWrite 45 = .ok (.new 246, 3) := by decide +kernel
theorem dX3_needToWrite_48 : decode cX3_needToWrite 48 = .ok (.dup, 1) := by decide +kernel
theorem dX3_needToWrite_49 : decode cX3_needToWrite 49 = .ok (.ldc 255, 2) := by decide +kernel
theorem dX3_needToWrite_51 : decode cX3_needToWrite 51 = .ok (.invokespecial 250, 3) := by decide +kernel
theorem dX3_needToWrite_54 : decode cX3_needToWrite 54 = .ok (.athrow, 1) := by decide +kernel
theorem dX3_needToWrite_55 : decode cX3_needToWrite 55 = .ok (.aload_n 0, 1) := by decide +kernel
theorem dX3_needToWrite_56 : decode cX3_needToWrite 56 = .ok (.invokevirtual 144, 3) := by decide +kernel
theorem dX3_needToWrite_59 : decode cX3_needToWrite 59 = .ok (.return_, 1) := by decide +kernel
theorem dX3_needToRead_0 : decode cX3_needToRead 0 = .ok (.aload_n 0, 1) := by decide +kernel
theorem dX3_needToRead_1 : decode cX3_needToRead 1 = .ok (.iload_n 1, 1) := by decide +kernel
theorem dX3_needToRead_2 : decode cX3_needToRead 2 = .ok (.invokevirtual 140, 3) := by decide +kernel
theorem dX3_needToRead_5 : decode cX3_needToRead 5 = .ok (.aload_n 0, 1) := by decide +kernel
theorem dX3_needToRead_6 : decode cX3_needToRead 6 = .ok (.getfield 16, 3) := by decide +kernel
theorem dX3_needToRead_9 : decode cX3_needToRead 9 = .ok (.getfield 53, 3) := by decide +kernel
theorem dX3_needToRead_12 : decode cX3_needToRead 12 = .ok (.iload_n 1, 1) := by decide +kernel
theorem dX3_needToRead_13 : decode cX3_needToRead 13 = .ok (.iaload, 1) := by decide +kernel
theorem dX3_needToRead_14 : decode cX3_needToRead 14 = .ok (.iload_n 2, 1) := by decide +kernel
theorem dX3_needToRead_15 : decode cX3_needToRead 15 = .ok (.if_icmp .eq 26, 3) := by decide +kernel
theorem dX3_needToRead_18 : decode cX3_needToRead 18 = .ok (.aload_n 0, 1) := by decide +kernel
theorem dX3_needToRead_19 : decode cX3_needToRead 19 = .ok (.getfield 16, 3) := by decide +kernel
theorem dX3_needToRead_22 : decode cX3_needToRead 22 = .ok (.getfield 53, 3) := by decide +kernel
theorem dX3_needToRead_25 : decode cX3_needToRead 25 = .ok (.iload_n 1, 1) := by decide +kernel
theorem dX3_needToRead_26 : decode cX3_needToRead 26 = .ok (.iaload, 1) := by decide +kernel
theorem dX3_needToRead_27 : decode cX3_needToRead 27 = .ok (.iload_n 3, 1) := by decide +kernel
theorem dX3_needToRead_28 : decode cX3_needToRead 28 = .ok (.if_icmp .eq 13, 3) := by decide +kernel
theorem dX3_needToRead_31 : decode cX3_needToRead 31 = .ok (.new 246, 3) := by decide +kernel
theorem dX3_needToRead_34 : decode cX3_needToRead 34 = .ok (.dup, 1) := by decide +kernel
theorem dX3_needToRead_35 : decode cX3_needToRead 35 = .ok (.ldc 248, 2) := by decide +kernel
theorem dX3_needToRead_37 : decode cX3_needToRead 37 = .ok (.invokespecial 250, 3) := by decide +kernel
theorem dX3_needToRead_40 : decode cX3_needToRead 40 = .ok (.athrow, 1) := by decide +kernel
theorem dX3_needToRead_41 : decode cX3_needToRead 41 = .ok (.aload_n 0, 1) := by decide +kernel
theorem dX3_needToRead_42 : decode cX3_needToRead 42 = .ok (.invokevirtual 144, 3) := by decide +kernel
theorem dX3_needToRead_45 : decode cX3_needToRead 45 = .ok (.return_, 1) := by decide +kernel
theorem dX3_entryAtHand_0 : decode cX3_entryAtHand 0 = .ok (.aload_n 0, 1) := by decide +kernel
theorem dX3_entryAtHand_1 : decode cX3_entryAtHand 1 = .ok (.getfield 16, 3) := by decide +kernel
theorem dX3_entryAtHand_4 : decode cX3_entryAtHand 4 = .ok (.iload_n 1, 1) := by decide +kernel
theorem dX3_entryAtHand_5 : decode cX3_entryAtHand 5 = .ok (.aload_n 0, 1) := by decide +kernel
theorem dX3_entryAtHand_6 : decode cX3_entryAtHand 6 = .ok (.getfield 39, 3) := by decide +kernel
theorem dX3_entryAtHand_9 : decode cX3_entryAtHand 9 = .ok (.aload_n 0, 1) := by decide +kernel
theorem dX3_entryAtHand_10 : decode cX3_entryAtHand 10 = .ok (.getfield 43, 3) := by decide +kernel
theorem dX3_entryAtHand_13 : decode cX3_entryAtHand 13 = .ok (.invokevirtual 200, 3) := by decide +kernel
theorem dX3_entryAtHand_16 : decode cX3_entryAtHand 16 = .ok (.areturn, 1) := by decide +kernel
theorem dX3_hasNoRoomFor_0 : decode cX3_hasNoRoomFor 0 = .ok (.aload_n 1, 1) := by decide +kernel
theorem dX3_hasNoRoomFor_1 : decode cX3_hasNoRoomFor 1 = .ok (.invokevirtual 85, 3) := by decide +kernel
theorem dX3_hasNoRoomFor_4 : decode cX3_hasNoRoomFor 4 = .ok (.ifCond .eq 20, 3) := by decide +kernel
theorem dX3_hasNoRoomFor_7 : decode cX3_hasNoRoomFor 7 = .ok (.aload_n 0, 1) := by decide +kernel
theorem dX3_hasNoRoomFor_8 : decode cX3_hasNoRoomFor 8 = .ok (.getfield 16, 3) := by decide +kernel
theorem dX3_hasNoRoomFor_11 : decode cX3_hasNoRoomFor 11 = .ok (.invokevirtual 213, 3) := by decide +kernel
theorem dX3_hasNoRoomFor_14 : decode cX3_hasNoRoomFor 14 = .ok (.sipush 150, 3) := by decide +kernel
theorem dX3_hasNoRoomFor_17 : decode cX3_hasNoRoomFor 17 = .ok (.if_icmp .lt 7, 3) := by decide +kernel
theorem dX3_hasNoRoomFor_20 : decode cX3_hasNoRoomFor 20 = .ok (.iconst 1, 1) := by decide +kernel
theorem dX3_hasNoRoomFor_21 : decode cX3_hasNoRoomFor 21 = .ok (.goto 4, 3) := by decide +kernel
theorem dX3_hasNoRoomFor_24 : decode cX3_hasNoRoomFor 24 = .ok (.iconst 0, 1) := by decide +kernel
theorem dX3_hasNoRoomFor_25 : decode cX3_hasNoRoomFor 25 = .ok (.ireturn, 1) := by decide +kernel
theorem dX3_keep_0 : decode cX3_keep 0 = .ok (.aload_n 0, 1) := by decide +kernel
theorem dX3_keep_1 : decode cX3_keep 1 = .ok (.aload_n 1, 1) := by decide +kernel
theorem dX3_keep_2 : decode cX3_keep 2 = .ok (.getfield 257, 3) := by decide +kernel
theorem dX3_keep_5 : decode cX3_keep 5 = .ok (.aload_n 1, 1) := by decide +kernel
theorem dX3_keep_6 : decode cX3_keep 6 = .ok (.getfield 260, 3) := by decide +kernel
theorem dX3_keep_9 : decode cX3_keep 9 = .ok (.aload_n 1, 1) := by decide +kernel
theorem dX3_keep_10 : decode cX3_keep 10 = .ok (.getfield 263, 3) := by decide +kernel
theorem dX3_keep_13 : decode cX3_keep 13 = .ok (.invokestatic 266, 3) := by decide +kernel
theorem dX3_keep_16 : decode cX3_keep 16 = .ok (.invokevirtual 161, 3) := by decide +kernel
theorem dX3_keep_19 : decode cX3_keep 19 = .ok (.aload_n 1, 1) := by decide +kernel
theorem dX3_keep_20 : decode cX3_keep 20 = .ok (.invokevirtual 270, 3) := by decide +kernel
theorem dX3_keep_23 : decode cX3_keep 23 = .ok (.return_, 1) := by decide +kernel
theorem dX3_pageToChange_0 : decode cX3_pageToChange 0 = .ok (.aload_n 0, 1) := by decide +kernel
theorem dX3_pageToChange_1 : decode cX3_pageToChange 1 = .ok (.getfield 16, 3) := by decide +kernel
theorem dX3_pageToChange_4 : decode cX3_pageToChange 4 = .ok (.getfield 151, 3) := by decide +kernel
theorem dX3_pageToChange_7 : decode cX3_pageToChange 7 = .ok (.iload_n 1, 1) := by decide +kernel
theorem dX3_pageToChange_8 : decode cX3_pageToChange 8 = .ok (.aaload, 1) := by decide +kernel
theorem dX3_pageToChange_9 : decode cX3_pageToChange 9 = .ok (.astore_n 2, 1) := by decide +kernel
theorem dX3_pageToChange_10 : decode cX3_pageToChange 10 = .ok (.aload_n 2, 1) := by decide +kernel
theorem dX3_pageToChange_11 : decode cX3_pageToChange 11 = .ok (.invokevirtual 273, 3) := by decide +kernel
theorem dX3_pageToChange_14 : decode cX3_pageToChange 14 = .ok (.ifCond .eq 28, 3) := by decide +kernel
theorem dX3_pageToChange_17 : decode cX3_pageToChange 17 = .ok (.aload_n 2, 1) := by decide +kernel
theorem dX3_pageToChange_18 : decode cX3_pageToChange 18 = .ok (.invokevirtual 276, 3) := by decide +kernel
theorem dX3_pageToChange_21 : decode cX3_pageToChange 21 = .ok (.astore_n 2, 1) := by decide +kernel
theorem dX3_pageToChange_22 : decode cX3_pageToChange 22 = .ok (.aload_n 0, 1) := by decide +kernel
theorem dX3_pageToChange_23 : decode cX3_pageToChange 23 = .ok (.getfield 16, 3) := by decide +kernel
theorem dX3_pageToChange_26 : decode cX3_pageToChange 26 = .ok (.getfield 151, 3) := by decide +kernel
theorem dX3_pageToChange_29 : decode cX3_pageToChange 29 = .ok (.iload_n 1, 1) := by decide +kernel
theorem dX3_pageToChange_30 : decode cX3_pageToChange 30 = .ok (.aload_n 2, 1) := by decide +kernel
theorem dX3_pageToChange_31 : decode cX3_pageToChange 31 = .ok (.aastore, 1) := by decide +kernel
theorem dX3_pageToChange_32 : decode cX3_pageToChange 32 = .ok (.aload_n 0, 1) := by decide +kernel
theorem dX3_pageToChange_33 : decode cX3_pageToChange 33 = .ok (.dup, 1) := by decide +kernel
theorem dX3_pageToChange_34 : decode cX3_pageToChange 34 = .ok (.getfield 32, 3) := by decide +kernel
theorem dX3_pageToChange_37 : decode cX3_pageToChange 37 = .ok (.iconst 1, 1) := by decide +kernel
theorem dX3_pageToChange_38 : decode cX3_pageToChange 38 = .ok (.iadd, 1) := by decide +kernel
theorem dX3_pageToChange_39 : decode cX3_pageToChange 39 = .ok (.putfield 32, 3) := by decide +kernel
theorem dX3_pageToChange_42 : decode cX3_pageToChange 42 = .ok (.aload_n 2, 1) := by decide +kernel
theorem dX3_pageToChange_43 : decode cX3_pageToChange 43 = .ok (.areturn, 1) := by decide +kernel
theorem dX3_sortKeys_0 : decode cX3_sortKeys 0 = .ok (.iconst 0, 1) := by decide +kernel
theorem dX3_sortKeys_1 : decode cX3_sortKeys 1 = .ok (.istore_n 2, 1) := by decide +kernel
theorem dX3_sortKeys_2 : decode cX3_sortKeys 2 = .ok (.iconst 0, 1) := by decide +kernel
theorem dX3_sortKeys_3 : decode cX3_sortKeys 3 = .ok (.istore_n 3, 1) := by decide +kernel
theorem dX3_sortKeys_4 : decode cX3_sortKeys 4 = .ok (.iload_n 3, 1) := by decide +kernel
theorem dX3_sortKeys_5 : decode cX3_sortKeys 5 = .ok (.bipush 16, 2) := by decide +kernel
theorem dX3_sortKeys_7 : decode cX3_sortKeys 7 = .ok (.if_icmp .ge 32, 3) := by decide +kernel
theorem dX3_sortKeys_10 : decode cX3_sortKeys 10 = .ok (.aload_n 0, 1) := by decide +kernel
theorem dX3_sortKeys_11 : decode cX3_sortKeys 11 = .ok (.getfield 16, 3) := by decide +kernel
theorem dX3_sortKeys_14 : decode cX3_sortKeys 14 = .ok (.getfield 151, 3) := by decide +kernel
theorem dX3_sortKeys_17 : decode cX3_sortKeys 17 = .ok (.iload_n 3, 1) := by decide +kernel
theorem dX3_sortKeys_18 : decode cX3_sortKeys 18 = .ok (.aaload, 1) := by decide +kernel
theorem dX3_sortKeys_19 : decode cX3_sortKeys 19 = .ok (.aload_n 0, 1) := by decide +kernel
theorem dX3_sortKeys_20 : decode cX3_sortKeys 20 = .ok (.getfield 24, 3) := by decide +kernel
theorem dX3_sortKeys_23 : decode cX3_sortKeys 23 = .ok (.iload_n 2, 1) := by decide +kernel
theorem dX3_sortKeys_24 : decode cX3_sortKeys 24 = .ok (.iload_n 1, 1) := by decide +kernel
theorem dX3_sortKeys_25 : decode cX3_sortKeys 25 = .ok (.aload_n 0, 1) := by decide +kernel
theorem dX3_sortKeys_26 : decode cX3_sortKeys 26 = .ok (.getfield 43, 3) := by decide +kernel
theorem dX3_sortKeys_29 : decode cX3_sortKeys 29 = .ok (.invokevirtual 280, 3) := by decide +kernel
theorem dX3_sortKeys_32 : decode cX3_sortKeys 32 = .ok (.istore_n 2, 1) := by decide +kernel
theorem dX3_sortKeys_33 : decode cX3_sortKeys 33 = .ok (.iinc 3 1, 3) := by decide +kernel
theorem dX3_sortKeys_36 : decode cX3_sortKeys 36 = .ok (.goto (-32), 3) := by decide +kernel
theorem dX3_sortKeys_39 : decode cX3_sortKeys 39 = .ok (.iload_n 2, 1) := by decide +kernel
theorem dX3_sortKeys_40 : decode cX3_sortKeys 40 = .ok (.ireturn, 1) := by decide +kernel
theorem dX3_pictureOf_0 : decode cX3_pictureOf 0 = .ok (.iload_n 1, 1) := by decide +kernel
theorem dX3_pictureOf_1 : decode cX3_pictureOf 1 = .ok (.iconst (-1), 1) := by decide +kernel
theorem dX3_pictureOf_2 : decode cX3_pictureOf 2 = .ok (.if_icmp .ne 10, 3) := by decide +kernel
theorem dX3_pictureOf_5 : decode cX3_pictureOf 5 = .ok (.aload_n 0, 1) := by decide +kernel
theorem dX3_pictureOf_6 : decode cX3_pictureOf 6 = .ok (.getfield 16, 3) := by decide +kernel
theorem dX3_pictureOf_9 : decode cX3_pictureOf 9 = .ok (.goto 12, 3) := by decide +kernel
theorem dX3_pictureOf_12 : decode cX3_pictureOf 12 = .ok (.aload_n 0, 1) := by decide +kernel
theorem dX3_pictureOf_13 : decode cX3_pictureOf 13 = .ok (.aload_n 0, 1) := by decide +kernel
theorem dX3_pictureOf_14 : decode cX3_pictureOf 14 = .ok (.iload_n 1, 1) := by decide +kernel
theorem dX3_pictureOf_15 : decode cX3_pictureOf 15 = .ok (.invokevirtual 184, 3) := by decide +kernel
theorem dX3_pictureOf_18 : decode cX3_pictureOf 18 = .ok (.invokevirtual 187, 3) := by decide +kernel
theorem dX3_pictureOf_21 : decode cX3_pictureOf 21 = .ok (.areturn, 1) := by decide +kernel
theorem dX3_slotOf_0 : decode cX3_slotOf 0 = .ok (.iconst 0, 1) := by decide +kernel
theorem dX3_slotOf_1 : decode cX3_slotOf 1 = .ok (.istore_n 2, 1) := by decide +kernel
theorem dX3_slotOf_2 : decode cX3_slotOf 2 = .ok (.iload_n 2, 1) := by decide +kernel
theorem dX3_slotOf_3 : decode cX3_slotOf 3 = .ok (.bipush 6, 2) := by decide +kernel
theorem dX3_slotOf_5 : decode cX3_slotOf 5 = .ok (.if_icmp .ge 30, 3) := by decide +kernel
theorem dX3_slotOf_8 : decode cX3_slotOf 8 = .ok (.aload_n 0, 1) := by decide +kernel
theorem dX3_slotOf_9 : decode cX3_slotOf 9 = .ok (.getfield 20, 3) := by decide +kernel
theorem dX3_slotOf_12 : decode cX3_slotOf 12 = .ok (.iload_n 2, 1) := by decide +kernel
theorem dX3_slotOf_13 : decode cX3_slotOf 13 = .ok (.aaload, 1) := by decide +kernel
theorem dX3_slotOf_14 : decode cX3_slotOf 14 = .ok (.astore_n 3, 1) := by decide +kernel
theorem dX3_slotOf_15 : decode cX3_slotOf 15 = .ok (.aload_n 3, 1) := by decide +kernel
theorem dX3_slotOf_16 : decode cX3_slotOf 16 = .ok (.ifnull 13, 3) := by decide +kernel
theorem dX3_slotOf_19 : decode cX3_slotOf 19 = .ok (.aload_n 3, 1) := by decide +kernel
theorem dX3_slotOf_20 : decode cX3_slotOf 20 = .ok (.getfield 181, 3) := by decide +kernel
theorem dX3_slotOf_23 : decode cX3_slotOf 23 = .ok (.iload_n 1, 1) := by decide +kernel
theorem dX3_slotOf_24 : decode cX3_slotOf 24 = .ok (.if_icmp .ne 5, 3) := by decide +kernel
theorem dX3_slotOf_27 : decode cX3_slotOf 27 = .ok (.iload_n 2, 1) := by decide +kernel
theorem dX3_slotOf_28 : decode cX3_slotOf 28 = .ok (.ireturn, 1) := by decide +kernel
theorem dX3_slotOf_29 : decode cX3_slotOf 29 = .ok (.iinc 2 1, 3) := by decide +kernel
theorem dX3_slotOf_32 : decode cX3_slotOf 32 = .ok (.goto (-30), 3) := by decide +kernel
theorem dX3_slotOf_35 : decode cX3_slotOf 35 = .ok (.iconst (-1), 1) := by decide +kernel
theorem dX3_slotOf_36 : decode cX3_slotOf 36 = .ok (.ireturn, 1) := by decide +kernel
theorem dX3_snapshotIn_0 : decode cX3_snapshotIn 0 = .ok (.iload_n 1, 1) := by decide +kernel
theorem dX3_snapshotIn_1 : decode cX3_snapshotIn 1 = .ok (.ifCond .lt 9, 3) := by decide +kernel
theorem dX3_snapshotIn_4 : decode cX3_snapshotIn 4 = .ok (.iload_n 1, 1) := by decide +kernel
theorem dX3_snapshotIn_5 : decode cX3_snapshotIn 5 = .ok (.bipush 6, 2) := by decide +kernel
theorem dX3_snapshotIn_7 : decode cX3_snapshotIn 7 = .ok (.if_icmp .lt 7, 3) := by decide +kernel
theorem dX3_snapshotIn_10 : decode cX3_snapshotIn 10 = .ok (.aconst_null, 1) := by decide +kernel
theorem dX3_snapshotIn_11 : decode cX3_snapshotIn 11 = .ok (.goto 9, 3) := by decide +kernel
theorem dX3_snapshotIn_14 : decode cX3_snapshotIn 14 = .ok (.aload_n 0, 1) := by decide +kernel
theorem dX3_snapshotIn_15 : decode cX3_snapshotIn 15 = .ok (.getfield 20, 3) := by decide +kernel
theorem dX3_snapshotIn_18 : decode cX3_snapshotIn 18 = .ok (.iload_n 1, 1) := by decide +kernel
theorem dX3_snapshotIn_19 : decode cX3_snapshotIn 19 = .ok (.aaload, 1) := by decide +kernel
theorem dX3_snapshotIn_20 : decode cX3_snapshotIn 20 = .ok (.astore_n 2, 1) := by decide +kernel
theorem dX3_snapshotIn_21 : decode cX3_snapshotIn 21 = .ok (.aload_n 2, 1) := by decide +kernel
theorem dX3_snapshotIn_22 : decode cX3_snapshotIn 22 = .ok (.ifnonnull 14, 3) := by decide +kernel
theorem dX3_snapshotIn_25 : decode cX3_snapshotIn 25 = .ok (.new 172, 3) := by decide +kernel
theorem dX3_snapshotIn_28 : decode cX3_snapshotIn 28 = .ok (.dup, 1) := by decide +kernel
theorem dX3_snapshotIn_29 : decode cX3_snapshotIn 29 = .ok (.ldc_w 284, 3) := by decide +kernel
theorem dX3_snapshotIn_32 : decode cX3_snapshotIn 32 = .ok (.invokespecial 176, 3) := by decide +kernel
theorem dX3_snapshotIn_35 : decode cX3_snapshotIn 35 = .ok (.athrow, 1) := by decide +kernel
theorem dX3_snapshotIn_36 : decode cX3_snapshotIn 36 = .ok (.aload_n 2, 1) := by decide +kernel
theorem dX3_snapshotIn_37 : decode cX3_snapshotIn 37 = .ok (.areturn, 1) := by decide +kernel
theorem dX3_countSnapshots_0 : decode cX3_countSnapshots 0 = .ok (.iconst 0, 1) := by decide +kernel
theorem dX3_countSnapshots_1 : decode cX3_countSnapshots 1 = .ok (.istore_n 1, 1) := by decide +kernel
theorem dX3_countSnapshots_2 : decode cX3_countSnapshots 2 = .ok (.iconst 0, 1) := by decide +kernel
theorem dX3_countSnapshots_3 : decode cX3_countSnapshots 3 = .ok (.istore_n 2, 1) := by decide +kernel
theorem dX3_countSnapshots_4 : decode cX3_countSnapshots 4 = .ok (.iload_n 2, 1) := by decide +kernel
theorem dX3_countSnapshots_5 : decode cX3_countSnapshots 5 = .ok (.bipush 6, 2) := by decide +kernel
theorem dX3_countSnapshots_7 : decode cX3_countSnapshots 7 = .ok (.if_icmp .ge 21, 3) := by decide +kernel
theorem dX3_countSnapshots_10 : decode cX3_countSnapshots 10 = .ok (.aload_n 0, 1) := by decide +kernel
theorem dX3_countSnapshots_11 : decode cX3_countSnapshots 11 = .ok (.getfield 20, 3) := by decide +kernel
theorem dX3_countSnapshots_14 : decode cX3_countSnapshots 14 = .ok (.iload_n 2, 1) := by decide +kernel
theorem dX3_countSnapshots_15 : decode cX3_countSnapshots 15 = .ok (.aaload, 1) := by decide +kernel
theorem dX3_countSnapshots_16 : decode cX3_countSnapshots 16 = .ok (.ifnull 6, 3) := by decide +kernel
theorem dX3_countSnapshots_19 : decode cX3_countSnapshots 19 = .ok (.iinc 1 1, 3) := by decide +kernel
theorem dX3_countSnapshots_22 : decode cX3_countSnapshots 22 = .ok (.iinc 2 1, 3) := by decide +kernel
theorem dX3_countSnapshots_25 : decode cX3_countSnapshots 25 = .ok (.goto (-21), 3) := by decide +kernel
theorem dX3_countSnapshots_28 : decode cX3_countSnapshots 28 = .ok (.iload_n 1, 1) := by decide +kernel
theorem dX3_countSnapshots_29 : decode cX3_countSnapshots 29 = .ok (.ireturn, 1) := by decide +kernel
theorem dX3_isKindAndType_0 : decode cX3_isKindAndType 0 = .ok (.iload_n 0, 1) := by decide +kernel
theorem dX3_isKindAndType_1 : decode cX3_isKindAndType 1 = .ok (.ifCond .lt 21, 3) := by decide +kernel
theorem dX3_isKindAndType_4 : decode cX3_isKindAndType 4 = .ok (.iload_n 0, 1) := by decide +kernel
theorem dX3_isKindAndType_5 : decode cX3_isKindAndType 5 = .ok (.iconst 4, 1) := by decide +kernel
theorem dX3_isKindAndType_6 : decode cX3_isKindAndType 6 = .ok (.if_icmp .ge 16, 3) := by decide +kernel
theorem dX3_isKindAndType_9 : decode cX3_isKindAndType 9 = .ok (.iload_n 1, 1) := by decide +kernel
theorem dX3_isKindAndType_10 : decode cX3_isKindAndType 10 = .ok (.ifCond .lt 12, 3) := by decide +kernel
theorem dX3_isKindAndType_13 : decode cX3_isKindAndType 13 = .ok (.iload_n 1, 1) := by decide +kernel
theorem dX3_isKindAndType_14 : decode cX3_isKindAndType 14 = .ok (.iconst 3, 1) := by decide +kernel
theorem dX3_isKindAndType_15 : decode cX3_isKindAndType 15 = .ok (.if_icmp .ge 7, 3) := by decide +kernel
theorem dX3_isKindAndType_18 : decode cX3_isKindAndType 18 = .ok (.iconst 1, 1) := by decide +kernel
theorem dX3_isKindAndType_19 : decode cX3_isKindAndType 19 = .ok (.goto 4, 3) := by decide +kernel
theorem dX3_isKindAndType_22 : decode cX3_isKindAndType 22 = .ok (.iconst 0, 1) := by decide +kernel
theorem dX3_isKindAndType_23 : decode cX3_isKindAndType 23 = .ok (.ireturn, 1) := by decide +kernel
theorem dX3_fits_0 : decode cX3_fits 0 = .ok (.iload_n 0, 1) := by decide +kernel
theorem dX3_fits_1 : decode cX3_fits 1 = .ok (.iconst 3, 1) := by decide +kernel
theorem dX3_fits_2 : decode cX3_fits 2 = .ok (.if_icmp .eq 7, 3) := by decide +kernel
theorem dX3_fits_5 : decode cX3_fits 5 = .ok (.iload_n 1, 1) := by decide +kernel
theorem dX3_fits_6 : decode cX3_fits 6 = .ok (.ifCond .ne 5, 3) := by decide +kernel
theorem dX3_fits_9 : decode cX3_fits 9 = .ok (.iconst 1, 1) := by decide +kernel
theorem dX3_fits_10 : decode cX3_fits 10 = .ok (.ireturn, 1) := by decide +kernel
theorem dX3_fits_11 : decode cX3_fits 11 = .ok (.iload_n 1, 1) := by decide +kernel
theorem dX3_fits_12 : decode cX3_fits 12 = .ok (.iconst 1, 1) := by decide +kernel
theorem dX3_fits_13 : decode cX3_fits 13 = .ok (.if_icmp .ne 27, 3) := by decide +kernel
theorem dX3_fits_16 : decode cX3_fits 16 = .ok (.lload_n 2, 1) := by decide +kernel
theorem dX3_fits_17 : decode cX3_fits 17 = .ok (.ldc2_w 286, 3) := by decide +kernel
theorem dX3_fits_20 : decode cX3_fits 20 = .ok (.lcmp, 1) := by decide +kernel
theorem dX3_fits_21 : decode cX3_fits 21 = .ok (.ifCond .lt 15, 3) := by decide +kernel
theorem dX3_fits_24 : decode cX3_fits 24 = .ok (.lload_n 2, 1) := by decide +kernel
theorem dX3_fits_25 : decode cX3_fits 25 = .ok (.ldc2_w 288, 3) := by decide +kernel
theorem dX3_fits_28 : decode cX3_fits 28 = .ok (.lcmp, 1) := by decide +kernel
theorem dX3_fits_29 : decode cX3_fits 29 = .ok (.ifCond .gt 7, 3) := by decide +kernel
theorem dX3_fits_32 : decode cX3_fits 32 = .ok (.iconst 1, 1) := by decide +kernel
theorem dX3_fits_33 : decode cX3_fits 33 = .ok (.goto 18, 3) := by decide +kernel
theorem dX3_fits_36 : decode cX3_fits 36 = .ok (.iconst 0, 1) := by decide +kernel
theorem dX3_fits_37 : decode cX3_fits 37 = .ok (.goto 14, 3) := by decide +kernel
theorem dX3_fits_40 : decode cX3_fits 40 = .ok (.lload_n 2, 1) := by decide +kernel
theorem dX3_fits_41 : decode cX3_fits 41 = .ok (.lconst 0, 1) := by decide +kernel
theorem dX3_fits_42 : decode cX3_fits 42 = .ok (.lcmp, 1) := by decide +kernel
theorem dX3_fits_43 : decode cX3_fits 43 = .ok (.ifCond .lt 7, 3) := by decide +kernel
theorem dX3_fits_46 : decode cX3_fits 46 = .ok (.iconst 1, 1) := by decide +kernel
theorem dX3_fits_47 : decode cX3_fits 47 = .ok (.goto 4, 3) := by decide +kernel
theorem dX3_fits_50 : decode cX3_fits 50 = .ok (.iconst 0, 1) := by decide +kernel
theorem dX3_fits_51 : decode cX3_fits 51 = .ok (.ireturn, 1) := by decide +kernel
theorem dX3_canMove_0 : decode cX3_canMove 0 = .ok (.iload_n 0, 1) := by decide +kernel
theorem dX3_canMove_1 : decode cX3_canMove 1 = .ok (.tableswitch 70 0 2 #[27, 38, 54], 27) := by decide +kernel
theorem dX3_canMove_28 : decode cX3_canMove 28 = .ok (.iload_n 1, 1) := by decide +kernel
theorem dX3_canMove_29 : decode cX3_canMove 29 = .ok (.iconst 2, 1) := by decide +kernel
theorem dX3_canMove_30 : decode cX3_canMove 30 = .ok (.if_icmp .eq 7, 3) := by decide +kernel
theorem dX3_canMove_33 : decode cX3_canMove 33 = .ok (.iconst 1, 1) := by decide +kernel
theorem dX3_canMove_34 : decode cX3_canMove 34 = .ok (.goto 4, 3) := by decide +kernel
theorem dX3_canMove_37 : decode cX3_canMove 37 = .ok (.iconst 0, 1) := by decide +kernel
theorem dX3_canMove_38 : decode cX3_canMove 38 = .ok (.ireturn, 1) := by decide +kernel
theorem dX3_canMove_39 : decode cX3_canMove 39 = .ok (.iload_n 1, 1) := by decide +kernel
theorem dX3_canMove_40 : decode cX3_canMove 40 = .ok (.iconst 1, 1) := by decide +kernel
theorem dX3_canMove_41 : decode cX3_canMove 41 = .ok (.if_icmp .eq 8, 3) := by decide +kernel
theorem dX3_canMove_44 : decode cX3_canMove 44 = .ok (.iload_n 1, 1) := by decide +kernel
theorem dX3_canMove_45 : decode cX3_canMove 45 = .ok (.iconst 3, 1) := by decide +kernel
theorem dX3_canMove_46 : decode cX3_canMove 46 = .ok (.if_icmp .ne 7, 3) := by decide +kernel
theorem dX3_canMove_49 : decode cX3_canMove 49 = .ok (.iconst 1, 1) := by decide +kernel
theorem dX3_canMove_50 : decode cX3_canMove 50 = .ok (.goto 4, 3) := by decide +kernel
theorem dX3_canMove_53 : decode cX3_canMove 53 = .ok (.iconst 0, 1) := by decide +kernel
theorem dX3_canMove_54 : decode cX3_canMove 54 = .ok (.ireturn, 1) := by decide +kernel
theorem dX3_canMove_55 : decode cX3_canMove 55 = .ok (.iload_n 1, 1) := by decide +kernel
theorem dX3_canMove_56 : decode cX3_canMove 56 = .ok (.iconst 2, 1) := by decide +kernel
theorem dX3_canMove_57 : decode cX3_canMove 57 = .ok (.if_icmp .eq 8, 3) := by decide +kernel
theorem dX3_canMove_60 : decode cX3_canMove 60 = .ok (.iload_n 1, 1) := by decide +kernel
theorem dX3_canMove_61 : decode cX3_canMove 61 = .ok (.iconst 1, 1) := by decide +kernel
theorem dX3_canMove_62 : decode cX3_canMove 62 = .ok (.if_icmp .ne 7, 3) := by decide +kernel
theorem dX3_canMove_65 : decode cX3_canMove 65 = .ok (.iconst 1, 1) := by decide +kernel
theorem dX3_canMove_66 : decode cX3_canMove 66 = .ok (.goto 4, 3) := by decide +kernel
theorem dX3_canMove_69 : decode cX3_canMove 69 = .ok (.iconst 0, 1) := by decide +kernel
theorem dX3_canMove_70 : decode cX3_canMove 70 = .ok (.ireturn, 1) := by decide +kernel
theorem dX3_canMove_71 : decode cX3_canMove 71 = .ok (.iload_n 1, 1) := by decide +kernel
theorem dX3_canMove_72 : decode cX3_canMove 72 = .ok (.ifCond .ne 7, 3) := by decide +kernel
theorem dX3_canMove_75 : decode cX3_canMove 75 = .ok (.iconst 1, 1) := by decide +kernel
theorem dX3_canMove_76 : decode cX3_canMove 76 = .ok (.goto 4, 3) := by decide +kernel
theorem dX3_canMove_79 : decode cX3_canMove 79 = .ok (.iconst 0, 1) := by decide +kernel
theorem dX3_canMove_80 : decode cX3_canMove 80 = .ok (.ireturn, 1) := by decide +kernel
theorem dX3_pageNumber_0 : decode cX3_pageNumber 0 = .ok (.lload_n 1, 1) := by decide +kernel
theorem dX3_pageNumber_1 : decode cX3_pageNumber 1 = .ok (.l2i, 1) := by decide +kernel
theorem dX3_pageNumber_2 : decode cX3_pageNumber 2 = .ok (.lload_n 1, 1) := by decide +kernel
theorem dX3_pageNumber_3 : decode cX3_pageNumber 3 = .ok (.bipush 32, 2) := by decide +kernel
theorem dX3_pageNumber_5 : decode cX3_pageNumber 5 = .ok (.lushr, 1) := by decide +kernel
theorem dX3_pageNumber_6 : decode cX3_pageNumber 6 = .ok (.l2i, 1) := by decide +kernel
theorem dX3_pageNumber_7 : decode cX3_pageNumber 7 = .ok (.ixor, 1) := by decide +kernel
theorem dX3_pageNumber_8 : decode cX3_pageNumber 8 = .ok (.istore 4, 2) := by decide +kernel
theorem dX3_pageNumber_10 : decode cX3_pageNumber 10 = .ok (.iload 4, 2) := by decide +kernel
theorem dX3_pageNumber_12 : decode cX3_pageNumber 12 = .ok (.bipush 31, 2) := by decide +kernel
theorem dX3_pageNumber_14 : decode cX3_pageNumber 14 = .ok (.imul, 1) := by decide +kernel
theorem dX3_pageNumber_15 : decode cX3_pageNumber 15 = .ok (.iload_n 3, 1) := by decide +kernel
theorem dX3_pageNumber_16 : decode cX3_pageNumber 16 = .ok (.iadd, 1) := by decide +kernel
theorem dX3_pageNumber_17 : decode cX3_pageNumber 17 = .ok (.bipush 31, 2) := by decide +kernel
theorem dX3_pageNumber_19 : decode cX3_pageNumber 19 = .ok (.imul, 1) := by decide +kernel
theorem dX3_pageNumber_20 : decode cX3_pageNumber 20 = .ok (.iload_n 0, 1) := by decide +kernel
theorem dX3_pageNumber_21 : decode cX3_pageNumber 21 = .ok (.iadd, 1) := by decide +kernel
theorem dX3_pageNumber_22 : decode cX3_pageNumber 22 = .ok (.bipush 15, 2) := by decide +kernel
theorem dX3_pageNumber_24 : decode cX3_pageNumber 24 = .ok (.iand, 1) := by decide +kernel
theorem dX3_pageNumber_25 : decode cX3_pageNumber 25 = .ok (.ireturn, 1) := by decide +kernel
theorem dX3_numberAt_0 : decode cX3_numberAt 0 = .ok (.iload_n 1, 1) := by decide +kernel
theorem dX3_numberAt_1 : decode cX3_numberAt 1 = .ok (.ifCond .lt 9, 3) := by decide +kernel
theorem dX3_numberAt_4 : decode cX3_numberAt 4 = .ok (.iload_n 1, 1) := by decide +kernel
theorem dX3_numberAt_5 : decode cX3_numberAt 5 = .ok (.aload_n 0, 1) := by decide +kernel
theorem dX3_numberAt_6 : decode cX3_numberAt 6 = .ok (.arraylength, 1) := by decide +kernel
theorem dX3_numberAt_7 : decode cX3_numberAt 7 = .ok (.if_icmp .lt 14, 3) := by decide +kernel
theorem dX3_numberAt_10 : decode cX3_numberAt 10 = .ok (.new 172, 3) := by decide +kernel
theorem dX3_numberAt_13 : decode cX3_numberAt 13 = .ok (.dup, 1) := by decide +kernel
theorem dX3_numberAt_14 : decode cX3_numberAt 14 = .ok (.ldc_w 290, 3) := by decide +kernel
theorem dX3_numberAt_17 : decode cX3_numberAt 17 = .ok (.invokespecial 176, 3) := by decide +kernel
theorem dX3_numberAt_20 : decode cX3_numberAt 20 = .ok (.athrow, 1) := by decide +kernel
theorem dX3_numberAt_21 : decode cX3_numberAt 21 = .ok (.aload_n 0, 1) := by decide +kernel
theorem dX3_numberAt_22 : decode cX3_numberAt 22 = .ok (.iload_n 1, 1) := by decide +kernel
theorem dX3_numberAt_23 : decode cX3_numberAt 23 = .ok (.laload, 1) := by decide +kernel
theorem dX3_numberAt_24 : decode cX3_numberAt 24 = .ok (.lreturn, 1) := by decide +kernel
theorem dX3_countBelow_0 : decode cX3_countBelow 0 = .ok (.iconst 0, 1) := by decide +kernel
theorem dX3_countBelow_1 : decode cX3_countBelow 1 = .ok (.istore 4, 2) := by decide +kernel
theorem dX3_countBelow_3 : decode cX3_countBelow 3 = .ok (.iload 4, 2) := by decide +kernel
theorem dX3_countBelow_5 : decode cX3_countBelow 5 = .ok (.iload_n 1, 1) := by decide +kernel
theorem dX3_countBelow_6 : decode cX3_countBelow 6 = .ok (.if_icmp .ge 25, 3) := by decide +kernel
theorem dX3_countBelow_9 : decode cX3_countBelow 9 = .ok (.iload 4, 2) := by decide +kernel
theorem dX3_countBelow_11 : decode cX3_countBelow 11 = .ok (.aload_n 0, 1) := by decide +kernel
theorem dX3_countBelow_12 : decode cX3_countBelow 12 = .ok (.arraylength, 1) := by decide +kernel
theorem dX3_countBelow_13 : decode cX3_countBelow 13 = .ok (.if_icmp .ge 18, 3) := by decide +kernel
theorem dX3_countBelow_16 : decode cX3_countBelow 16 = .ok (.aload_n 0, 1) := by decide +kernel
theorem dX3_countBelow_17 : decode cX3_countBelow 17 = .ok (.iload 4, 2) := by decide +kernel
theorem dX3_countBelow_19 : decode cX3_countBelow 19 = .ok (.laload, 1) := by decide +kernel
theorem dX3_countBelow_20 : decode cX3_countBelow 20 = .ok (.lload_n 2, 1) := by decide +kernel
theorem dX3_countBelow_21 : decode cX3_countBelow 21 = .ok (.lcmp, 1) := by decide +kernel
theorem dX3_countBelow_22 : decode cX3_countBelow 22 = .ok (.ifCond .ge 9, 3) := by decide +kernel
theorem dX3_countBelow_25 : decode cX3_countBelow 25 = .ok (.iinc 4 1, 3) := by decide +kernel
theorem dX3_countBelow_28 : decode cX3_countBelow 28 = .ok (.goto (-25), 3) := by decide +kernel
theorem dX3_countBelow_31 : decode cX3_countBelow 31 = .ok (.iload 4, 2) := by decide +kernel
theorem dX3_countBelow_33 : decode cX3_countBelow 33 = .ok (.ireturn, 1) := by decide +kernel
theorem dX3_joined_0 : decode cX3_joined 0 = .ok (.iload_n 0, 1) := by decide +kernel
theorem dX3_joined_1 : decode cX3_joined 1 = .ok (.ifCond .ne 7, 3) := by decide +kernel
theorem dX3_joined_4 : decode cX3_joined 4 = .ok (.lload_n 1, 1) := by decide +kernel
theorem dX3_joined_5 : decode cX3_joined 5 = .ok (.lload_n 3, 1) := by decide +kernel
theorem dX3_joined_6 : decode cX3_joined 6 = .ok (.ladd, 1) := by decide +kernel
theorem dX3_joined_7 : decode cX3_joined 7 = .ok (.lreturn, 1) := by decide +kernel
theorem dX3_joined_8 : decode cX3_joined 8 = .ok (.iload_n 0, 1) := by decide +kernel
theorem dX3_joined_9 : decode cX3_joined 9 = .ok (.iconst 1, 1) := by decide +kernel
theorem dX3_joined_10 : decode cX3_joined 10 = .ok (.if_icmp .ne 11, 3) := by decide +kernel
theorem dX3_joined_13 : decode cX3_joined 13 = .ok (.lload_n 1, 1) := by decide +kernel
theorem dX3_joined_14 : decode cX3_joined 14 = .ok (.lload_n 3, 1) := by decide +kernel
theorem dX3_joined_15 : decode cX3_joined 15 = .ok (.invokestatic 292, 3) := by decide +kernel
theorem dX3_joined_18 : decode cX3_joined 18 = .ok (.goto 8, 3) := by decide +kernel
theorem dX3_joined_21 : decode cX3_joined 21 = .ok (.lload_n 1, 1) := by decide +kernel
theorem dX3_joined_22 : decode cX3_joined 22 = .ok (.lload_n 3, 1) := by decide +kernel
theorem dX3_joined_23 : decode cX3_joined 23 = .ok (.invokestatic 298, 3) := by decide +kernel
theorem dX3_joined_26 : decode cX3_joined 26 = .ok (.lreturn, 1) := by decide +kernel
