theorem dL_member_9 : decode cL_member 9 = .ok (.goto 15, 3) := by decide +kernel
theorem dL_member_12 : decode cL_member 12 = .ok (.astore 4, 2) := by decide +kernel
theorem dL_member_14 : decode cL_member 14 = .ok (.iconst 1, 1) := by decide +kernel
theorem dL_member_15 : decode cL_member 15 = .ok (.ireturn, 1) := by decide +kernel
theorem dL_member_16 : decode cL_member 16 = .ok (.astore 4, 2) := by decide +kernel
theorem dL_member_18 : decode cL_member 18 = .ok (.iconst 2, 1) := by decide +kernel
theorem dL_member_19 : decode cL_member 19 = .ok (.ireturn, 1) := by decide +kernel
theorem dL_member_20 : decode cL_member 20 = .ok (.astore 4, 2) := by decide +kernel
theorem dL_member_22 : decode cL_member 22 = .ok (.iconst 3, 1) := by decide +kernel
theorem dL_member_23 : decode cL_member 23 = .ok (.ireturn, 1) := by decide +kernel
theorem dL_member_24 : decode cL_member 24 = .ok (.iconst 0, 1) := by decide +kernel
theorem dL_member_25 : decode cL_member 25 = .ok (.ireturn, 1) := by decide +kernel
theorem dL_remove_0 : decode cL_remove 0 = .ok (.aload 4, 2) := by decide +kernel
theorem dL_remove_2 : decode cL_remove 2 = .ok (.iconst 0, 1) := by decide +kernel
theorem dL_remove_3 : decode cL_remove 3 = .ok (.aload_n 0, 1) := by decide +kernel
theorem dL_remove_4 : decode cL_remove 4 = .ok (.iload_n 1, 1) := by decide +kernel
theorem dL_remove_5 : decode cL_remove 5 = .ok (.lload_n 2, 1) := by decide +kernel
theorem dL_remove_6 : decode cL_remove 6 = .ok (.invokevirtual 43, 3) := by decide +kernel
theorem dL_remove_9 : decode cL_remove 9 = .ok (.ifCond .eq 7, 3) := by decide +kernel
theorem dL_remove_12 : decode cL_remove 12 = .ok (.lconst 1, 1) := by decide +kernel
theorem dL_remove_13 : decode cL_remove 13 = .ok (.goto 4, 3) := by decide +kernel
theorem dL_remove_16 : decode cL_remove 16 = .ok (.lconst 0, 1) := by decide +kernel
theorem dL_remove_17 : decode cL_remove 17 = .ok (.lastore, 1) := by decide +kernel
theorem dL_remove_18 : decode cL_remove 18 = .ok (.goto 15, 3) := by decide +kernel
theorem dL_remove_21 : decode cL_remove 21 = .ok (.astore 5, 2) := by decide +kernel
theorem dL_remove_23 : decode cL_remove 23 = .ok (.iconst 1, 1) := by decide +kernel
theorem dL_remove_24 : decode cL_remove 24 = .ok (.ireturn, 1) := by decide +kernel
theorem dL_remove_25 : decode cL_remove 25 = .ok (.astore 5, 2) := by decide +kernel
theorem dL_remove_27 : decode cL_remove 27 = .ok (.iconst 2, 1) := by decide +kernel
theorem dL_remove_28 : decode cL_remove 28 = .ok (.ireturn, 1) := by decide +kernel
theorem dL_remove_29 : decode cL_remove 29 = .ok (.astore 5, 2) := by decide +kernel
theorem dL_remove_31 : decode cL_remove 31 = .ok (.iconst 3, 1) := by decide +kernel
theorem dL_remove_32 : decode cL_remove 32 = .ok (.ireturn, 1) := by decide +kernel
theorem dL_remove_33 : decode cL_remove 33 = .ok (.iconst 0, 1) := by decide +kernel
theorem dL_remove_34 : decode cL_remove 34 = .ok (.ireturn, 1) := by decide +kernel
theorem dL_fold_0 : decode cL_fold 0 = .ok (.aload 4, 2) := by decide +kernel
theorem dL_fold_2 : decode cL_fold 2 = .ok (.iconst 0, 1) := by decide +kernel
theorem dL_fold_3 : decode cL_fold 3 = .ok (.aload_n 0, 1) := by decide +kernel
theorem dL_fold_4 : decode cL_fold 4 = .ok (.iload_n 1, 1) := by decide +kernel
theorem dL_fold_5 : decode cL_fold 5 = .ok (.lload_n 2, 1) := by decide +kernel
theorem dL_fold_6 : decode cL_fold 6 = .ok (.invokevirtual 47, 3) := by decide +kernel
theorem dL_fold_9 : decode cL_fold 9 = .ok (.i2l, 1) := by decide +kernel
theorem dL_fold_10 : decode cL_fold 10 = .ok (.lastore, 1) := by decide +kernel
theorem dL_fold_11 : decode cL_fold 11 = .ok (.goto 15, 3) := by decide +kernel
theorem dL_fold_14 : decode cL_fold 14 = .ok (.astore 5, 2) := by decide +kernel
theorem dL_fold_16 : decode cL_fold 16 = .ok (.iconst 1, 1) := by decide +kernel
theorem dL_fold_17 : decode cL_fold 17 = .ok (.ireturn, 1) := by decide +kernel
theorem dL_fold_18 : decode cL_fold 18 = .ok (.astore 5, 2) := by decide +kernel
theorem dL_fold_20 : decode cL_fold 20 = .ok (.iconst 2, 1) := by decide +kernel
theorem dL_fold_21 : decode cL_fold 21 = .ok (.ireturn, 1) := by decide +kernel
theorem dL_fold_22 : decode cL_fold 22 = .ok (.astore 5, 2) := by decide +kernel
theorem dL_fold_24 : decode cL_fold 24 = .ok (.iconst 3, 1) := by decide +kernel
theorem dL_fold_25 : decode cL_fold 25 = .ok (.ireturn, 1) := by decide +kernel
theorem dL_fold_26 : decode cL_fold 26 = .ok (.iconst 0, 1) := by decide +kernel
theorem dL_fold_27 : decode cL_fold 27 = .ok (.ireturn, 1) := by decide +kernel
theorem dL_size_0 : decode cL_size 0 = .ok (.aload_n 2, 1) := by decide +kernel
theorem dL_size_1 : decode cL_size 1 = .ok (.iconst 0, 1) := by decide +kernel
theorem dL_size_2 : decode cL_size 2 = .ok (.aload_n 0, 1) := by decide +kernel
theorem dL_size_3 : decode cL_size 3 = .ok (.iload_n 1, 1) := by decide +kernel
theorem dL_size_4 : decode cL_size 4 = .ok (.invokevirtual 50, 3) := by decide +kernel
theorem dL_size_7 : decode cL_size 7 = .ok (.i2l, 1) := by decide +kernel
theorem dL_size_8 : decode cL_size 8 = .ok (.lastore, 1) := by decide +kernel
theorem dL_size_9 : decode cL_size 9 = .ok (.goto 9, 3) := by decide +kernel
theorem dL_size_12 : decode cL_size 12 = .ok (.astore_n 3, 1) := by decide +kernel
theorem dL_size_13 : decode cL_size 13 = .ok (.iconst 1, 1) := by decide +kernel
theorem dL_size_14 : decode cL_size 14 = .ok (.ireturn, 1) := by decide +kernel
theorem dL_size_15 : decode cL_size 15 = .ok (.astore_n 3, 1) := by decide +kernel
theorem dL_size_16 : decode cL_size 16 = .ok (.iconst 2, 1) := by decide +kernel
theorem dL_size_17 : decode cL_size 17 = .ok (.ireturn, 1) := by decide +kernel
theorem dL_size_18 : decode cL_size 18 = .ok (.iconst 0, 1) := by decide +kernel
theorem dL_size_19 : decode cL_size 19 = .ok (.ireturn, 1) := by decide +kernel
theorem dL_clear_0 : decode cL_clear 0 = .ok (.aload_n 2, 1) := by decide +kernel
theorem dL_clear_1 : decode cL_clear 1 = .ok (.iconst 0, 1) := by decide +kernel
theorem dL_clear_2 : decode cL_clear 2 = .ok (.aload_n 0, 1) := by decide +kernel
theorem dL_clear_3 : decode cL_clear 3 = .ok (.iload_n 1, 1) := by decide +kernel
theorem dL_clear_4 : decode cL_clear 4 = .ok (.invokevirtual 54, 3) := by decide +kernel
theorem dL_clear_7 : decode cL_clear 7 = .ok (.ifCond .eq 7, 3) := by decide +kernel
theorem dL_clear_10 : decode cL_clear 10 = .ok (.lconst 1, 1) := by decide +kernel
theorem dL_clear_11 : decode cL_clear 11 = .ok (.goto 4, 3) := by decide +kernel
theorem dL_clear_14 : decode cL_clear 14 = .ok (.lconst 0, 1) := by decide +kernel
theorem dL_clear_15 : decode cL_clear 15 = .ok (.lastore, 1) := by decide +kernel
theorem dL_clear_16 : decode cL_clear 16 = .ok (.goto 9, 3) := by decide +kernel
theorem dL_clear_19 : decode cL_clear 19 = .ok (.astore_n 3, 1) := by decide +kernel
theorem dL_clear_20 : decode cL_clear 20 = .ok (.iconst 1, 1) := by decide +kernel
theorem dL_clear_21 : decode cL_clear 21 = .ok (.ireturn, 1) := by decide +kernel
theorem dL_clear_22 : decode cL_clear 22 = .ok (.astore_n 3, 1) := by decide +kernel
theorem dL_clear_23 : decode cL_clear 23 = .ok (.iconst 2, 1) := by decide +kernel
theorem dL_clear_24 : decode cL_clear 24 = .ok (.ireturn, 1) := by decide +kernel
theorem dL_clear_25 : decode cL_clear 25 = .ok (.iconst 0, 1) := by decide +kernel
theorem dL_clear_26 : decode cL_clear 26 = .ok (.ireturn, 1) := by decide +kernel
theorem dL_keys_0 : decode cL_keys 0 = .ok (.aload_n 2, 1) := by decide +kernel
theorem dL_keys_1 : decode cL_keys 1 = .ok (.iconst 0, 1) := by decide +kernel
theorem dL_keys_2 : decode cL_keys 2 = .ok (.aload_n 0, 1) := by decide +kernel
theorem dL_keys_3 : decode cL_keys 3 = .ok (.iload_n 1, 1) := by decide +kernel
theorem dL_keys_4 : decode cL_keys 4 = .ok (.invokevirtual 58, 3) := by decide +kernel
theorem dL_keys_7 : decode cL_keys 7 = .ok (.i2l, 1) := by decide +kernel
theorem dL_keys_8 : decode cL_keys 8 = .ok (.lastore, 1) := by decide +kernel
theorem dL_keys_9 : decode cL_keys 9 = .ok (.goto 6, 3) := by decide +kernel
theorem dL_keys_12 : decode cL_keys 12 = .ok (.astore_n 3, 1) := by decide +kernel
theorem dL_keys_13 : decode cL_keys 13 = .ok (.iconst 1, 1) := by decide +kernel
theorem dL_keys_14 : decode cL_keys 14 = .ok (.ireturn, 1) := by decide +kernel
theorem dL_keys_15 : decode cL_keys 15 = .ok (.iconst 0, 1) := by decide +kernel
theorem dL_keys_16 : decode cL_keys 16 = .ok (.ireturn, 1) := by decide +kernel
theorem dL_keyAt_0 : decode cL_keyAt 0 = .ok (.aload_n 3, 1) := by decide +kernel
theorem dL_keyAt_1 : decode cL_keyAt 1 = .ok (.iconst 0, 1) := by decide +kernel
theorem dL_keyAt_2 : decode cL_keyAt 2 = .ok (.aload_n 0, 1) := by decide +kernel
theorem dL_keyAt_3 : decode cL_keyAt 3 = .ok (.iload_n 1, 1) := by decide +kernel
theorem dL_keyAt_4 : decode cL_keyAt 4 = .ok (.iload_n 2, 1) := by decide +kernel
theorem dL_keyAt_5 : decode cL_keyAt 5 = .ok (.invokevirtual 61, 3) := by decide +kernel
theorem dL_keyAt_8 : decode cL_keyAt 8 = .ok (.lastore, 1) := by decide +kernel
theorem dL_keyAt_9 : decode cL_keyAt 9 = .ok (.goto 7, 3) := by decide +kernel
theorem dL_keyAt_12 : decode cL_keyAt 12 = .ok (.astore 4, 2) := by decide +kernel
theorem dL_keyAt_14 : decode cL_keyAt 14 = .ok (.iconst 1, 1) := by decide +kernel
theorem dL_keyAt_15 : decode cL_keyAt 15 = .ok (.ireturn, 1) := by decide +kernel
theorem dL_keyAt_16 : decode cL_keyAt 16 = .ok (.iconst 0, 1) := by decide +kernel
theorem dL_keyAt_17 : decode cL_keyAt 17 = .ok (.ireturn, 1) := by decide +kernel
theorem dL_drop_0 : decode cL_drop 0 = .ok (.aload_n 2, 1) := by decide +kernel
theorem dL_drop_1 : decode cL_drop 1 = .ok (.iconst 0, 1) := by decide +kernel
theorem dL_drop_2 : decode cL_drop 2 = .ok (.aload_n 0, 1) := by decide +kernel
theorem dL_drop_3 : decode cL_drop 3 = .ok (.iload_n 1, 1) := by decide +kernel
theorem dL_drop_4 : decode cL_drop 4 = .ok (.invokevirtual 64, 3) := by decide +kernel
theorem dL_drop_7 : decode cL_drop 7 = .ok (.i2l, 1) := by decide +kernel
theorem dL_drop_8 : decode cL_drop 8 = .ok (.lastore, 1) := by decide +kernel
theorem dL_drop_9 : decode cL_drop 9 = .ok (.goto 6, 3) := by decide +kernel
theorem dL_drop_12 : decode cL_drop 12 = .ok (.astore_n 3, 1) := by decide +kernel
theorem dL_drop_13 : decode cL_drop 13 = .ok (.iconst 1, 1) := by decide +kernel
theorem dL_drop_14 : decode cL_drop 14 = .ok (.ireturn, 1) := by decide +kernel
theorem dL_drop_15 : decode cL_drop 15 = .ok (.iconst 0, 1) := by decide +kernel
theorem dL_drop_16 : decode cL_drop 16 = .ok (.ireturn, 1) := by decide +kernel
theorem dL_ask_0 : decode cL_ask 0 = .ok (.aload 7, 2) := by decide +kernel
