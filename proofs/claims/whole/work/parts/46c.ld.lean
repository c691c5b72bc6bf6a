theorem dL_ask_2 : decode cL_ask 2 = .ok (.iconst 0, 1) := by decide +kernel
theorem dL_ask_3 : decode cL_ask 3 = .ok (.aload_n 0, 1) := by decide +kernel
theorem dL_ask_4 : decode cL_ask 4 = .ok (.iload_n 1, 1) := by decide +kernel
theorem dL_ask_5 : decode cL_ask 5 = .ok (.iload_n 2, 1) := by decide +kernel
theorem dL_ask_6 : decode cL_ask 6 = .ok (.lload_n 3, 1) := by decide +kernel
theorem dL_ask_7 : decode cL_ask 7 = .ok (.iload 5, 2) := by decide +kernel
theorem dL_ask_9 : decode cL_ask 9 = .ok (.iload 6, 2) := by decide +kernel
theorem dL_ask_11 : decode cL_ask 11 = .ok (.invokevirtual 67, 3) := by decide +kernel
theorem dL_ask_14 : decode cL_ask 14 = .ok (.lastore, 1) := by decide +kernel
theorem dL_ask_15 : decode cL_ask 15 = .ok (.goto 11, 3) := by decide +kernel
theorem dL_ask_18 : decode cL_ask 18 = .ok (.astore 8, 2) := by decide +kernel
theorem dL_ask_20 : decode cL_ask 20 = .ok (.iconst 1, 1) := by decide +kernel
theorem dL_ask_21 : decode cL_ask 21 = .ok (.ireturn, 1) := by decide +kernel
theorem dL_ask_22 : decode cL_ask 22 = .ok (.astore 8, 2) := by decide +kernel
theorem dL_ask_24 : decode cL_ask 24 = .ok (.iconst 2, 1) := by decide +kernel
theorem dL_ask_25 : decode cL_ask 25 = .ok (.ireturn, 1) := by decide +kernel
theorem dL_ask_26 : decode cL_ask 26 = .ok (.iconst 0, 1) := by decide +kernel
theorem dL_ask_27 : decode cL_ask 27 = .ok (.ireturn, 1) := by decide +kernel
theorem dL_entries_0 : decode cL_entries 0 = .ok (.aload_n 3, 1) := by decide +kernel
theorem dL_entries_1 : decode cL_entries 1 = .ok (.iconst 0, 1) := by decide +kernel
theorem dL_entries_2 : decode cL_entries 2 = .ok (.aload_n 0, 1) := by decide +kernel
theorem dL_entries_3 : decode cL_entries 3 = .ok (.iload_n 1, 1) := by decide +kernel
theorem dL_entries_4 : decode cL_entries 4 = .ok (.iload_n 2, 1) := by decide +kernel
theorem dL_entries_5 : decode cL_entries 5 = .ok (.invokevirtual 71, 3) := by decide +kernel
theorem dL_entries_8 : decode cL_entries 8 = .ok (.i2l, 1) := by decide +kernel
theorem dL_entries_9 : decode cL_entries 9 = .ok (.lastore, 1) := by decide +kernel
theorem dL_entries_10 : decode cL_entries 10 = .ok (.goto 7, 3) := by decide +kernel
theorem dL_entries_13 : decode cL_entries 13 = .ok (.astore 4, 2) := by decide +kernel
theorem dL_entries_15 : decode cL_entries 15 = .ok (.iconst 1, 1) := by decide +kernel
theorem dL_entries_16 : decode cL_entries 16 = .ok (.ireturn, 1) := by decide +kernel
theorem dL_entries_17 : decode cL_entries 17 = .ok (.iconst 0, 1) := by decide +kernel
theorem dL_entries_18 : decode cL_entries 18 = .ok (.ireturn, 1) := by decide +kernel
theorem dL_restore_0 : decode cL_restore 0 = .ok (.aload_n 2, 1) := by decide +kernel
theorem dL_restore_1 : decode cL_restore 1 = .ok (.iconst 0, 1) := by decide +kernel
theorem dL_restore_2 : decode cL_restore 2 = .ok (.aload_n 0, 1) := by decide +kernel
theorem dL_restore_3 : decode cL_restore 3 = .ok (.iload_n 1, 1) := by decide +kernel
theorem dL_restore_4 : decode cL_restore 4 = .ok (.invokevirtual 75, 3) := by decide +kernel
theorem dL_restore_7 : decode cL_restore 7 = .ok (.i2l, 1) := by decide +kernel
theorem dL_restore_8 : decode cL_restore 8 = .ok (.lastore, 1) := by decide +kernel
theorem dL_restore_9 : decode cL_restore 9 = .ok (.goto 6, 3) := by decide +kernel
theorem dL_restore_12 : decode cL_restore 12 = .ok (.astore_n 3, 1) := by decide +kernel
theorem dL_restore_13 : decode cL_restore 13 = .ok (.iconst 1, 1) := by decide +kernel
theorem dL_restore_14 : decode cL_restore 14 = .ok (.ireturn, 1) := by decide +kernel
theorem dL_restore_15 : decode cL_restore 15 = .ok (.iconst 0, 1) := by decide +kernel
theorem dL_restore_16 : decode cL_restore 16 = .ok (.ireturn, 1) := by decide +kernel
theorem dL_move_0 : decode cL_move 0 = .ok (.aload 4, 2) := by decide +kernel
theorem dL_move_2 : decode cL_move 2 = .ok (.iconst 0, 1) := by decide +kernel
theorem dL_move_3 : decode cL_move 3 = .ok (.aload_n 0, 1) := by decide +kernel
theorem dL_move_4 : decode cL_move 4 = .ok (.iload_n 1, 1) := by decide +kernel
theorem dL_move_5 : decode cL_move 5 = .ok (.iload_n 2, 1) := by decide +kernel
theorem dL_move_6 : decode cL_move 6 = .ok (.iload_n 3, 1) := by decide +kernel
theorem dL_move_7 : decode cL_move 7 = .ok (.invokevirtual 78, 3) := by decide +kernel
theorem dL_move_10 : decode cL_move 10 = .ok (.i2l, 1) := by decide +kernel
theorem dL_move_11 : decode cL_move 11 = .ok (.lastore, 1) := by decide +kernel
theorem dL_move_12 : decode cL_move 12 = .ok (.goto 7, 3) := by decide +kernel
theorem dL_move_15 : decode cL_move 15 = .ok (.astore 5, 2) := by decide +kernel
theorem dL_move_17 : decode cL_move 17 = .ok (.iconst 1, 1) := by decide +kernel
theorem dL_move_18 : decode cL_move 18 = .ok (.ireturn, 1) := by decide +kernel
theorem dL_move_19 : decode cL_move 19 = .ok (.iconst 0, 1) := by decide +kernel
theorem dL_move_20 : decode cL_move 20 = .ok (.ireturn, 1) := by decide +kernel
theorem dL_of_0 : decode cL_of 0 = .ok (.aload_n 3, 1) := by decide +kernel
theorem dL_of_1 : decode cL_of 1 = .ok (.iconst 0, 1) := by decide +kernel
theorem dL_of_2 : decode cL_of 2 = .ok (.aload_n 0, 1) := by decide +kernel
theorem dL_of_3 : decode cL_of 3 = .ok (.iload_n 1, 1) := by decide +kernel
theorem dL_of_4 : decode cL_of 4 = .ok (.iload_n 2, 1) := by decide +kernel
theorem dL_of_5 : decode cL_of 5 = .ok (.invokevirtual 82, 3) := by decide +kernel
theorem dL_of_8 : decode cL_of 8 = .ok (.i2l, 1) := by decide +kernel
theorem dL_of_9 : decode cL_of 9 = .ok (.lastore, 1) := by decide +kernel
theorem dL_of_10 : decode cL_of 10 = .ok (.goto 7, 3) := by decide +kernel
theorem dL_of_13 : decode cL_of 13 = .ok (.astore 4, 2) := by decide +kernel
theorem dL_of_15 : decode cL_of 15 = .ok (.iconst 1, 1) := by decide +kernel
theorem dL_of_16 : decode cL_of 16 = .ok (.ireturn, 1) := by decide +kernel
theorem dL_of_17 : decode cL_of 17 = .ok (.iconst 0, 1) := by decide +kernel
theorem dL_of_18 : decode cL_of 18 = .ok (.ireturn, 1) := by decide +kernel
theorem dL_law_0 : decode cL_law 0 = .ok (.new 8, 3) := by decide +kernel
theorem dL_law_3 : decode cL_law 3 = .ok (.dup, 1) := by decide +kernel
theorem dL_law_4 : decode cL_law 4 = .ok (.invokespecial 85, 3) := by decide +kernel
theorem dL_law_7 : decode cL_law 7 = .ok (.astore_n 1, 1) := by decide +kernel
theorem dL_law_8 : decode cL_law 8 = .ok (.new 86, 3) := by decide +kernel
theorem dL_law_11 : decode cL_law 11 = .ok (.dup, 1) := by decide +kernel
theorem dL_law_12 : decode cL_law 12 = .ok (.invokespecial 88, 3) := by decide +kernel
theorem dL_law_15 : decode cL_law 15 = .ok (.astore_n 2, 1) := by decide +kernel
theorem dL_law_16 : decode cL_law 16 = .ok (.iconst 1, 1) := by decide +kernel
theorem dL_law_17 : decode cL_law 17 = .ok (.newarray .long, 2) := by decide +kernel
theorem dL_law_19 : decode cL_law 19 = .ok (.astore_n 3, 1) := by decide +kernel
theorem dL_law_20 : decode cL_law 20 = .ok (.iconst 0, 1) := by decide +kernel
theorem dL_law_21 : decode cL_law 21 = .ok (.istore 4, 2) := by decide +kernel
theorem dL_law_23 : decode cL_law 23 = .ok (.iload 4, 2) := by decide +kernel
theorem dL_law_25 : decode cL_law 25 = .ok (.aload_n 0, 1) := by decide +kernel
theorem dL_law_26 : decode cL_law 26 = .ok (.arraylength, 1) := by decide +kernel
theorem dL_law_27 : decode cL_law 27 = .ok (.bipush 7, 2) := by decide +kernel
theorem dL_law_29 : decode cL_law 29 = .ok (.isub, 1) := by decide +kernel
theorem dL_law_30 : decode cL_law 30 = .ok (.if_icmp .gt 1875, 3) := by decide +kernel
theorem dL_law_33 : decode cL_law 33 = .ok (.aload_n 0, 1) := by decide +kernel
theorem dL_law_34 : decode cL_law 34 = .ok (.iload 4, 2) := by decide +kernel
theorem dL_law_36 : decode cL_law 36 = .ok (.iaload, 1) := by decide +kernel
theorem dL_law_37 : decode cL_law 37 = .ok (.bipush 31, 2) := by decide +kernel
theorem dL_law_39 : decode cL_law 39 = .ok (.iand, 1) := by decide +kernel
theorem dL_law_40 : decode cL_law 40 = .ok (.tableswitch 1859 0 25 #[120, 169, 224, 237, 262, 362, 417, 517, 584, 728, 827, 894, 1001, 1101, 1157, 1220, 1233, 1289, 1356, 1369, 1425, 1562, 1630, 1686, 1766, 1834], 120) := by decide +kernel
theorem dL_law_160 : decode cL_law 160 = .ok (.aload_n 1, 1) := by decide +kernel
theorem dL_law_161 : decode cL_law 161 = .ok (.aload_n 0, 1) := by decide +kernel
theorem dL_law_162 : decode cL_law 162 = .ok (.iload 4, 2) := by decide +kernel
theorem dL_law_164 : decode cL_law 164 = .ok (.iconst 1, 1) := by decide +kernel
theorem dL_law_165 : decode cL_law 165 = .ok (.iadd, 1) := by decide +kernel
theorem dL_law_166 : decode cL_law 166 = .ok (.iaload, 1) := by decide +kernel
theorem dL_law_167 : decode cL_law 167 = .ok (.aload_n 0, 1) := by decide +kernel
theorem dL_law_168 : decode cL_law 168 = .ok (.iload 4, 2) := by decide +kernel
theorem dL_law_170 : decode cL_law 170 = .ok (.iconst 2, 1) := by decide +kernel
theorem dL_law_171 : decode cL_law 171 = .ok (.iadd, 1) := by decide +kernel
theorem dL_law_172 : decode cL_law 172 = .ok (.iaload, 1) := by decide +kernel
theorem dL_law_173 : decode cL_law 173 = .ok (.aload_n 0, 1) := by decide +kernel
theorem dL_law_174 : decode cL_law 174 = .ok (.iload 4, 2) := by decide +kernel
theorem dL_law_176 : decode cL_law 176 = .ok (.iconst 3, 1) := by decide +kernel
theorem dL_law_177 : decode cL_law 177 = .ok (.iadd, 1) := by decide +kernel
theorem dL_law_178 : decode cL_law 178 = .ok (.iaload, 1) := by decide +kernel
theorem dL_law_179 : decode cL_law 179 = .ok (.invokevirtual 89, 3) := by decide +kernel
theorem dL_law_182 : decode cL_law 182 = .ok (.aload_n 2, 1) := by decide +kernel
theorem dL_law_183 : decode cL_law 183 = .ok (.aload_n 0, 1) := by decide +kernel
theorem dL_law_184 : decode cL_law 184 = .ok (.iload 4, 2) := by decide +kernel
theorem dL_law_186 : decode cL_law 186 = .ok (.iconst 1, 1) := by decide +kernel
theorem dL_law_187 : decode cL_law 187 = .ok (.iadd, 1) := by decide +kernel
theorem dL_law_188 : decode cL_law 188 = .ok (.iaload, 1) := by decide +kernel
theorem dL_law_189 : decode cL_law 189 = .ok (.aload_n 0, 1) := by decide +kernel
theorem dL_law_190 : decode cL_law 190 = .ok (.iload 4, 2) := by decide +kernel
theorem dL_law_192 : decode cL_law 192 = .ok (.iconst 2, 1) := by decide +kernel
theorem dL_law_193 : decode cL_law 193 = .ok (.iadd, 1) := by decide +kernel
theorem dL_law_194 : decode cL_law 194 = .ok (.iaload, 1) := by decide +kernel
theorem dL_law_195 : decode cL_law 195 = .ok (.aload_n 0, 1) := by decide +kernel
theorem dL_law_196 : decode cL_law 196 = .ok (.iload 4, 2) := by decide +kernel
theorem dL_law_198 : decode cL_law 198 = .ok (.iconst 3, 1) := by decide +kernel
