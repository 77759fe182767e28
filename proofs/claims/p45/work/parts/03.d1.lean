theorem dX6_deleteBefore_21 : decode cX6_deleteBefore 21 = .ok (.ireturn, 1) := by decide +kernel
theorem dX6_deletePart_0 : decode cX6_deletePart 0 = .ok (.iload_n 2, 1) := by decide +kernel
theorem dX6_deletePart_1 : decode cX6_deletePart 1 = .ok (.ifCond .le 45, 3) := by decide +kernel
theorem dX6_deletePart_4 : decode cX6_deletePart 4 = .ok (.aload_n 0, 1) := by decide +kernel
theorem dX6_deletePart_5 : decode cX6_deletePart 5 = .ok (.getfield 14, 3) := by decide +kernel
theorem dX6_deletePart_8 : decode cX6_deletePart 8 = .ok (.iload_n 1, 1) := by decide +kernel
theorem dX6_deletePart_9 : decode cX6_deletePart 9 = .ok (.iload_n 2, 1) := by decide +kernel
theorem dX6_deletePart_10 : decode cX6_deletePart 10 = .ok (.invokevirtual 94, 3) := by decide +kernel
theorem dX6_deletePart_13 : decode cX6_deletePart 13 = .ok (.aload_n 0, 1) := by decide +kernel
theorem dX6_deletePart_14 : decode cX6_deletePart 14 = .ok (.getfield 33, 3) := by decide +kernel
theorem dX6_deletePart_17 : decode cX6_deletePart 17 = .ok (.aload_n 0, 1) := by decide +kernel
theorem dX6_deletePart_18 : decode cX6_deletePart 18 = .ok (.getfield 37, 3) := by decide +kernel
theorem dX6_deletePart_21 : decode cX6_deletePart 21 = .ok (.iload_n 1, 1) := by decide +kernel
theorem dX6_deletePart_22 : decode cX6_deletePart 22 = .ok (.aload_n 0, 1) := by decide +kernel
theorem dX6_deletePart_23 : decode cX6_deletePart 23 = .ok (.getfield 14, 3) := by decide +kernel
theorem dX6_deletePart_26 : decode cX6_deletePart 26 = .ok (.invokevirtual 48, 3) := by decide +kernel
theorem dX6_deletePart_29 : decode cX6_deletePart 29 = .ok (.invokevirtual 97, 3) := by decide +kernel
theorem dX6_deletePart_32 : decode cX6_deletePart 32 = .ok (.aload_n 0, 1) := by decide +kernel
theorem dX6_deletePart_33 : decode cX6_deletePart 33 = .ok (.getfield 26, 3) := by decide +kernel
theorem dX6_deletePart_36 : decode cX6_deletePart 36 = .ok (.iload_n 1, 1) := by decide +kernel
theorem dX6_deletePart_37 : decode cX6_deletePart 37 = .ok (.iload_n 2, 1) := by decide +kernel
theorem dX6_deletePart_38 : decode cX6_deletePart 38 = .ok (.invokevirtual 100, 3) := by decide +kernel
theorem dX6_deletePart_41 : decode cX6_deletePart 41 = .ok (.aload_n 0, 1) := by decide +kernel
theorem dX6_deletePart_42 : decode cX6_deletePart 42 = .ok (.iload_n 1, 1) := by decide +kernel
theorem dX6_deletePart_43 : decode cX6_deletePart 43 = .ok (.putfield 37, 3) := by decide +kernel
theorem dX6_deletePart_46 : decode cX6_deletePart 46 = .ok (.aload_n 0, 1) := by decide +kernel
theorem dX6_deletePart_47 : decode cX6_deletePart 47 = .ok (.aload_n 0, 1) := by decide +kernel
theorem dX6_deletePart_48 : decode cX6_deletePart 48 = .ok (.invokevirtual 71, 3) := by decide +kernel
theorem dX6_deletePart_51 : decode cX6_deletePart 51 = .ok (.putfield 41, 3) := by decide +kernel
theorem dX6_deletePart_54 : decode cX6_deletePart 54 = .ok (.return_, 1) := by decide +kernel
theorem dX6_copyRegion_0 : decode cX6_copyRegion 0 = .ok (.aload_n 0, 1) := by decide +kernel
theorem dX6_copyRegion_1 : decode cX6_copyRegion 1 = .ok (.getfield 26, 3) := by decide +kernel
theorem dX6_copyRegion_4 : decode cX6_copyRegion 4 = .ok (.iload_n 1, 1) := by decide +kernel
theorem dX6_copyRegion_5 : decode cX6_copyRegion 5 = .ok (.invokevirtual 56, 3) := by decide +kernel
theorem dX6_copyRegion_8 : decode cX6_copyRegion 8 = .ok (.istore_n 2, 1) := by decide +kernel
theorem dX6_copyRegion_9 : decode cX6_copyRegion 9 = .ok (.iload_n 2, 1) := by decide +kernel
theorem dX6_copyRegion_10 : decode cX6_copyRegion 10 = .ok (.aload_n 0, 1) := by decide +kernel
theorem dX6_copyRegion_11 : decode cX6_copyRegion 11 = .ok (.getfield 37, 3) := by decide +kernel
theorem dX6_copyRegion_14 : decode cX6_copyRegion 14 = .ok (.invokestatic 87, 3) := by decide +kernel
theorem dX6_copyRegion_17 : decode cX6_copyRegion 17 = .ok (.istore_n 3, 1) := by decide +kernel
theorem dX6_copyRegion_18 : decode cX6_copyRegion 18 = .ok (.aload_n 0, 1) := by decide +kernel
theorem dX6_copyRegion_19 : decode cX6_copyRegion 19 = .ok (.getfield 20, 3) := by decide +kernel
theorem dX6_copyRegion_22 : decode cX6_copyRegion 22 = .ok (.aload_n 0, 1) := by decide +kernel
theorem dX6_copyRegion_23 : decode cX6_copyRegion 23 = .ok (.getfield 14, 3) := by decide +kernel
theorem dX6_copyRegion_26 : decode cX6_copyRegion 26 = .ok (.iload_n 3, 1) := by decide +kernel
theorem dX6_copyRegion_27 : decode cX6_copyRegion 27 = .ok (.iload_n 2, 1) := by decide +kernel
theorem dX6_copyRegion_28 : decode cX6_copyRegion 28 = .ok (.aload_n 0, 1) := by decide +kernel
theorem dX6_copyRegion_29 : decode cX6_copyRegion 29 = .ok (.getfield 37, 3) := by decide +kernel
theorem dX6_copyRegion_32 : decode cX6_copyRegion 32 = .ok (.invokestatic 103, 3) := by decide +kernel
theorem dX6_copyRegion_35 : decode cX6_copyRegion 35 = .ok (.iload_n 3, 1) := by decide +kernel
theorem dX6_copyRegion_36 : decode cX6_copyRegion 36 = .ok (.isub, 1) := by decide +kernel
theorem dX6_copyRegion_37 : decode cX6_copyRegion 37 = .ok (.invokevirtual 106, 3) := by decide +kernel
theorem dX6_copyRegion_40 : decode cX6_copyRegion 40 = .ok (.return_, 1) := by decide +kernel
theorem dX6_cutRegion_0 : decode cX6_cutRegion 0 = .ok (.aload_n 0, 1) := by decide +kernel
theorem dX6_cutRegion_1 : decode cX6_cutRegion 1 = .ok (.iload_n 1, 1) := by decide +kernel
theorem dX6_cutRegion_2 : decode cX6_cutRegion 2 = .ok (.invokevirtual 110, 3) := by decide +kernel
theorem dX6_cutRegion_5 : decode cX6_cutRegion 5 = .ok (.aload_n 0, 1) := by decide +kernel
theorem dX6_cutRegion_6 : decode cX6_cutRegion 6 = .ok (.aload_n 0, 1) := by decide +kernel
theorem dX6_cutRegion_7 : decode cX6_cutRegion 7 = .ok (.getfield 26, 3) := by decide +kernel
theorem dX6_cutRegion_10 : decode cX6_cutRegion 10 = .ok (.iload_n 1, 1) := by decide +kernel
theorem dX6_cutRegion_11 : decode cX6_cutRegion 11 = .ok (.invokevirtual 56, 3) := by decide +kernel
theorem dX6_cutRegion_14 : decode cX6_cutRegion 14 = .ok (.aload_n 0, 1) := by decide +kernel
theorem dX6_cutRegion_15 : decode cX6_cutRegion 15 = .ok (.getfield 37, 3) := by decide +kernel
theorem dX6_cutRegion_18 : decode cX6_cutRegion 18 = .ok (.invokestatic 87, 3) := by decide +kernel
theorem dX6_cutRegion_21 : decode cX6_cutRegion 21 = .ok (.aload_n 0, 1) := by decide +kernel
theorem dX6_cutRegion_22 : decode cX6_cutRegion 22 = .ok (.getfield 20, 3) := by decide +kernel
theorem dX6_cutRegion_25 : decode cX6_cutRegion 25 = .ok (.invokevirtual 48, 3) := by decide +kernel
theorem dX6_cutRegion_28 : decode cX6_cutRegion 28 = .ok (.invokevirtual 91, 3) := by decide +kernel
theorem dX6_cutRegion_31 : decode cX6_cutRegion 31 = .ok (.return_, 1) := by decide +kernel
theorem dX6_moveCaret_0 : decode cX6_moveCaret 0 = .ok (.aload_n 0, 1) := by decide +kernel
theorem dX6_moveCaret_1 : decode cX6_moveCaret 1 = .ok (.iload_n 1, 1) := by decide +kernel
theorem dX6_moveCaret_2 : decode cX6_moveCaret 2 = .ok (.putfield 37, 3) := by decide +kernel
theorem dX6_moveCaret_5 : decode cX6_moveCaret 5 = .ok (.aload_n 0, 1) := by decide +kernel
theorem dX6_moveCaret_6 : decode cX6_moveCaret 6 = .ok (.aload_n 0, 1) := by decide +kernel
theorem dX6_moveCaret_7 : decode cX6_moveCaret 7 = .ok (.invokevirtual 71, 3) := by decide +kernel
theorem dX6_moveCaret_10 : decode cX6_moveCaret 10 = .ok (.putfield 41, 3) := by decide +kernel
theorem dX6_moveCaret_13 : decode cX6_moveCaret 13 = .ok (.aload_n 0, 1) := by decide +kernel
theorem dX6_moveCaret_14 : decode cX6_moveCaret 14 = .ok (.invokevirtual 113, 3) := by decide +kernel
theorem dX6_moveCaret_17 : decode cX6_moveCaret 17 = .ok (.ireturn, 1) := by decide +kernel
theorem dX6_letGapFollow_0 : decode cX6_letGapFollow 0 = .ok (.aload_n 0, 1) := by decide +kernel
theorem dX6_letGapFollow_1 : decode cX6_letGapFollow 1 = .ok (.getfield 44, 3) := by decide +kernel
theorem dX6_letGapFollow_4 : decode cX6_letGapFollow 4 = .ok (.ifCond .eq 17, 3) := by decide +kernel
theorem dX6_letGapFollow_7 : decode cX6_letGapFollow 7 = .ok (.aload_n 0, 1) := by decide +kernel
theorem dX6_letGapFollow_8 : decode cX6_letGapFollow 8 = .ok (.getfield 33, 3) := by decide +kernel
theorem dX6_letGapFollow_11 : decode cX6_letGapFollow 11 = .ok (.aload_n 0, 1) := by decide +kernel
theorem dX6_letGapFollow_12 : decode cX6_letGapFollow 12 = .ok (.getfield 37, 3) := by decide +kernel
theorem dX6_letGapFollow_15 : decode cX6_letGapFollow 15 = .ok (.invokevirtual 116, 3) := by decide +kernel
theorem dX6_letGapFollow_18 : decode cX6_letGapFollow 18 = .ok (.goto 4, 3) := by decide +kernel
theorem dX6_letGapFollow_21 : decode cX6_letGapFollow 21 = .ok (.iconst 0, 1) := by decide +kernel
theorem dX6_letGapFollow_22 : decode cX6_letGapFollow 22 = .ok (.ireturn, 1) := by decide +kernel
theorem dX6_moveUp_0 : decode cX6_moveUp 0 = .ok (.aload_n 0, 1) := by decide +kernel
theorem dX6_moveUp_1 : decode cX6_moveUp 1 = .ok (.getfield 14, 3) := by decide +kernel
theorem dX6_moveUp_4 : decode cX6_moveUp 4 = .ok (.aload_n 0, 1) := by decide +kernel
theorem dX6_moveUp_5 : decode cX6_moveUp 5 = .ok (.getfield 37, 3) := by decide +kernel
theorem dX6_moveUp_8 : decode cX6_moveUp 8 = .ok (.invokevirtual 119, 3) := by decide +kernel
theorem dX6_moveUp_11 : decode cX6_moveUp 11 = .ok (.istore_n 1, 1) := by decide +kernel
theorem dX6_moveUp_12 : decode cX6_moveUp 12 = .ok (.iload_n 1, 1) := by decide +kernel
theorem dX6_moveUp_13 : decode cX6_moveUp 13 = .ok (.ifCond .le 10, 3) := by decide +kernel
theorem dX6_moveUp_16 : decode cX6_moveUp 16 = .ok (.aload_n 0, 1) := by decide +kernel
theorem dX6_moveUp_17 : decode cX6_moveUp 17 = .ok (.iload_n 1, 1) := by decide +kernel
theorem dX6_moveUp_18 : decode cX6_moveUp 18 = .ok (.iconst 1, 1) := by decide +kernel
theorem dX6_moveUp_19 : decode cX6_moveUp 19 = .ok (.isub, 1) := by decide +kernel
theorem dX6_moveUp_20 : decode cX6_moveUp 20 = .ok (.invokevirtual 122, 3) := by decide +kernel
theorem dX6_moveUp_23 : decode cX6_moveUp 23 = .ok (.return_, 1) := by decide +kernel
theorem dX6_moveDown_0 : decode cX6_moveDown 0 = .ok (.aload_n 0, 1) := by decide +kernel
theorem dX6_moveDown_1 : decode cX6_moveDown 1 = .ok (.getfield 14, 3) := by decide +kernel
theorem dX6_moveDown_4 : decode cX6_moveDown 4 = .ok (.aload_n 0, 1) := by decide +kernel
theorem dX6_moveDown_5 : decode cX6_moveDown 5 = .ok (.getfield 37, 3) := by decide +kernel
theorem dX6_moveDown_8 : decode cX6_moveDown 8 = .ok (.invokevirtual 125, 3) := by decide +kernel
theorem dX6_moveDown_11 : decode cX6_moveDown 11 = .ok (.istore_n 1, 1) := by decide +kernel
theorem dX6_moveDown_12 : decode cX6_moveDown 12 = .ok (.iload_n 1, 1) := by decide +kernel
theorem dX6_moveDown_13 : decode cX6_moveDown 13 = .ok (.aload_n 0, 1) := by decide +kernel
theorem dX6_moveDown_14 : decode cX6_moveDown 14 = .ok (.getfield 14, 3) := by decide +kernel
theorem dX6_moveDown_17 : decode cX6_moveDown 17 = .ok (.invokevirtual 48, 3) := by decide +kernel
theorem dX6_moveDown_20 : decode cX6_moveDown 20 = .ok (.if_icmp .ge 10, 3) := by decide +kernel
theorem dX6_moveDown_23 : decode cX6_moveDown 23 = .ok (.aload_n 0, 1) := by decide +kernel
theorem dX6_moveDown_24 : decode cX6_moveDown 24 = .ok (.iload_n 1, 1) := by decide +kernel
theorem dX6_moveDown_25 : decode cX6_moveDown 25 = .ok (.iconst 1, 1) := by decide +kernel
theorem dX6_moveDown_26 : decode cX6_moveDown 26 = .ok (.iadd, 1) := by decide +kernel
theorem dX6_moveDown_27 : decode cX6_moveDown 27 = .ok (.invokevirtual 122, 3) := by decide +kernel
theorem dX6_moveDown_30 : decode cX6_moveDown 30 = .ok (.return_, 1) := by decide +kernel
theorem dX6_moveToGoal_0 : decode cX6_moveToGoal 0 = .ok (.aload_n 0, 1) := by decide +kernel
theorem dX6_moveToGoal_1 : decode cX6_moveToGoal 1 = .ok (.getfield 14, 3) := by decide +kernel
theorem dX6_moveToGoal_4 : decode cX6_moveToGoal 4 = .ok (.iload_n 1, 1) := by decide +kernel
theorem dX6_moveToGoal_5 : decode cX6_moveToGoal 5 = .ok (.invokevirtual 119, 3) := by decide +kernel
theorem dX6_moveToGoal_8 : decode cX6_moveToGoal 8 = .ok (.aload_n 0, 1) := by decide +kernel
theorem dX6_moveToGoal_9 : decode cX6_moveToGoal 9 = .ok (.getfield 41, 3) := by decide +kernel
theorem dX6_moveToGoal_12 : decode cX6_moveToGoal 12 = .ok (.iadd, 1) := by decide +kernel
theorem dX6_moveToGoal_13 : decode cX6_moveToGoal 13 = .ok (.istore_n 2, 1) := by decide +kernel
theorem dX6_moveToGoal_14 : decode cX6_moveToGoal 14 = .ok (.aload_n 0, 1) := by decide +kernel
theorem dX6_moveToGoal_15 : decode cX6_moveToGoal 15 = .ok (.iload_n 2, 1) := by decide +kernel
theorem dX6_moveToGoal_16 : decode cX6_moveToGoal 16 = .ok (.aload_n 0, 1) := by decide +kernel
theorem dX6_moveToGoal_17 : decode cX6_moveToGoal 17 = .ok (.getfield 14, 3) := by decide +kernel
theorem dX6_moveToGoal_20 : decode cX6_moveToGoal 20 = .ok (.iload_n 1, 1) := by decide +kernel
theorem dX6_moveToGoal_21 : decode cX6_moveToGoal 21 = .ok (.invokevirtual 125, 3) := by decide +kernel
theorem dX6_moveToGoal_24 : decode cX6_moveToGoal 24 = .ok (.invokestatic 87, 3) := by decide +kernel
theorem dX6_moveToGoal_27 : decode cX6_moveToGoal 27 = .ok (.putfield 37, 3) := by decide +kernel
theorem dX6_moveToGoal_30 : decode cX6_moveToGoal 30 = .ok (.aload_n 0, 1) := by decide +kernel
theorem dX6_moveToGoal_31 : decode cX6_moveToGoal 31 = .ok (.invokevirtual 113, 3) := by decide +kernel
theorem dX6_moveToGoal_34 : decode cX6_moveToGoal 34 = .ok (.pop, 1) := by decide +kernel
theorem dX6_moveToGoal_35 : decode cX6_moveToGoal 35 = .ok (.return_, 1) := by decide +kernel
theorem dX6_caretColumn_0 : decode cX6_caretColumn 0 = .ok (.aload_n 0, 1) := by decide +kernel
theorem dX6_caretColumn_1 : decode cX6_caretColumn 1 = .ok (.getfield 37, 3) := by decide +kernel
theorem dX6_caretColumn_4 : decode cX6_caretColumn 4 = .ok (.aload_n 0, 1) := by decide +kernel
theorem dX6_caretColumn_5 : decode cX6_caretColumn 5 = .ok (.getfield 14, 3) := by decide +kernel
theorem dX6_caretColumn_8 : decode cX6_caretColumn 8 = .ok (.aload_n 0, 1) := by decide +kernel
theorem dX6_caretColumn_9 : decode cX6_caretColumn 9 = .ok (.getfield 37, 3) := by decide +kernel
theorem dX6_caretColumn_12 : decode cX6_caretColumn 12 = .ok (.invokevirtual 119, 3) := by decide +kernel
theorem dX6_caretColumn_15 : decode cX6_caretColumn 15 = .ok (.isub, 1) := by decide +kernel
theorem dX6_caretColumn_16 : decode cX6_caretColumn 16 = .ok (.ireturn, 1) := by decide +kernel
theorem dX6_cellAt_0 : decode cX6_cellAt 0 = .ok (.iload_n 1, 1) := by decide +kernel
theorem dX6_cellAt_1 : decode cX6_cellAt 1 = .ok (.aload_n 0, 1) := by decide +kernel
theorem dX6_cellAt_2 : decode cX6_cellAt 2 = .ok (.getfield 33, 3) := by decide +kernel
theorem dX6_cellAt_5 : decode cX6_cellAt 5 = .ok (.getfield 128, 3) := by decide +kernel
theorem dX6_cellAt_8 : decode cX6_cellAt 8 = .ok (.if_icmp .ge 12, 3) := by decide +kernel
theorem dX6_cellAt_11 : decode cX6_cellAt 11 = .ok (.aload_n 0, 1) := by decide +kernel
theorem dX6_cellAt_12 : decode cX6_cellAt 12 = .ok (.getfield 14, 3) := by decide +kernel
theorem dX6_cellAt_15 : decode cX6_cellAt 15 = .ok (.iload_n 1, 1) := by decide +kernel
theorem dX6_cellAt_16 : decode cX6_cellAt 16 = .ok (.invokevirtual 74, 3) := by decide +kernel
theorem dX6_cellAt_19 : decode cX6_cellAt 19 = .ok (.ireturn, 1) := by decide +kernel
theorem dX6_cellAt_20 : decode cX6_cellAt 20 = .ok (.aload_n 0, 1) := by decide +kernel
theorem dX6_cellAt_21 : decode cX6_cellAt 21 = .ok (.getfield 33, 3) := by decide +kernel
theorem dX6_cellAt_24 : decode cX6_cellAt 24 = .ok (.getfield 131, 3) := by decide +kernel
theorem dX6_cellAt_27 : decode cX6_cellAt 27 = .ok (.aload_n 0, 1) := by decide +kernel
theorem dX6_cellAt_28 : decode cX6_cellAt 28 = .ok (.getfield 14, 3) := by decide +kernel
theorem dX6_cellAt_31 : decode cX6_cellAt 31 = .ok (.invokevirtual 48, 3) := by decide +kernel
theorem dX6_cellAt_34 : decode cX6_cellAt 34 = .ok (.isub, 1) := by decide +kernel
theorem dX6_cellAt_35 : decode cX6_cellAt 35 = .ok (.istore_n 2, 1) := by decide +kernel
theorem dX6_cellAt_36 : decode cX6_cellAt 36 = .ok (.iload_n 1, 1) := by decide +kernel
theorem dX6_cellAt_37 : decode cX6_cellAt 37 = .ok (.aload_n 0, 1) := by decide +kernel
theorem dX6_cellAt_38 : decode cX6_cellAt 38 = .ok (.getfield 33, 3) := by decide +kernel
theorem dX6_cellAt_41 : decode cX6_cellAt 41 = .ok (.getfield 128, 3) := by decide +kernel
theorem dX6_cellAt_44 : decode cX6_cellAt 44 = .ok (.iload_n 2, 1) := by decide +kernel
theorem dX6_cellAt_45 : decode cX6_cellAt 45 = .ok (.iadd, 1) := by decide +kernel
theorem dX6_cellAt_46 : decode cX6_cellAt 46 = .ok (.if_icmp .ge 7, 3) := by decide +kernel
theorem dX6_cellAt_49 : decode cX6_cellAt 49 = .ok (.iconst (-1), 1) := by decide +kernel
theorem dX6_cellAt_50 : decode cX6_cellAt 50 = .ok (.goto 13, 3) := by decide +kernel
theorem dX6_cellAt_53 : decode cX6_cellAt 53 = .ok (.aload_n 0, 1) := by decide +kernel
theorem dX6_cellAt_54 : decode cX6_cellAt 54 = .ok (.getfield 14, 3) := by decide +kernel
theorem dX6_cellAt_57 : decode cX6_cellAt 57 = .ok (.iload_n 1, 1) := by decide +kernel
theorem dX6_cellAt_58 : decode cX6_cellAt 58 = .ok (.iload_n 2, 1) := by decide +kernel
theorem dX6_cellAt_59 : decode cX6_cellAt 59 = .ok (.isub, 1) := by decide +kernel
theorem dX6_cellAt_60 : decode cX6_cellAt 60 = .ok (.invokevirtual 74, 3) := by decide +kernel
theorem dX6_cellAt_63 : decode cX6_cellAt 63 = .ok (.ireturn, 1) := by decide +kernel
theorem dX6_hash_0 : decode cX6_hash 0 = .ok (.ldc2_w 134, 3) := by decide +kernel
theorem dX6_hash_3 : decode cX6_hash 3 = .ok (.aload_n 0, 1) := by decide +kernel
theorem dX6_hash_4 : decode cX6_hash 4 = .ok (.getfield 14, 3) := by decide +kernel
theorem dX6_hash_7 : decode cX6_hash 7 = .ok (.invokevirtual 48, 3) := by decide +kernel
theorem dX6_hash_10 : decode cX6_hash 10 = .ok (.i2l, 1) := by decide +kernel
theorem dX6_hash_11 : decode cX6_hash 11 = .ok (.ladd, 1) := by decide +kernel
theorem dX6_hash_12 : decode cX6_hash 12 = .ok (.lstore_n 1, 1) := by decide +kernel
theorem dX6_hash_13 : decode cX6_hash 13 = .ok (.ldc2_w 136, 3) := by decide +kernel
theorem dX6_hash_16 : decode cX6_hash 16 = .ok (.lload_n 1, 1) := by decide +kernel
theorem dX6_hash_17 : decode cX6_hash 17 = .ok (.lmul, 1) := by decide +kernel
theorem dX6_hash_18 : decode cX6_hash 18 = .ok (.aload_n 0, 1) := by decide +kernel
theorem dX6_hash_19 : decode cX6_hash 19 = .ok (.getfield 37, 3) := by decide +kernel
theorem dX6_hash_22 : decode cX6_hash 22 = .ok (.i2l, 1) := by decide +kernel
theorem dX6_hash_23 : decode cX6_hash 23 = .ok (.ladd, 1) := by decide +kernel
theorem dX6_hash_24 : decode cX6_hash 24 = .ok (.lstore_n 1, 1) := by decide +kernel
theorem dX6_hash_25 : decode cX6_hash 25 = .ok (.ldc2_w 136, 3) := by decide +kernel
theorem dX6_hash_28 : decode cX6_hash 28 = .ok (.lload_n 1, 1) := by decide +kernel
theorem dX6_hash_29 : decode cX6_hash 29 = .ok (.lmul, 1) := by decide +kernel
theorem dX6_hash_30 : decode cX6_hash 30 = .ok (.aload_n 0, 1) := by decide +kernel
theorem dX6_hash_31 : decode cX6_hash 31 = .ok (.getfield 33, 3) := by decide +kernel
theorem dX6_hash_34 : decode cX6_hash 34 = .ok (.getfield 131, 3) := by decide +kernel
theorem dX6_hash_37 : decode cX6_hash 37 = .ok (.i2l, 1) := by decide +kernel
theorem dX6_hash_38 : decode cX6_hash 38 = .ok (.ladd, 1) := by decide +kernel
theorem dX6_hash_39 : decode cX6_hash 39 = .ok (.lstore_n 1, 1) := by decide +kernel
theorem dX6_hash_40 : decode cX6_hash 40 = .ok (.ldc2_w 136, 3) := by decide +kernel
theorem dX6_hash_43 : decode cX6_hash 43 = .ok (.lload_n 1, 1) := by decide +kernel
theorem dX6_hash_44 : decode cX6_hash 44 = .ok (.lmul, 1) := by decide +kernel
theorem dX6_hash_45 : decode cX6_hash 45 = .ok (.aload_n 0, 1) := by decide +kernel
theorem dX6_hash_46 : decode cX6_hash 46 = .ok (.getfield 33, 3) := by decide +kernel
theorem dX6_hash_49 : decode cX6_hash 49 = .ok (.getfield 128, 3) := by decide +kernel
theorem dX6_hash_52 : decode cX6_hash 52 = .ok (.i2l, 1) := by decide +kernel
theorem dX6_hash_53 : decode cX6_hash 53 = .ok (.ladd, 1) := by decide +kernel
theorem dX6_hash_54 : decode cX6_hash 54 = .ok (.lstore_n 1, 1) := by decide +kernel
theorem dX6_hash_55 : decode cX6_hash 55 = .ok (.ldc2_w 136, 3) := by decide +kernel
theorem dX6_hash_58 : decode cX6_hash 58 = .ok (.lload_n 1, 1) := by decide +kernel
theorem dX6_hash_59 : decode cX6_hash 59 = .ok (.lmul, 1) := by decide +kernel
theorem dX6_hash_60 : decode cX6_hash 60 = .ok (.aload_n 0, 1) := by decide +kernel
theorem dX6_hash_61 : decode cX6_hash 61 = .ok (.getfield 33, 3) := by decide +kernel
theorem dX6_hash_64 : decode cX6_hash 64 = .ok (.getfield 138, 3) := by decide +kernel
theorem dX6_hash_67 : decode cX6_hash 67 = .ok (.i2l, 1) := by decide +kernel
theorem dX6_hash_68 : decode cX6_hash 68 = .ok (.ladd, 1) := by decide +kernel
theorem dX6_hash_69 : decode cX6_hash 69 = .ok (.lstore_n 1, 1) := by decide +kernel
theorem dX6_hash_70 : decode cX6_hash 70 = .ok (.ldc2_w 136, 3) := by decide +kernel
theorem dX6_hash_73 : decode cX6_hash 73 = .ok (.lload_n 1, 1) := by decide +kernel
theorem dX6_hash_74 : decode cX6_hash 74 = .ok (.lmul, 1) := by decide +kernel
theorem dX6_hash_75 : decode cX6_hash 75 = .ok (.aload_n 0, 1) := by decide +kernel
theorem dX6_hash_76 : decode cX6_hash 76 = .ok (.getfield 33, 3) := by decide +kernel
theorem dX6_hash_79 : decode cX6_hash 79 = .ok (.getfield 141, 3) := by decide +kernel
theorem dX6_hash_82 : decode cX6_hash 82 = .ok (.i2l, 1) := by decide +kernel
theorem dX6_hash_83 : decode cX6_hash 83 = .ok (.ladd, 1) := by decide +kernel
theorem dX6_hash_84 : decode cX6_hash 84 = .ok (.lstore_n 1, 1) := by decide +kernel
theorem dX6_hash_85 : decode cX6_hash 85 = .ok (.ldc2_w 136, 3) := by decide +kernel
theorem dX6_hash_88 : decode cX6_hash 88 = .ok (.lload_n 1, 1) := by decide +kernel
theorem dX6_hash_89 : decode cX6_hash 89 = .ok (.lmul, 1) := by decide +kernel
theorem dX6_hash_90 : decode cX6_hash 90 = .ok (.aload_n 0, 1) := by decide +kernel
theorem dX6_hash_91 : decode cX6_hash 91 = .ok (.getfield 33, 3) := by decide +kernel
theorem dX6_hash_94 : decode cX6_hash 94 = .ok (.getfield 144, 3) := by decide +kernel
theorem dX6_hash_97 : decode cX6_hash 97 = .ok (.i2l, 1) := by decide +kernel
theorem dX6_hash_98 : decode cX6_hash 98 = .ok (.ladd, 1) := by decide +kernel
theorem dX6_hash_99 : decode cX6_hash 99 = .ok (.lstore_n 1, 1) := by decide +kernel
theorem dX6_hash_100 : decode cX6_hash 100 = .ok (.ldc2_w 136, 3) := by decide +kernel
theorem dX6_hash_103 : decode cX6_hash 103 = .ok (.lload_n 1, 1) := by decide +kernel
theorem dX6_hash_104 : decode cX6_hash 104 = .ok (.lmul, 1) := by decide +kernel
theorem dX6_hash_105 : decode cX6_hash 105 = .ok (.aload_n 0, 1) := by decide +kernel
theorem dX6_hash_106 : decode cX6_hash 106 = .ok (.getfield 33, 3) := by decide +kernel
theorem dX6_hash_109 : decode cX6_hash 109 = .ok (.getfield 147, 3) := by decide +kernel
theorem dX6_hash_112 : decode cX6_hash 112 = .ok (.i2l, 1) := by decide +kernel
theorem dX6_hash_113 : decode cX6_hash 113 = .ok (.ladd, 1) := by decide +kernel
theorem dX6_hash_114 : decode cX6_hash 114 = .ok (.lstore_n 1, 1) := by decide +kernel
theorem dX6_hash_115 : decode cX6_hash 115 = .ok (.ldc2_w 136, 3) := by decide +kernel
theorem dX6_hash_118 : decode cX6_hash 118 = .ok (.lload_n 1, 1) := by decide +kernel
theorem dX6_hash_119 : decode cX6_hash 119 = .ok (.lmul, 1) := by decide +kernel
theorem dX6_hash_120 : decode cX6_hash 120 = .ok (.aload_n 0, 1) := by decide +kernel
theorem dX6_hash_121 : decode cX6_hash 121 = .ok (.getfield 14, 3) := by decide +kernel
theorem dX6_hash_124 : decode cX6_hash 124 = .ok (.invokevirtual 150, 3) := by decide +kernel
theorem dX6_hash_127 : decode cX6_hash 127 = .ok (.i2l, 1) := by decide +kernel
theorem dX6_hash_128 : decode cX6_hash 128 = .ok (.ladd, 1) := by decide +kernel
theorem dX6_hash_129 : decode cX6_hash 129 = .ok (.lstore_n 1, 1) := by decide +kernel
theorem dX6_hash_130 : decode cX6_hash 130 = .ok (.ldc2_w 136, 3) := by decide +kernel
theorem dX6_hash_133 : decode cX6_hash 133 = .ok (.lload_n 1, 1) := by decide +kernel
theorem dX6_hash_134 : decode cX6_hash 134 = .ok (.lmul, 1) := by decide +kernel
theorem dX6_hash_135 : decode cX6_hash 135 = .ok (.aload_n 0, 1) := by decide +kernel
theorem dX6_hash_136 : decode cX6_hash 136 = .ok (.invokevirtual 71, 3) := by decide +kernel
theorem dX6_hash_139 : decode cX6_hash 139 = .ok (.i2l, 1) := by decide +kernel
theorem dX6_hash_140 : decode cX6_hash 140 = .ok (.ladd, 1) := by decide +kernel
theorem dX6_hash_141 : decode cX6_hash 141 = .ok (.lstore_n 1, 1) := by decide +kernel
theorem dX6_hash_142 : decode cX6_hash 142 = .ok (.ldc2_w 136, 3) := by decide +kernel
theorem dX6_hash_145 : decode cX6_hash 145 = .ok (.lload_n 1, 1) := by decide +kernel
theorem dX6_hash_146 : decode cX6_hash 146 = .ok (.lmul, 1) := by decide +kernel
theorem dX6_hash_147 : decode cX6_hash 147 = .ok (.aload_n 0, 1) := by decide +kernel
theorem dX6_hash_148 : decode cX6_hash 148 = .ok (.getfield 44, 3) := by decide +kernel
theorem dX6_hash_151 : decode cX6_hash 151 = .ok (.ifCond .eq 7, 3) := by decide +kernel
theorem dX6_hash_154 : decode cX6_hash 154 = .ok (.iconst 1, 1) := by decide +kernel
theorem dX6_hash_155 : decode cX6_hash 155 = .ok (.goto 4, 3) := by decide +kernel
theorem dX6_hash_158 : decode cX6_hash 158 = .ok (.iconst 0, 1) := by decide +kernel
theorem dX6_hash_159 : decode cX6_hash 159 = .ok (.i2l, 1) := by decide +kernel
theorem dX6_hash_160 : decode cX6_hash 160 = .ok (.ladd, 1) := by decide +kernel
theorem dX6_hash_161 : decode cX6_hash 161 = .ok (.lstore_n 1, 1) := by decide +kernel
theorem dX6_hash_162 : decode cX6_hash 162 = .ok (.iconst 0, 1) := by decide +kernel
theorem dX6_hash_163 : decode cX6_hash 163 = .ok (.istore_n 3, 1) := by decide +kernel
theorem dX6_hash_164 : decode cX6_hash 164 = .ok (.iload_n 3, 1) := by decide +kernel
theorem dX6_hash_165 : decode cX6_hash 165 = .ok (.iconst 4, 1) := by decide +kernel
theorem dX6_hash_166 : decode cX6_hash 166 = .ok (.if_icmp .ge 25, 3) := by decide +kernel
theorem dX6_hash_169 : decode cX6_hash 169 = .ok (.ldc2_w 136, 3) := by decide +kernel
theorem dX6_hash_172 : decode cX6_hash 172 = .ok (.lload_n 1, 1) := by decide +kernel
theorem dX6_hash_173 : decode cX6_hash 173 = .ok (.lmul, 1) := by decide +kernel
theorem dX6_hash_174 : decode cX6_hash 174 = .ok (.aload_n 0, 1) := by decide +kernel
theorem dX6_hash_175 : decode cX6_hash 175 = .ok (.getfield 26, 3) := by decide +kernel
theorem dX6_hash_178 : decode cX6_hash 178 = .ok (.iload_n 3, 1) := by decide +kernel
theorem dX6_hash_179 : decode cX6_hash 179 = .ok (.invokevirtual 56, 3) := by decide +kernel
theorem dX6_hash_182 : decode cX6_hash 182 = .ok (.i2l, 1) := by decide +kernel
theorem dX6_hash_183 : decode cX6_hash 183 = .ok (.ladd, 1) := by decide +kernel
theorem dX6_hash_184 : decode cX6_hash 184 = .ok (.lstore_n 1, 1) := by decide +kernel
theorem dX6_hash_185 : decode cX6_hash 185 = .ok (.iinc 3 1, 3) := by decide +kernel
theorem dX6_hash_188 : decode cX6_hash 188 = .ok (.goto (-24), 3) := by decide +kernel
theorem dX6_hash_191 : decode cX6_hash 191 = .ok (.lload_n 1, 1) := by decide +kernel
theorem dX6_hash_192 : decode cX6_hash 192 = .ok (.aload_n 0, 1) := by decide +kernel
theorem dX6_hash_193 : decode cX6_hash 193 = .ok (.getfield 14, 3) := by decide +kernel
theorem dX6_hash_196 : decode cX6_hash 196 = .ok (.invokestatic 153, 3) := by decide +kernel
theorem dX6_hash_199 : decode cX6_hash 199 = .ok (.lstore_n 1, 1) := by decide +kernel
theorem dX6_hash_200 : decode cX6_hash 200 = .ok (.ldc2_w 136, 3) := by decide +kernel
theorem dX6_hash_203 : decode cX6_hash 203 = .ok (.lload_n 1, 1) := by decide +kernel
theorem dX6_hash_204 : decode cX6_hash 204 = .ok (.lmul, 1) := by decide +kernel
theorem dX6_hash_205 : decode cX6_hash 205 = .ok (.aload_n 0, 1) := by decide +kernel
theorem dX6_hash_206 : decode cX6_hash 206 = .ok (.getfield 20, 3) := by decide +kernel
theorem dX6_hash_209 : decode cX6_hash 209 = .ok (.invokevirtual 48, 3) := by decide +kernel
theorem dX6_hash_212 : decode cX6_hash 212 = .ok (.i2l, 1) := by decide +kernel
theorem dX6_hash_213 : decode cX6_hash 213 = .ok (.ladd, 1) := by decide +kernel
theorem dX6_hash_214 : decode cX6_hash 214 = .ok (.aload_n 0, 1) := by decide +kernel
theorem dX6_hash_215 : decode cX6_hash 215 = .ok (.getfield 20, 3) := by decide +kernel
theorem dX6_hash_218 : decode cX6_hash 218 = .ok (.invokestatic 153, 3) := by decide +kernel
theorem dX6_hash_221 : decode cX6_hash 221 = .ok (.lreturn, 1) := by decide +kernel
theorem dX6_hashOn_0 : decode cX6_hashOn 0 = .ok (.lload_n 0, 1) := by decide +kernel
theorem dX6_hashOn_1 : decode cX6_hashOn 1 = .ok (.lstore_n 3, 1) := by decide +kernel
theorem dX6_hashOn_2 : decode cX6_hashOn 2 = .ok (.iconst 0, 1) := by decide +kernel
theorem dX6_hashOn_3 : decode cX6_hashOn 3 = .ok (.istore 5, 2) := by decide +kernel
theorem dX6_hashOn_5 : decode cX6_hashOn 5 = .ok (.iload 5, 2) := by decide +kernel
theorem dX6_hashOn_7 : decode cX6_hashOn 7 = .ok (.aload_n 2, 1) := by decide +kernel
theorem dX6_hashOn_8 : decode cX6_hashOn 8 = .ok (.invokevirtual 48, 3) := by decide +kernel
theorem dX6_hashOn_11 : decode cX6_hashOn 11 = .ok (.if_icmp .ge 23, 3) := by decide +kernel
theorem dX6_hashOn_14 : decode cX6_hashOn 14 = .ok (.ldc2_w 136, 3) := by decide +kernel
theorem dX6_hashOn_17 : decode cX6_hashOn 17 = .ok (.lload_n 3, 1) := by decide +kernel
theorem dX6_hashOn_18 : decode cX6_hashOn 18 = .ok (.lmul, 1) := by decide +kernel
theorem dX6_hashOn_19 : decode cX6_hashOn 19 = .ok (.aload_n 2, 1) := by decide +kernel
theorem dX6_hashOn_20 : decode cX6_hashOn 20 = .ok (.iload 5, 2) := by decide +kernel
theorem dX6_hashOn_22 : decode cX6_hashOn 22 = .ok (.invokevirtual 74, 3) := by decide +kernel
theorem dX6_hashOn_25 : decode cX6_hashOn 25 = .ok (.i2l, 1) := by decide +kernel
theorem dX6_hashOn_26 : decode cX6_hashOn 26 = .ok (.ladd, 1) := by decide +kernel
theorem dX6_hashOn_27 : decode cX6_hashOn 27 = .ok (.lstore_n 3, 1) := by decide +kernel
theorem dX6_hashOn_28 : decode cX6_hashOn 28 = .ok (.iinc 5 1, 3) := by decide +kernel
theorem dX6_hashOn_31 : decode cX6_hashOn 31 = .ok (.goto (-26), 3) := by decide +kernel
theorem dX6_hashOn_34 : decode cX6_hashOn 34 = .ok (.lload_n 3, 1) := by decide +kernel
theorem dX6_hashOn_35 : decode cX6_hashOn 35 = .ok (.lreturn, 1) := by decide +kernel
theorem dX6_assign_0 : decode cX6_assign 0 = .ok (.aload_n 0, 1) := by decide +kernel
theorem dX6_assign_1 : decode cX6_assign 1 = .ok (.getfield 14, 3) := by decide +kernel
theorem dX6_assign_4 : decode cX6_assign 4 = .ok (.aload_n 1, 1) := by decide +kernel
theorem dX6_assign_5 : decode cX6_assign 5 = .ok (.getfield 14, 3) := by decide +kernel
theorem dX6_assign_8 : decode cX6_assign 8 = .ok (.iconst 0, 1) := by decide +kernel
theorem dX6_assign_9 : decode cX6_assign 9 = .ok (.aload_n 1, 1) := by decide +kernel
theorem dX6_assign_10 : decode cX6_assign 10 = .ok (.getfield 14, 3) := by decide +kernel
theorem dX6_assign_13 : decode cX6_assign 13 = .ok (.invokevirtual 48, 3) := by decide +kernel
theorem dX6_assign_16 : decode cX6_assign 16 = .ok (.invokevirtual 106, 3) := by decide +kernel
theorem dX6_assign_19 : decode cX6_assign 19 = .ok (.aload_n 0, 1) := by decide +kernel
theorem dX6_assign_20 : decode cX6_assign 20 = .ok (.getfield 20, 3) := by decide +kernel
theorem dX6_assign_23 : decode cX6_assign 23 = .ok (.aload_n 1, 1) := by decide +kernel
theorem dX6_assign_24 : decode cX6_assign 24 = .ok (.getfield 20, 3) := by decide +kernel
theorem dX6_assign_27 : decode cX6_assign 27 = .ok (.iconst 0, 1) := by decide +kernel
theorem dX6_assign_28 : decode cX6_assign 28 = .ok (.aload_n 1, 1) := by decide +kernel
theorem dX6_assign_29 : decode cX6_assign 29 = .ok (.getfield 20, 3) := by decide +kernel
theorem dX6_assign_32 : decode cX6_assign 32 = .ok (.invokevirtual 48, 3) := by decide +kernel
theorem dX6_assign_35 : decode cX6_assign 35 = .ok (.invokevirtual 106, 3) := by decide +kernel
theorem dX6_assign_38 : decode cX6_assign 38 = .ok (.aload_n 0, 1) := by decide +kernel
theorem dX6_assign_39 : decode cX6_assign 39 = .ok (.getfield 26, 3) := by decide +kernel
theorem dX6_assign_42 : decode cX6_assign 42 = .ok (.aload_n 1, 1) := by decide +kernel
theorem dX6_assign_43 : decode cX6_assign 43 = .ok (.getfield 26, 3) := by decide +kernel
theorem dX6_assign_46 : decode cX6_assign 46 = .ok (.invokevirtual 157, 3) := by decide +kernel
theorem dX6_assign_49 : decode cX6_assign 49 = .ok (.aload_n 0, 1) := by decide +kernel
theorem dX6_assign_50 : decode cX6_assign 50 = .ok (.getfield 33, 3) := by decide +kernel
theorem dX6_assign_53 : decode cX6_assign 53 = .ok (.aload_n 1, 1) := by decide +kernel
theorem dX6_assign_54 : decode cX6_assign 54 = .ok (.getfield 33, 3) := by decide +kernel
theorem dX6_assign_57 : decode cX6_assign 57 = .ok (.invokevirtual 160, 3) := by decide +kernel
theorem dX6_assign_60 : decode cX6_assign 60 = .ok (.aload_n 0, 1) := by decide +kernel
theorem dX6_assign_61 : decode cX6_assign 61 = .ok (.aload_n 1, 1) := by decide +kernel
theorem dX6_assign_62 : decode cX6_assign 62 = .ok (.getfield 37, 3) := by decide +kernel
theorem dX6_assign_65 : decode cX6_assign 65 = .ok (.putfield 37, 3) := by decide +kernel
theorem dX6_assign_68 : decode cX6_assign 68 = .ok (.aload_n 0, 1) := by decide +kernel
theorem dX6_assign_69 : decode cX6_assign 69 = .ok (.aload_n 1, 1) := by decide +kernel
theorem dX6_assign_70 : decode cX6_assign 70 = .ok (.getfield 41, 3) := by decide +kernel
theorem dX6_assign_73 : decode cX6_assign 73 = .ok (.putfield 41, 3) := by decide +kernel
theorem dX6_assign_76 : decode cX6_assign 76 = .ok (.aload_n 0, 1) := by decide +kernel
theorem dX6_assign_77 : decode cX6_assign 77 = .ok (.aload_n 1, 1) := by decide +kernel
theorem dX6_assign_78 : decode cX6_assign 78 = .ok (.getfield 44, 3) := by decide +kernel
theorem dX6_assign_81 : decode cX6_assign 81 = .ok (.putfield 44, 3) := by decide +kernel
theorem dX6_assign_84 : decode cX6_assign 84 = .ok (.return_, 1) := by decide +kernel
theorem dX7_init_0 : decode cX7_init 0 = .ok (.aload_n 0, 1) := by decide +kernel
theorem dX7_init_1 : decode cX7_init 1 = .ok (.invokespecial 1, 3) := by decide +kernel
theorem dX7_init_4 : decode cX7_init 4 = .ok (.aload_n 0, 1) := by decide +kernel
theorem dX7_init_5 : decode cX7_init 5 = .ok (.new 7, 3) := by decide +kernel
theorem dX7_init_8 : decode cX7_init 8 = .ok (.dup, 1) := by decide +kernel
theorem dX7_init_9 : decode cX7_init 9 = .ok (.invokespecial 9, 3) := by decide +kernel
theorem dX7_init_12 : decode cX7_init 12 = .ok (.putfield 10, 3) := by decide +kernel
theorem dX7_init_15 : decode cX7_init 15 = .ok (.aload_n 0, 1) := by decide +kernel
theorem dX7_init_16 : decode cX7_init 16 = .ok (.new 16, 3) := by decide +kernel
theorem dX7_init_19 : decode cX7_init 19 = .ok (.dup, 1) := by decide +kernel
theorem dX7_init_20 : decode cX7_init 20 = .ok (.invokespecial 18, 3) := by decide +kernel
theorem dX7_init_23 : decode cX7_init 23 = .ok (.putfield 19, 3) := by decide +kernel
theorem dX7_init_26 : decode cX7_init 26 = .ok (.aload_n 0, 1) := by decide +kernel
theorem dX7_init_27 : decode cX7_init 27 = .ok (.new 23, 3) := by decide +kernel
theorem dX7_init_30 : decode cX7_init 30 = .ok (.dup, 1) := by decide +kernel
theorem dX7_init_31 : decode cX7_init 31 = .ok (.invokespecial 25, 3) := by decide +kernel
theorem dX7_init_34 : decode cX7_init 34 = .ok (.putfield 26, 3) := by decide +kernel
theorem dX7_init_37 : decode cX7_init 37 = .ok (.aload_n 0, 1) := by decide +kernel
theorem dX7_init_38 : decode cX7_init 38 = .ok (.new 30, 3) := by decide +kernel
theorem dX7_init_41 : decode cX7_init 41 = .ok (.dup, 1) := by decide +kernel
theorem dX7_init_42 : decode cX7_init 42 = .ok (.invokespecial 32, 3) := by decide +kernel
theorem dX7_init_45 : decode cX7_init 45 = .ok (.putfield 33, 3) := by decide +kernel
theorem dX7_init_48 : decode cX7_init 48 = .ok (.return_, 1) := by decide +kernel
theorem dX7_type_0 : decode cX7_type 0 = .ok (.iload_n 1, 1) := by decide +kernel
theorem dX7_type_1 : decode cX7_type 1 = .ok (.invokestatic 37, 3) := by decide +kernel
theorem dX7_type_4 : decode cX7_type 4 = .ok (.invokestatic 41, 3) := by decide +kernel
theorem dX7_type_7 : decode cX7_type 7 = .ok (.aload_n 0, 1) := by decide +kernel
theorem dX7_type_8 : decode cX7_type 8 = .ok (.getfield 10, 3) := by decide +kernel
theorem dX7_type_11 : decode cX7_type 11 = .ok (.iconst 1, 1) := by decide +kernel
theorem dX7_type_12 : decode cX7_type 12 = .ok (.invokevirtual 45, 3) := by decide +kernel
theorem dX7_type_15 : decode cX7_type 15 = .ok (.ifCond .ne 7, 3) := by decide +kernel
theorem dX7_type_18 : decode cX7_type 18 = .ok (.iconst 1, 1) := by decide +kernel
theorem dX7_type_19 : decode cX7_type 19 = .ok (.goto 4, 3) := by decide +kernel
theorem dX7_type_22 : decode cX7_type 22 = .ok (.iconst 0, 1) := by decide +kernel
theorem dX7_type_23 : decode cX7_type 23 = .ok (.invokestatic 49, 3) := by decide +kernel
theorem dX7_type_26 : decode cX7_type 26 = .ok (.aload_n 0, 1) := by decide +kernel
theorem dX7_type_27 : decode cX7_type 27 = .ok (.getfield 19, 3) := by decide +kernel
theorem dX7_type_30 : decode cX7_type 30 = .ok (.aload_n 0, 1) := by decide +kernel
theorem dX7_type_31 : decode cX7_type 31 = .ok (.getfield 10, 3) := by decide +kernel
theorem dX7_type_34 : decode cX7_type 34 = .ok (.invokevirtual 52, 3) := by decide +kernel
theorem dX7_type_37 : decode cX7_type 37 = .ok (.aload_n 0, 1) := by decide +kernel
theorem dX7_type_38 : decode cX7_type 38 = .ok (.getfield 10, 3) := by decide +kernel
theorem dX7_type_41 : decode cX7_type 41 = .ok (.iload_n 1, 1) := by decide +kernel
theorem dX7_type_42 : decode cX7_type 42 = .ok (.iconst 1, 1) := by decide +kernel
theorem dX7_type_43 : decode cX7_type 43 = .ok (.invokevirtual 56, 3) := by decide +kernel
theorem dX7_type_46 : decode cX7_type 46 = .ok (.aload_n 0, 1) := by decide +kernel
theorem dX7_type_47 : decode cX7_type 47 = .ok (.getfield 10, 3) := by decide +kernel
theorem dX7_type_50 : decode cX7_type 50 = .ok (.getfield 60, 3) := by decide +kernel
theorem dX7_type_53 : decode cX7_type 53 = .ok (.invokevirtual 64, 3) := by decide +kernel
theorem dX7_type_56 : decode cX7_type 56 = .ok (.ireturn, 1) := by decide +kernel
theorem dX7_fill_0 : decode cX7_fill 0 = .ok (.iload_n 1, 1) := by decide +kernel
theorem dX7_fill_1 : decode cX7_fill 1 = .ok (.invokestatic 37, 3) := by decide +kernel
theorem dX7_fill_4 : decode cX7_fill 4 = .ok (.ifCond .eq 14, 3) := by decide +kernel
theorem dX7_fill_7 : decode cX7_fill 7 = .ok (.iload_n 2, 1) := by decide +kernel
theorem dX7_fill_8 : decode cX7_fill 8 = .ok (.invokestatic 70, 3) := by decide +kernel
theorem dX7_fill_11 : decode cX7_fill 11 = .ok (.ifCond .eq 7, 3) := by decide +kernel
theorem dX7_fill_14 : decode cX7_fill 14 = .ok (.iconst 1, 1) := by decide +kernel
theorem dX7_fill_15 : decode cX7_fill 15 = .ok (.goto 4, 3) := by decide +kernel
theorem dX7_fill_18 : decode cX7_fill 18 = .ok (.iconst 0, 1) := by decide +kernel
theorem dX7_fill_19 : decode cX7_fill 19 = .ok (.invokestatic 41, 3) := by decide +kernel
theorem dX7_fill_22 : decode cX7_fill 22 = .ok (.aload_n 0, 1) := by decide +kernel
theorem dX7_fill_23 : decode cX7_fill 23 = .ok (.getfield 10, 3) := by decide +kernel
theorem dX7_fill_26 : decode cX7_fill 26 = .ok (.iload_n 2, 1) := by decide +kernel
theorem dX7_fill_27 : decode cX7_fill 27 = .ok (.invokevirtual 45, 3) := by decide +kernel
theorem dX7_fill_30 : decode cX7_fill 30 = .ok (.ifCond .ne 7, 3) := by decide +kernel
theorem dX7_fill_33 : decode cX7_fill 33 = .ok (.iconst 1, 1) := by decide +kernel
theorem dX7_fill_34 : decode cX7_fill 34 = .ok (.goto 4, 3) := by decide +kernel
theorem dX7_fill_37 : decode cX7_fill 37 = .ok (.iconst 0, 1) := by decide +kernel
theorem dX7_fill_38 : decode cX7_fill 38 = .ok (.invokestatic 49, 3) := by decide +kernel
theorem dX7_fill_41 : decode cX7_fill 41 = .ok (.aload_n 0, 1) := by decide +kernel
theorem dX7_fill_42 : decode cX7_fill 42 = .ok (.getfield 19, 3) := by decide +kernel
theorem dX7_fill_45 : decode cX7_fill 45 = .ok (.aload_n 0, 1) := by decide +kernel
theorem dX7_fill_46 : decode cX7_fill 46 = .ok (.getfield 10, 3) := by decide +kernel
theorem dX7_fill_49 : decode cX7_fill 49 = .ok (.invokevirtual 52, 3) := by decide +kernel
theorem dX7_fill_52 : decode cX7_fill 52 = .ok (.aload_n 0, 1) := by decide +kernel
theorem dX7_fill_53 : decode cX7_fill 53 = .ok (.getfield 10, 3) := by decide +kernel
theorem dX7_fill_56 : decode cX7_fill 56 = .ok (.iload_n 1, 1) := by decide +kernel
theorem dX7_fill_57 : decode cX7_fill 57 = .ok (.iload_n 2, 1) := by decide +kernel
theorem dX7_fill_58 : decode cX7_fill 58 = .ok (.invokevirtual 56, 3) := by decide +kernel
theorem dX7_fill_61 : decode cX7_fill 61 = .ok (.aload_n 0, 1) := by decide +kernel
theorem dX7_fill_62 : decode cX7_fill 62 = .ok (.getfield 10, 3) := by decide +kernel
theorem dX7_fill_65 : decode cX7_fill 65 = .ok (.getfield 60, 3) := by decide +kernel
theorem dX7_fill_68 : decode cX7_fill 68 = .ok (.invokevirtual 64, 3) := by decide +kernel
theorem dX7_fill_71 : decode cX7_fill 71 = .ok (.ireturn, 1) := by decide +kernel
theorem dX7_erase_0 : decode cX7_erase 0 = .ok (.iload_n 1, 1) := by decide +kernel
theorem dX7_erase_1 : decode cX7_erase 1 = .ok (.invokestatic 70, 3) := by decide +kernel
theorem dX7_erase_4 : decode cX7_erase 4 = .ok (.invokestatic 41, 3) := by decide +kernel
theorem dX7_erase_7 : decode cX7_erase 7 = .ok (.aload_n 0, 1) := by decide +kernel
theorem dX7_erase_8 : decode cX7_erase 8 = .ok (.getfield 19, 3) := by decide +kernel
theorem dX7_erase_11 : decode cX7_erase 11 = .ok (.aload_n 0, 1) := by decide +kernel
theorem dX7_erase_12 : decode cX7_erase 12 = .ok (.getfield 10, 3) := by decide +kernel
theorem dX7_erase_15 : decode cX7_erase 15 = .ok (.invokevirtual 52, 3) := by decide +kernel
theorem dX7_erase_18 : decode cX7_erase 18 = .ok (.aload_n 0, 1) := by decide +kernel
theorem dX7_erase_19 : decode cX7_erase 19 = .ok (.getfield 10, 3) := by decide +kernel
theorem dX7_erase_22 : decode cX7_erase 22 = .ok (.iload_n 1, 1) := by decide +kernel
theorem dX7_erase_23 : decode cX7_erase 23 = .ok (.invokevirtual 73, 3) := by decide +kernel
theorem dX7_erase_26 : decode cX7_erase 26 = .ok (.ireturn, 1) := by decide +kernel
theorem dX7_backspace_0 : decode cX7_backspace 0 = .ok (.iload_n 1, 1) := by decide +kernel
theorem dX7_backspace_1 : decode cX7_backspace 1 = .ok (.invokestatic 70, 3) := by decide +kernel
theorem dX7_backspace_4 : decode cX7_backspace 4 = .ok (.invokestatic 41, 3) := by decide +kernel
theorem dX7_backspace_7 : decode cX7_backspace 7 = .ok (.aload_n 0, 1) := by decide +kernel
theorem dX7_backspace_8 : decode cX7_backspace 8 = .ok (.getfield 19, 3) := by decide +kernel
theorem dX7_backspace_11 : decode cX7_backspace 11 = .ok (.aload_n 0, 1) := by decide +kernel
theorem dX7_backspace_12 : decode cX7_backspace 12 = .ok (.getfield 10, 3) := by decide +kernel
theorem dX7_backspace_15 : decode cX7_backspace 15 = .ok (.invokevirtual 52, 3) := by decide +kernel
theorem dX7_backspace_18 : decode cX7_backspace 18 = .ok (.aload_n 0, 1) := by decide +kernel
theorem dX7_backspace_19 : decode cX7_backspace 19 = .ok (.getfield 10, 3) := by decide +kernel
theorem dX7_backspace_22 : decode cX7_backspace 22 = .ok (.iload_n 1, 1) := by decide +kernel
theorem dX7_backspace_23 : decode cX7_backspace 23 = .ok (.invokevirtual 76, 3) := by decide +kernel
theorem dX7_backspace_26 : decode cX7_backspace 26 = .ok (.ireturn, 1) := by decide +kernel
theorem dX7_moveTo_0 : decode cX7_moveTo 0 = .ok (.aload_n 0, 1) := by decide +kernel
theorem dX7_moveTo_1 : decode cX7_moveTo 1 = .ok (.iload_n 1, 1) := by decide +kernel
theorem dX7_moveTo_2 : decode cX7_moveTo 2 = .ok (.invokevirtual 79, 3) := by decide +kernel
theorem dX7_moveTo_5 : decode cX7_moveTo 5 = .ok (.invokestatic 82, 3) := by decide +kernel
theorem dX7_moveTo_8 : decode cX7_moveTo 8 = .ok (.aload_n 0, 1) := by decide +kernel
theorem dX7_moveTo_9 : decode cX7_moveTo 9 = .ok (.getfield 19, 3) := by decide +kernel
theorem dX7_moveTo_12 : decode cX7_moveTo 12 = .ok (.aload_n 0, 1) := by decide +kernel
theorem dX7_moveTo_13 : decode cX7_moveTo 13 = .ok (.getfield 10, 3) := by decide +kernel
theorem dX7_moveTo_16 : decode cX7_moveTo 16 = .ok (.invokevirtual 52, 3) := by decide +kernel
theorem dX7_moveTo_19 : decode cX7_moveTo 19 = .ok (.aload_n 0, 1) := by decide +kernel
theorem dX7_moveTo_20 : decode cX7_moveTo 20 = .ok (.getfield 10, 3) := by decide +kernel
theorem dX7_moveTo_23 : decode cX7_moveTo 23 = .ok (.iload_n 1, 1) := by decide +kernel
theorem dX7_moveTo_24 : decode cX7_moveTo 24 = .ok (.invokevirtual 85, 3) := by decide +kernel
theorem dX7_moveTo_27 : decode cX7_moveTo 27 = .ok (.ireturn, 1) := by decide +kernel
theorem dX7_moveBy_0 : decode cX7_moveBy 0 = .ok (.iload_n 1, 1) := by decide +kernel
theorem dX7_moveBy_1 : decode cX7_moveBy 1 = .ok (.bipush (-100), 2) := by decide +kernel
theorem dX7_moveBy_3 : decode cX7_moveBy 3 = .ok (.if_icmp .lt 13, 3) := by decide +kernel
theorem dX7_moveBy_6 : decode cX7_moveBy 6 = .ok (.iload_n 1, 1) := by decide +kernel
theorem dX7_moveBy_7 : decode cX7_moveBy 7 = .ok (.bipush 100, 2) := by decide +kernel
theorem dX7_moveBy_9 : decode cX7_moveBy 9 = .ok (.if_icmp .gt 7, 3) := by decide +kernel
theorem dX7_moveBy_12 : decode cX7_moveBy 12 = .ok (.iconst 1, 1) := by decide +kernel
theorem dX7_moveBy_13 : decode cX7_moveBy 13 = .ok (.goto 4, 3) := by decide +kernel
theorem dX7_moveBy_16 : decode cX7_moveBy 16 = .ok (.iconst 0, 1) := by decide +kernel
theorem dX7_moveBy_17 : decode cX7_moveBy 17 = .ok (.invokestatic 41, 3) := by decide +kernel
theorem dX7_moveBy_20 : decode cX7_moveBy 20 = .ok (.aload_n 0, 1) := by decide +kernel
theorem dX7_moveBy_21 : decode cX7_moveBy 21 = .ok (.getfield 19, 3) := by decide +kernel
theorem dX7_moveBy_24 : decode cX7_moveBy 24 = .ok (.aload_n 0, 1) := by decide +kernel
theorem dX7_moveBy_25 : decode cX7_moveBy 25 = .ok (.getfield 10, 3) := by decide +kernel
theorem dX7_moveBy_28 : decode cX7_moveBy 28 = .ok (.invokevirtual 52, 3) := by decide +kernel
theorem dX7_moveBy_31 : decode cX7_moveBy 31 = .ok (.aload_n 0, 1) := by decide +kernel
theorem dX7_moveBy_32 : decode cX7_moveBy 32 = .ok (.getfield 10, 3) := by decide +kernel
theorem dX7_moveBy_35 : decode cX7_moveBy 35 = .ok (.iconst 0, 1) := by decide +kernel
theorem dX7_moveBy_36 : decode cX7_moveBy 36 = .ok (.aload_n 0, 1) := by decide +kernel
theorem dX7_moveBy_37 : decode cX7_moveBy 37 = .ok (.getfield 10, 3) := by decide +kernel
theorem dX7_moveBy_40 : decode cX7_moveBy 40 = .ok (.getfield 60, 3) := by decide +kernel
theorem dX7_moveBy_43 : decode cX7_moveBy 43 = .ok (.invokevirtual 64, 3) := by decide +kernel
theorem dX7_moveBy_46 : decode cX7_moveBy 46 = .ok (.aload_n 0, 1) := by decide +kernel
theorem dX7_moveBy_47 : decode cX7_moveBy 47 = .ok (.getfield 10, 3) := by decide +kernel
theorem dX7_moveBy_50 : decode cX7_moveBy 50 = .ok (.getfield 88, 3) := by decide +kernel
theorem dX7_moveBy_53 : decode cX7_moveBy 53 = .ok (.iload_n 1, 1) := by decide +kernel
theorem dX7_moveBy_54 : decode cX7_moveBy 54 = .ok (.iadd, 1) := by decide +kernel
theorem dX7_moveBy_55 : decode cX7_moveBy 55 = .ok (.invokestatic 92, 3) := by decide +kernel
theorem dX7_moveBy_58 : decode cX7_moveBy 58 = .ok (.invokestatic 98, 3) := by decide +kernel
theorem dX7_moveBy_61 : decode cX7_moveBy 61 = .ok (.invokevirtual 85, 3) := by decide +kernel
theorem dX7_moveBy_64 : decode cX7_moveBy 64 = .ok (.pop, 1) := by decide +kernel
theorem dX7_moveBy_65 : decode cX7_moveBy 65 = .ok (.aload_n 0, 1) := by decide +kernel
theorem dX7_moveBy_66 : decode cX7_moveBy 66 = .ok (.getfield 10, 3) := by decide +kernel
theorem dX7_moveBy_69 : decode cX7_moveBy 69 = .ok (.getfield 88, 3) := by decide +kernel
theorem dX7_moveBy_72 : decode cX7_moveBy 72 = .ok (.ireturn, 1) := by decide +kernel
theorem dX7_up_0 : decode cX7_up 0 = .ok (.aload_n 0, 1) := by decide +kernel
theorem dX7_up_1 : decode cX7_up 1 = .ok (.getfield 19, 3) := by decide +kernel
theorem dX7_up_4 : decode cX7_up 4 = .ok (.aload_n 0, 1) := by decide +kernel
theorem dX7_up_5 : decode cX7_up 5 = .ok (.getfield 10, 3) := by decide +kernel
theorem dX7_up_8 : decode cX7_up 8 = .ok (.invokevirtual 52, 3) := by decide +kernel
theorem dX7_up_11 : decode cX7_up 11 = .ok (.aload_n 0, 1) := by decide +kernel
theorem dX7_up_12 : decode cX7_up 12 = .ok (.getfield 10, 3) := by decide +kernel
theorem dX7_up_15 : decode cX7_up 15 = .ok (.invokevirtual 101, 3) := by decide +kernel
theorem dX7_up_18 : decode cX7_up 18 = .ok (.aload_n 0, 1) := by decide +kernel
theorem dX7_up_19 : decode cX7_up 19 = .ok (.getfield 10, 3) := by decide +kernel
theorem dX7_up_22 : decode cX7_up 22 = .ok (.getfield 88, 3) := by decide +kernel
theorem dX7_up_25 : decode cX7_up 25 = .ok (.ireturn, 1) := by decide +kernel
theorem dX7_down_0 : decode cX7_down 0 = .ok (.aload_n 0, 1) := by decide +kernel
theorem dX7_down_1 : decode cX7_down 1 = .ok (.getfield 19, 3) := by decide +kernel
theorem dX7_down_4 : decode cX7_down 4 = .ok (.aload_n 0, 1) := by decide +kernel
theorem dX7_down_5 : decode cX7_down 5 = .ok (.getfield 10, 3) := by decide +kernel
theorem dX7_down_8 : decode cX7_down 8 = .ok (.invokevirtual 52, 3) := by decide +kernel
theorem dX7_down_11 : decode cX7_down 11 = .ok (.aload_n 0, 1) := by decide +kernel
theorem dX7_down_12 : decode cX7_down 12 = .ok (.getfield 10, 3) := by decide +kernel
theorem dX7_down_15 : decode cX7_down 15 = .ok (.invokevirtual 104, 3) := by decide +kernel
theorem dX7_down_18 : decode cX7_down 18 = .ok (.aload_n 0, 1) := by decide +kernel
theorem dX7_down_19 : decode cX7_down 19 = .ok (.getfield 10, 3) := by decide +kernel
theorem dX7_down_22 : decode cX7_down 22 = .ok (.getfield 88, 3) := by decide +kernel
theorem dX7_down_25 : decode cX7_down 25 = .ok (.ireturn, 1) := by decide +kernel
theorem dX7_moveInLine_0 : decode cX7_moveInLine 0 = .ok (.aload_n 0, 1) := by decide +kernel
theorem dX7_moveInLine_1 : decode cX7_moveInLine 1 = .ok (.getfield 19, 3) := by decide +kernel
theorem dX7_moveInLine_4 : decode cX7_moveInLine 4 = .ok (.aload_n 0, 1) := by decide +kernel
theorem dX7_moveInLine_5 : decode cX7_moveInLine 5 = .ok (.getfield 10, 3) := by decide +kernel
theorem dX7_moveInLine_8 : decode cX7_moveInLine 8 = .ok (.invokevirtual 52, 3) := by decide +kernel
theorem dX7_moveInLine_11 : decode cX7_moveInLine 11 = .ok (.aload_n 0, 1) := by decide +kernel
theorem dX7_moveInLine_12 : decode cX7_moveInLine 12 = .ok (.getfield 10, 3) := by decide +kernel
theorem dX7_moveInLine_15 : decode cX7_moveInLine 15 = .ok (.getfield 60, 3) := by decide +kernel
theorem dX7_moveInLine_18 : decode cX7_moveInLine 18 = .ok (.aload_n 0, 1) := by decide +kernel
theorem dX7_moveInLine_19 : decode cX7_moveInLine 19 = .ok (.getfield 10, 3) := by decide +kernel
theorem dX7_moveInLine_22 : decode cX7_moveInLine 22 = .ok (.getfield 88, 3) := by decide +kernel
theorem dX7_moveInLine_25 : decode cX7_moveInLine 25 = .ok (.invokevirtual 107, 3) := by decide +kernel
theorem dX7_moveInLine_28 : decode cX7_moveInLine 28 = .ok (.istore_n 2, 1) := by decide +kernel
theorem dX7_moveInLine_29 : decode cX7_moveInLine 29 = .ok (.aload_n 0, 1) := by decide +kernel
theorem dX7_moveInLine_30 : decode cX7_moveInLine 30 = .ok (.getfield 10, 3) := by decide +kernel
theorem dX7_moveInLine_33 : decode cX7_moveInLine 33 = .ok (.getfield 60, 3) := by decide +kernel
theorem dX7_moveInLine_36 : decode cX7_moveInLine 36 = .ok (.aload_n 0, 1) := by decide +kernel
theorem dX7_moveInLine_37 : decode cX7_moveInLine 37 = .ok (.getfield 10, 3) := by decide +kernel
theorem dX7_moveInLine_40 : decode cX7_moveInLine 40 = .ok (.getfield 88, 3) := by decide +kernel
theorem dX7_moveInLine_43 : decode cX7_moveInLine 43 = .ok (.invokevirtual 110, 3) := by decide +kernel
theorem dX7_moveInLine_46 : decode cX7_moveInLine 46 = .ok (.istore_n 3, 1) := by decide +kernel
theorem dX7_moveInLine_47 : decode cX7_moveInLine 47 = .ok (.aload_n 0, 1) := by decide +kernel
theorem dX7_moveInLine_48 : decode cX7_moveInLine 48 = .ok (.getfield 10, 3) := by decide +kernel
theorem dX7_moveInLine_51 : decode cX7_moveInLine 51 = .ok (.iload_n 1, 1) := by decide +kernel
theorem dX7_moveInLine_52 : decode cX7_moveInLine 52 = .ok (.ifCond .eq 7, 3) := by decide +kernel
theorem dX7_moveInLine_55 : decode cX7_moveInLine 55 = .ok (.iload_n 3, 1) := by decide +kernel
theorem dX7_moveInLine_56 : decode cX7_moveInLine 56 = .ok (.goto 4, 3) := by decide +kernel
theorem dX7_moveInLine_59 : decode cX7_moveInLine 59 = .ok (.iload_n 2, 1) := by decide +kernel
theorem dX7_moveInLine_60 : decode cX7_moveInLine 60 = .ok (.invokevirtual 85, 3) := by decide +kernel
theorem dX7_moveInLine_63 : decode cX7_moveInLine 63 = .ok (.pop, 1) := by decide +kernel
theorem dX7_moveInLine_64 : decode cX7_moveInLine 64 = .ok (.aload_n 0, 1) := by decide +kernel
theorem dX7_moveInLine_65 : decode cX7_moveInLine 65 = .ok (.getfield 10, 3) := by decide +kernel
theorem dX7_moveInLine_68 : decode cX7_moveInLine 68 = .ok (.getfield 88, 3) := by decide +kernel
theorem dX7_moveInLine_71 : decode cX7_moveInLine 71 = .ok (.ireturn, 1) := by decide +kernel
theorem dX7_setEager_0 : decode cX7_setEager 0 = .ok (.aload_n 0, 1) := by decide +kernel
theorem dX7_setEager_1 : decode cX7_setEager 1 = .ok (.getfield 19, 3) := by decide +kernel
theorem dX7_setEager_4 : decode cX7_setEager 4 = .ok (.aload_n 0, 1) := by decide +kernel
theorem dX7_setEager_5 : decode cX7_setEager 5 = .ok (.getfield 10, 3) := by decide +kernel
theorem dX7_setEager_8 : decode cX7_setEager 8 = .ok (.invokevirtual 52, 3) := by decide +kernel
theorem dX7_setEager_11 : decode cX7_setEager 11 = .ok (.aload_n 0, 1) := by decide +kernel
theorem dX7_setEager_12 : decode cX7_setEager 12 = .ok (.getfield 10, 3) := by decide +kernel
theorem dX7_setEager_15 : decode cX7_setEager 15 = .ok (.iload_n 1, 1) := by decide +kernel
theorem dX7_setEager_16 : decode cX7_setEager 16 = .ok (.putfield 113, 3) := by decide +kernel
theorem dX7_setEager_19 : decode cX7_setEager 19 = .ok (.aload_n 0, 1) := by decide +kernel
theorem dX7_setEager_20 : decode cX7_setEager 20 = .ok (.getfield 10, 3) := by decide +kernel
theorem dX7_setEager_23 : decode cX7_setEager 23 = .ok (.invokevirtual 117, 3) := by decide +kernel
theorem dX7_setEager_26 : decode cX7_setEager 26 = .ok (.ireturn, 1) := by decide +kernel
theorem dX7_setMark_0 : decode cX7_setMark 0 = .ok (.iload_n 1, 1) := by decide +kernel
theorem dX7_setMark_1 : decode cX7_setMark 1 = .ok (.invokestatic 120, 3) := by decide +kernel
theorem dX7_setMark_4 : decode cX7_setMark 4 = .ok (.invokestatic 82, 3) := by decide +kernel
theorem dX7_setMark_7 : decode cX7_setMark 7 = .ok (.iload_n 2, 1) := by decide +kernel
theorem dX7_setMark_8 : decode cX7_setMark 8 = .ok (.ifCond .eq 8, 3) := by decide +kernel
theorem dX7_setMark_11 : decode cX7_setMark 11 = .ok (.iload_n 2, 1) := by decide +kernel
theorem dX7_setMark_12 : decode cX7_setMark 12 = .ok (.iconst 1, 1) := by decide +kernel
theorem dX7_setMark_13 : decode cX7_setMark 13 = .ok (.if_icmp .ne 7, 3) := by decide +kernel
theorem dX7_setMark_16 : decode cX7_setMark 16 = .ok (.iconst 1, 1) := by decide +kernel
theorem dX7_setMark_17 : decode cX7_setMark 17 = .ok (.goto 4, 3) := by decide +kernel
theorem dX7_setMark_20 : decode cX7_setMark 20 = .ok (.iconst 0, 1) := by decide +kernel
theorem dX7_setMark_21 : decode cX7_setMark 21 = .ok (.invokestatic 41, 3) := by decide +kernel
theorem dX7_setMark_24 : decode cX7_setMark 24 = .ok (.aload_n 0, 1) := by decide +kernel
theorem dX7_setMark_25 : decode cX7_setMark 25 = .ok (.getfield 19, 3) := by decide +kernel
theorem dX7_setMark_28 : decode cX7_setMark 28 = .ok (.aload_n 0, 1) := by decide +kernel
theorem dX7_setMark_29 : decode cX7_setMark 29 = .ok (.getfield 10, 3) := by decide +kernel
theorem dX7_setMark_32 : decode cX7_setMark 32 = .ok (.invokevirtual 52, 3) := by decide +kernel
theorem dX7_setMark_35 : decode cX7_setMark 35 = .ok (.aload_n 0, 1) := by decide +kernel
theorem dX7_setMark_36 : decode cX7_setMark 36 = .ok (.getfield 10, 3) := by decide +kernel
theorem dX7_setMark_39 : decode cX7_setMark 39 = .ok (.getfield 123, 3) := by decide +kernel
theorem dX7_setMark_42 : decode cX7_setMark 42 = .ok (.iload_n 1, 1) := by decide +kernel
theorem dX7_setMark_43 : decode cX7_setMark 43 = .ok (.invokevirtual 127, 3) := by decide +kernel
theorem dX7_setMark_46 : decode cX7_setMark 46 = .ok (.istore_n 3, 1) := by decide +kernel
theorem dX7_setMark_47 : decode cX7_setMark 47 = .ok (.aload_n 0, 1) := by decide +kernel
theorem dX7_setMark_48 : decode cX7_setMark 48 = .ok (.getfield 10, 3) := by decide +kernel
theorem dX7_setMark_51 : decode cX7_setMark 51 = .ok (.getfield 123, 3) := by decide +kernel
theorem dX7_setMark_54 : decode cX7_setMark 54 = .ok (.iload_n 1, 1) := by decide +kernel
theorem dX7_setMark_55 : decode cX7_setMark 55 = .ok (.aload_n 0, 1) := by decide +kernel
theorem dX7_setMark_56 : decode cX7_setMark 56 = .ok (.getfield 10, 3) := by decide +kernel
theorem dX7_setMark_59 : decode cX7_setMark 59 = .ok (.getfield 88, 3) := by decide +kernel
theorem dX7_setMark_62 : decode cX7_setMark 62 = .ok (.iload_n 2, 1) := by decide +kernel
theorem dX7_setMark_63 : decode cX7_setMark 63 = .ok (.invokevirtual 132, 3) := by decide +kernel
theorem dX7_setMark_66 : decode cX7_setMark 66 = .ok (.iload_n 3, 1) := by decide +kernel
theorem dX7_setMark_67 : decode cX7_setMark 67 = .ok (.ireturn, 1) := by decide +kernel
theorem dX7_copy_0 : decode cX7_copy 0 = .ok (.iload_n 1, 1) := by decide +kernel
theorem dX7_copy_1 : decode cX7_copy 1 = .ok (.invokestatic 120, 3) := by decide +kernel
theorem dX7_copy_4 : decode cX7_copy 4 = .ok (.invokestatic 82, 3) := by decide +kernel
theorem dX7_copy_7 : decode cX7_copy 7 = .ok (.aload_n 0, 1) := by decide +kernel
theorem dX7_copy_8 : decode cX7_copy 8 = .ok (.getfield 10, 3) := by decide +kernel
theorem dX7_copy_11 : decode cX7_copy 11 = .ok (.iload_n 1, 1) := by decide +kernel
theorem dX7_copy_12 : decode cX7_copy 12 = .ok (.invokevirtual 136, 3) := by decide +kernel
theorem dX7_copy_15 : decode cX7_copy 15 = .ok (.ifCond .ne 7, 3) := by decide +kernel
theorem dX7_copy_18 : decode cX7_copy 18 = .ok (.iconst 1, 1) := by decide +kernel
theorem dX7_copy_19 : decode cX7_copy 19 = .ok (.goto 4, 3) := by decide +kernel
theorem dX7_copy_22 : decode cX7_copy 22 = .ok (.iconst 0, 1) := by decide +kernel
theorem dX7_copy_23 : decode cX7_copy 23 = .ok (.invokestatic 49, 3) := by decide +kernel
theorem dX7_copy_26 : decode cX7_copy 26 = .ok (.aload_n 0, 1) := by decide +kernel
theorem dX7_copy_27 : decode cX7_copy 27 = .ok (.getfield 19, 3) := by decide +kernel
theorem dX7_copy_30 : decode cX7_copy 30 = .ok (.aload_n 0, 1) := by decide +kernel
theorem dX7_copy_31 : decode cX7_copy 31 = .ok (.getfield 10, 3) := by decide +kernel
theorem dX7_copy_34 : decode cX7_copy 34 = .ok (.invokevirtual 52, 3) := by decide +kernel
theorem dX7_copy_37 : decode cX7_copy 37 = .ok (.aload_n 0, 1) := by decide +kernel
theorem dX7_copy_38 : decode cX7_copy 38 = .ok (.getfield 10, 3) := by decide +kernel
theorem dX7_copy_41 : decode cX7_copy 41 = .ok (.iload_n 1, 1) := by decide +kernel
theorem dX7_copy_42 : decode cX7_copy 42 = .ok (.invokevirtual 139, 3) := by decide +kernel
theorem dX7_copy_45 : decode cX7_copy 45 = .ok (.aload_n 0, 1) := by decide +kernel
theorem dX7_copy_46 : decode cX7_copy 46 = .ok (.getfield 10, 3) := by decide +kernel
theorem dX7_copy_49 : decode cX7_copy 49 = .ok (.getfield 143, 3) := by decide +kernel
theorem dX7_copy_52 : decode cX7_copy 52 = .ok (.invokevirtual 64, 3) := by decide +kernel
theorem dX7_copy_55 : decode cX7_copy 55 = .ok (.ireturn, 1) := by decide +kernel
theorem dX7_cut_0 : decode cX7_cut 0 = .ok (.iload_n 1, 1) := by decide +kernel
theorem dX7_cut_1 : decode cX7_cut 1 = .ok (.invokestatic 120, 3) := by decide +kernel
theorem dX7_cut_4 : decode cX7_cut 4 = .ok (.invokestatic 82, 3) := by decide +kernel
theorem dX7_cut_7 : decode cX7_cut 7 = .ok (.aload_n 0, 1) := by decide +kernel
theorem dX7_cut_8 : decode cX7_cut 8 = .ok (.getfield 10, 3) := by decide +kernel
theorem dX7_cut_11 : decode cX7_cut 11 = .ok (.iload_n 1, 1) := by decide +kernel
theorem dX7_cut_12 : decode cX7_cut 12 = .ok (.invokevirtual 136, 3) := by decide +kernel
theorem dX7_cut_15 : decode cX7_cut 15 = .ok (.ifCond .ne 7, 3) := by decide +kernel
theorem dX7_cut_18 : decode cX7_cut 18 = .ok (.iconst 1, 1) := by decide +kernel
theorem dX7_cut_19 : decode cX7_cut 19 = .ok (.goto 4, 3) := by decide +kernel
theorem dX7_cut_22 : decode cX7_cut 22 = .ok (.iconst 0, 1) := by decide +kernel
theorem dX7_cut_23 : decode cX7_cut 23 = .ok (.invokestatic 49, 3) := by decide +kernel
theorem dX7_cut_26 : decode cX7_cut 26 = .ok (.aload_n 0, 1) := by decide +kernel
theorem dX7_cut_27 : decode cX7_cut 27 = .ok (.getfield 19, 3) := by decide +kernel
theorem dX7_cut_30 : decode cX7_cut 30 = .ok (.aload_n 0, 1) := by decide +kernel
theorem dX7_cut_31 : decode cX7_cut 31 = .ok (.getfield 10, 3) := by decide +kernel
theorem dX7_cut_34 : decode cX7_cut 34 = .ok (.invokevirtual 52, 3) := by decide +kernel
theorem dX7_cut_37 : decode cX7_cut 37 = .ok (.aload_n 0, 1) := by decide +kernel
theorem dX7_cut_38 : decode cX7_cut 38 = .ok (.getfield 10, 3) := by decide +kernel
theorem dX7_cut_41 : decode cX7_cut 41 = .ok (.iload_n 1, 1) := by decide +kernel
theorem dX7_cut_42 : decode cX7_cut 42 = .ok (.invokevirtual 146, 3) := by decide +kernel
theorem dX7_cut_45 : decode cX7_cut 45 = .ok (.aload_n 0, 1) := by decide +kernel
theorem dX7_cut_46 : decode cX7_cut 46 = .ok (.getfield 10, 3) := by decide +kernel
theorem dX7_cut_49 : decode cX7_cut 49 = .ok (.getfield 143, 3) := by decide +kernel
theorem dX7_cut_52 : decode cX7_cut 52 = .ok (.invokevirtual 64, 3) := by decide +kernel
theorem dX7_cut_55 : decode cX7_cut 55 = .ok (.ireturn, 1) := by decide +kernel
theorem dX7_paste_0 : decode cX7_paste 0 = .ok (.aload_n 0, 1) := by decide +kernel
theorem dX7_paste_1 : decode cX7_paste 1 = .ok (.getfield 10, 3) := by decide +kernel
theorem dX7_paste_4 : decode cX7_paste 4 = .ok (.invokevirtual 149, 3) := by decide +kernel
theorem dX7_paste_7 : decode cX7_paste 7 = .ok (.ifCond .ne 7, 3) := by decide +kernel
theorem dX7_paste_10 : decode cX7_paste 10 = .ok (.iconst 1, 1) := by decide +kernel
theorem dX7_paste_11 : decode cX7_paste 11 = .ok (.goto 4, 3) := by decide +kernel
theorem dX7_paste_14 : decode cX7_paste 14 = .ok (.iconst 0, 1) := by decide +kernel
theorem dX7_paste_15 : decode cX7_paste 15 = .ok (.invokestatic 49, 3) := by decide +kernel
theorem dX7_paste_18 : decode cX7_paste 18 = .ok (.aload_n 0, 1) := by decide +kernel
theorem dX7_paste_19 : decode cX7_paste 19 = .ok (.getfield 19, 3) := by decide +kernel
theorem dX7_paste_22 : decode cX7_paste 22 = .ok (.aload_n 0, 1) := by decide +kernel
theorem dX7_paste_23 : decode cX7_paste 23 = .ok (.getfield 10, 3) := by decide +kernel
theorem dX7_paste_26 : decode cX7_paste 26 = .ok (.invokevirtual 52, 3) := by decide +kernel
theorem dX7_paste_29 : decode cX7_paste 29 = .ok (.aload_n 0, 1) := by decide +kernel
theorem dX7_paste_30 : decode cX7_paste 30 = .ok (.getfield 10, 3) := by decide +kernel
theorem dX7_paste_33 : decode cX7_paste 33 = .ok (.aload_n 0, 1) := by decide +kernel
theorem dX7_paste_34 : decode cX7_paste 34 = .ok (.getfield 10, 3) := by decide +kernel
theorem dX7_paste_37 : decode cX7_paste 37 = .ok (.getfield 143, 3) := by decide +kernel
theorem dX7_paste_40 : decode cX7_paste 40 = .ok (.iconst 0, 1) := by decide +kernel
theorem dX7_paste_41 : decode cX7_paste 41 = .ok (.aload_n 0, 1) := by decide +kernel
theorem dX7_paste_42 : decode cX7_paste 42 = .ok (.getfield 10, 3) := by decide +kernel
theorem dX7_paste_45 : decode cX7_paste 45 = .ok (.getfield 143, 3) := by decide +kernel
theorem dX7_paste_48 : decode cX7_paste 48 = .ok (.invokevirtual 64, 3) := by decide +kernel
theorem dX7_paste_51 : decode cX7_paste 51 = .ok (.invokevirtual 152, 3) := by decide +kernel
theorem dX7_paste_54 : decode cX7_paste 54 = .ok (.aload_n 0, 1) := by decide +kernel
theorem dX7_paste_55 : decode cX7_paste 55 = .ok (.getfield 10, 3) := by decide +kernel
theorem dX7_paste_58 : decode cX7_paste 58 = .ok (.getfield 60, 3) := by decide +kernel
theorem dX7_paste_61 : decode cX7_paste 61 = .ok (.invokevirtual 64, 3) := by decide +kernel
theorem dX7_paste_64 : decode cX7_paste 64 = .ok (.ireturn, 1) := by decide +kernel
theorem dX7_mark_0 : decode cX7_mark 0 = .ok (.iload_n 1, 1) := by decide +kernel
theorem dX7_mark_1 : decode cX7_mark 1 = .ok (.invokestatic 120, 3) := by decide +kernel
theorem dX7_mark_4 : decode cX7_mark 4 = .ok (.invokestatic 82, 3) := by decide +kernel
theorem dX7_mark_7 : decode cX7_mark 7 = .ok (.aload_n 0, 1) := by decide +kernel
theorem dX7_mark_8 : decode cX7_mark 8 = .ok (.getfield 10, 3) := by decide +kernel
theorem dX7_mark_11 : decode cX7_mark 11 = .ok (.getfield 123, 3) := by decide +kernel
theorem dX7_mark_14 : decode cX7_mark 14 = .ok (.iload_n 1, 1) := by decide +kernel
theorem dX7_mark_15 : decode cX7_mark 15 = .ok (.invokevirtual 127, 3) := by decide +kernel
theorem dX7_mark_18 : decode cX7_mark 18 = .ok (.ireturn, 1) := by decide +kernel
theorem dX7_clip_0 : decode cX7_clip 0 = .ok (.iload_n 1, 1) := by decide +kernel
theorem dX7_clip_1 : decode cX7_clip 1 = .ok (.ifCond .lt 7, 3) := by decide +kernel
theorem dX7_clip_4 : decode cX7_clip 4 = .ok (.iconst 1, 1) := by decide +kernel
theorem dX7_clip_5 : decode cX7_clip 5 = .ok (.goto 4, 3) := by decide +kernel
theorem dX7_clip_8 : decode cX7_clip 8 = .ok (.iconst 0, 1) := by decide +kernel
theorem dX7_clip_9 : decode cX7_clip 9 = .ok (.invokestatic 82, 3) := by decide +kernel
theorem dX7_clip_12 : decode cX7_clip 12 = .ok (.aload_n 0, 1) := by decide +kernel
theorem dX7_clip_13 : decode cX7_clip 13 = .ok (.getfield 10, 3) := by decide +kernel
theorem dX7_clip_16 : decode cX7_clip 16 = .ok (.getfield 143, 3) := by decide +kernel
theorem dX7_clip_19 : decode cX7_clip 19 = .ok (.iload_n 1, 1) := by decide +kernel
theorem dX7_clip_20 : decode cX7_clip 20 = .ok (.invokevirtual 156, 3) := by decide +kernel
theorem dX7_clip_23 : decode cX7_clip 23 = .ok (.ireturn, 1) := by decide +kernel
theorem dX7_length_0 : decode cX7_length 0 = .ok (.aload_n 0, 1) := by decide +kernel
theorem dX7_length_1 : decode cX7_length 1 = .ok (.getfield 10, 3) := by decide +kernel
theorem dX7_length_4 : decode cX7_length 4 = .ok (.getfield 60, 3) := by decide +kernel
theorem dX7_length_7 : decode cX7_length 7 = .ok (.invokevirtual 64, 3) := by decide +kernel
theorem dX7_length_10 : decode cX7_length 10 = .ok (.ireturn, 1) := by decide +kernel
theorem dX7_caret_0 : decode cX7_caret 0 = .ok (.aload_n 0, 1) := by decide +kernel
theorem dX7_caret_1 : decode cX7_caret 1 = .ok (.getfield 10, 3) := by decide +kernel
theorem dX7_caret_4 : decode cX7_caret 4 = .ok (.getfield 88, 3) := by decide +kernel
theorem dX7_caret_7 : decode cX7_caret 7 = .ok (.ireturn, 1) := by decide +kernel
theorem dX7_byteAt_0 : decode cX7_byteAt 0 = .ok (.iload_n 1, 1) := by decide +kernel
theorem dX7_byteAt_1 : decode cX7_byteAt 1 = .ok (.ifCond .lt 21, 3) := by decide +kernel
theorem dX7_byteAt_4 : decode cX7_byteAt 4 = .ok (.iload_n 1, 1) := by decide +kernel
theorem dX7_byteAt_5 : decode cX7_byteAt 5 = .ok (.aload_n 0, 1) := by decide +kernel
theorem dX7_byteAt_6 : decode cX7_byteAt 6 = .ok (.getfield 10, 3) := by decide +kernel
theorem dX7_byteAt_9 : decode cX7_byteAt 9 = .ok (.getfield 60, 3) := by decide +kernel
theorem dX7_byteAt_12 : decode cX7_byteAt 12 = .ok (.invokevirtual 64, 3) := by decide +kernel
theorem dX7_byteAt_15 : decode cX7_byteAt 15 = .ok (.if_icmp .ge 7, 3) := by decide +kernel
theorem dX7_byteAt_18 : decode cX7_byteAt 18 = .ok (.iconst 1, 1) := by decide +kernel
theorem dX7_byteAt_19 : decode cX7_byteAt 19 = .ok (.goto 4, 3) := by decide +kernel
theorem dX7_byteAt_22 : decode cX7_byteAt 22 = .ok (.iconst 0, 1) := by decide +kernel
theorem dX7_byteAt_23 : decode cX7_byteAt 23 = .ok (.invokestatic 82, 3) := by decide +kernel
theorem dX7_byteAt_26 : decode cX7_byteAt 26 = .ok (.aload_n 0, 1) := by decide +kernel
theorem dX7_byteAt_27 : decode cX7_byteAt 27 = .ok (.getfield 10, 3) := by decide +kernel
theorem dX7_byteAt_30 : decode cX7_byteAt 30 = .ok (.getfield 60, 3) := by decide +kernel
theorem dX7_byteAt_33 : decode cX7_byteAt 33 = .ok (.iload_n 1, 1) := by decide +kernel
theorem dX7_byteAt_34 : decode cX7_byteAt 34 = .ok (.invokevirtual 156, 3) := by decide +kernel
theorem dX7_byteAt_37 : decode cX7_byteAt 37 = .ok (.ireturn, 1) := by decide +kernel
theorem dX7_lines_0 : decode cX7_lines 0 = .ok (.aload_n 0, 1) := by decide +kernel
theorem dX7_lines_1 : decode cX7_lines 1 = .ok (.getfield 10, 3) := by decide +kernel
theorem dX7_lines_4 : decode cX7_lines 4 = .ok (.getfield 60, 3) := by decide +kernel
theorem dX7_lines_7 : decode cX7_lines 7 = .ok (.invokevirtual 163, 3) := by decide +kernel
theorem dX7_lines_10 : decode cX7_lines 10 = .ok (.ireturn, 1) := by decide +kernel
theorem dX7_lineOf_0 : decode cX7_lineOf 0 = .ok (.aload_n 0, 1) := by decide +kernel
theorem dX7_lineOf_1 : decode cX7_lineOf 1 = .ok (.iload_n 1, 1) := by decide +kernel
theorem dX7_lineOf_2 : decode cX7_lineOf 2 = .ok (.invokevirtual 79, 3) := by decide +kernel
theorem dX7_lineOf_5 : decode cX7_lineOf 5 = .ok (.invokestatic 82, 3) := by decide +kernel
theorem dX7_lineOf_8 : decode cX7_lineOf 8 = .ok (.aload_n 0, 1) := by decide +kernel
theorem dX7_lineOf_9 : decode cX7_lineOf 9 = .ok (.getfield 10, 3) := by decide +kernel
theorem dX7_lineOf_12 : decode cX7_lineOf 12 = .ok (.getfield 60, 3) := by decide +kernel
theorem dX7_lineOf_15 : decode cX7_lineOf 15 = .ok (.iload_n 1, 1) := by decide +kernel
theorem dX7_lineOf_16 : decode cX7_lineOf 16 = .ok (.invokevirtual 166, 3) := by decide +kernel
theorem dX7_lineOf_19 : decode cX7_lineOf 19 = .ok (.ireturn, 1) := by decide +kernel
theorem dX7_capacity_0 : decode cX7_capacity 0 = .ok (.aload_n 0, 1) := by decide +kernel
theorem dX7_capacity_1 : decode cX7_capacity 1 = .ok (.getfield 10, 3) := by decide +kernel
theorem dX7_capacity_4 : decode cX7_capacity 4 = .ok (.getfield 175, 3) := by decide +kernel
theorem dX7_capacity_7 : decode cX7_capacity 7 = .ok (.getfield 178, 3) := by decide +kernel
theorem dX7_capacity_10 : decode cX7_capacity 10 = .ok (.ireturn, 1) := by decide +kernel
theorem dX7_gapStart_0 : decode cX7_gapStart 0 = .ok (.aload_n 0, 1) := by decide +kernel
theorem dX7_gapStart_1 : decode cX7_gapStart 1 = .ok (.getfield 10, 3) := by decide +kernel
theorem dX7_gapStart_4 : decode cX7_gapStart 4 = .ok (.getfield 175, 3) := by decide +kernel
