theorem dX7_gapStart_7 : decode cX7_gapStart 7 = .ok (.getfield 181, 3) := by decide +kernel
theorem dX7_gapStart_10 : decode cX7_gapStart 10 = .ok (.ireturn, 1) := by decide +kernel
theorem dX7_cell_0 : decode cX7_cell 0 = .ok (.iload_n 1, 1) := by decide +kernel
theorem dX7_cell_1 : decode cX7_cell 1 = .ok (.ifCond .lt 21, 3) := by decide +kernel
theorem dX7_cell_4 : decode cX7_cell 4 = .ok (.iload_n 1, 1) := by decide +kernel
theorem dX7_cell_5 : decode cX7_cell 5 = .ok (.aload_n 0, 1) := by decide +kernel
theorem dX7_cell_6 : decode cX7_cell 6 = .ok (.getfield 10, 3) := by decide +kernel
theorem dX7_cell_9 : decode cX7_cell 9 = .ok (.getfield 175, 3) := by decide +kernel
theorem dX7_cell_12 : decode cX7_cell 12 = .ok (.getfield 178, 3) := by decide +kernel
theorem dX7_cell_15 : decode cX7_cell 15 = .ok (.if_icmp .ge 7, 3) := by decide +kernel
theorem dX7_cell_18 : decode cX7_cell 18 = .ok (.iconst 1, 1) := by decide +kernel
theorem dX7_cell_19 : decode cX7_cell 19 = .ok (.goto 4, 3) := by decide +kernel
theorem dX7_cell_22 : decode cX7_cell 22 = .ok (.iconst 0, 1) := by decide +kernel
theorem dX7_cell_23 : decode cX7_cell 23 = .ok (.invokestatic 82, 3) := by decide +kernel
theorem dX7_cell_26 : decode cX7_cell 26 = .ok (.aload_n 0, 1) := by decide +kernel
theorem dX7_cell_27 : decode cX7_cell 27 = .ok (.getfield 10, 3) := by decide +kernel
theorem dX7_cell_30 : decode cX7_cell 30 = .ok (.iload_n 1, 1) := by decide +kernel
theorem dX7_cell_31 : decode cX7_cell 31 = .ok (.invokevirtual 184, 3) := by decide +kernel
theorem dX7_cell_34 : decode cX7_cell 34 = .ok (.ireturn, 1) := by decide +kernel
theorem dX7_copied_0 : decode cX7_copied 0 = .ok (.aload_n 0, 1) := by decide +kernel
theorem dX7_copied_1 : decode cX7_copied 1 = .ok (.getfield 10, 3) := by decide +kernel
theorem dX7_copied_4 : decode cX7_copied 4 = .ok (.getfield 175, 3) := by decide +kernel
theorem dX7_copied_7 : decode cX7_copied 7 = .ok (.getfield 190, 3) := by decide +kernel
theorem dX7_copied_10 : decode cX7_copied 10 = .ok (.ireturn, 1) := by decide +kernel
theorem dX7_growths_0 : decode cX7_growths 0 = .ok (.aload_n 0, 1) := by decide +kernel
theorem dX7_growths_1 : decode cX7_growths 1 = .ok (.getfield 10, 3) := by decide +kernel
theorem dX7_growths_4 : decode cX7_growths 4 = .ok (.getfield 175, 3) := by decide +kernel
theorem dX7_growths_7 : decode cX7_growths 7 = .ok (.getfield 193, 3) := by decide +kernel
theorem dX7_growths_10 : decode cX7_growths 10 = .ok (.ireturn, 1) := by decide +kernel
theorem dX7_shrinks_0 : decode cX7_shrinks 0 = .ok (.aload_n 0, 1) := by decide +kernel
theorem dX7_shrinks_1 : decode cX7_shrinks 1 = .ok (.getfield 10, 3) := by decide +kernel
theorem dX7_shrinks_4 : decode cX7_shrinks 4 = .ok (.getfield 175, 3) := by decide +kernel
theorem dX7_shrinks_7 : decode cX7_shrinks 7 = .ok (.getfield 196, 3) := by decide +kernel
theorem dX7_shrinks_10 : decode cX7_shrinks 10 = .ok (.ireturn, 1) := by decide +kernel
theorem dX7_room_0 : decode cX7_room 0 = .ok (.aload_n 0, 1) := by decide +kernel
theorem dX7_room_1 : decode cX7_room 1 = .ok (.getfield 10, 3) := by decide +kernel
theorem dX7_room_4 : decode cX7_room 4 = .ok (.getfield 175, 3) := by decide +kernel
theorem dX7_room_7 : decode cX7_room 7 = .ok (.getfield 178, 3) := by decide +kernel
theorem dX7_room_10 : decode cX7_room 10 = .ok (.aload_n 0, 1) := by decide +kernel
theorem dX7_room_11 : decode cX7_room 11 = .ok (.getfield 10, 3) := by decide +kernel
theorem dX7_room_14 : decode cX7_room 14 = .ok (.getfield 60, 3) := by decide +kernel
theorem dX7_room_17 : decode cX7_room 17 = .ok (.invokevirtual 64, 3) := by decide +kernel
theorem dX7_room_20 : decode cX7_room 20 = .ok (.isub, 1) := by decide +kernel
theorem dX7_room_21 : decode cX7_room 21 = .ok (.ireturn, 1) := by decide +kernel
theorem dX7_undo_0 : decode cX7_undo 0 = .ok (.aload_n 0, 1) := by decide +kernel
theorem dX7_undo_1 : decode cX7_undo 1 = .ok (.getfield 19, 3) := by decide +kernel
theorem dX7_undo_4 : decode cX7_undo 4 = .ok (.invokevirtual 229, 3) := by decide +kernel
theorem dX7_undo_7 : decode cX7_undo 7 = .ok (.ifCond .le 7, 3) := by decide +kernel
theorem dX7_undo_10 : decode cX7_undo 10 = .ok (.iconst 1, 1) := by decide +kernel
theorem dX7_undo_11 : decode cX7_undo 11 = .ok (.goto 4, 3) := by decide +kernel
theorem dX7_undo_14 : decode cX7_undo 14 = .ok (.iconst 0, 1) := by decide +kernel
theorem dX7_undo_15 : decode cX7_undo 15 = .ok (.invokestatic 49, 3) := by decide +kernel
theorem dX7_undo_18 : decode cX7_undo 18 = .ok (.aload_n 0, 1) := by decide +kernel
theorem dX7_undo_19 : decode cX7_undo 19 = .ok (.getfield 19, 3) := by decide +kernel
theorem dX7_undo_22 : decode cX7_undo 22 = .ok (.aload_n 0, 1) := by decide +kernel
theorem dX7_undo_23 : decode cX7_undo 23 = .ok (.getfield 10, 3) := by decide +kernel
theorem dX7_undo_26 : decode cX7_undo 26 = .ok (.invokevirtual 232, 3) := by decide +kernel
theorem dX7_undo_29 : decode cX7_undo 29 = .ok (.aload_n 0, 1) := by decide +kernel
theorem dX7_undo_30 : decode cX7_undo 30 = .ok (.getfield 19, 3) := by decide +kernel
theorem dX7_undo_33 : decode cX7_undo 33 = .ok (.invokevirtual 229, 3) := by decide +kernel
theorem dX7_undo_36 : decode cX7_undo 36 = .ok (.ireturn, 1) := by decide +kernel
theorem dX7_savedStates_0 : decode cX7_savedStates 0 = .ok (.aload_n 0, 1) := by decide +kernel
theorem dX7_savedStates_1 : decode cX7_savedStates 1 = .ok (.getfield 19, 3) := by decide +kernel
theorem dX7_savedStates_4 : decode cX7_savedStates 4 = .ok (.invokevirtual 229, 3) := by decide +kernel
theorem dX7_savedStates_7 : decode cX7_savedStates 7 = .ok (.ireturn, 1) := by decide +kernel
theorem dX7_digest_0 : decode cX7_digest 0 = .ok (.aload_n 0, 1) := by decide +kernel
theorem dX7_digest_1 : decode cX7_digest 1 = .ok (.getfield 10, 3) := by decide +kernel
theorem dX7_digest_4 : decode cX7_digest 4 = .ok (.invokevirtual 235, 3) := by decide +kernel
theorem dX7_digest_7 : decode cX7_digest 7 = .ok (.lreturn, 1) := by decide +kernel
theorem dX7_requireArgument_0 : decode cX7_requireArgument 0 = .ok (.iload_n 0, 1) := by decide +kernel
theorem dX7_requireArgument_1 : decode cX7_requireArgument 1 = .ok (.ifCond .ne 11, 3) := by decide +kernel
theorem dX7_requireArgument_4 : decode cX7_requireArgument 4 = .ok (.new 239, 3) := by decide +kernel
theorem dX7_requireArgument_7 : decode cX7_requireArgument 7 = .ok (.dup, 1) := by decide +kernel
theorem dX7_requireArgument_8 : decode cX7_requireArgument 8 = .ok (.invokespecial 241, 3) := by decide +kernel
theorem dX7_requireArgument_11 : decode cX7_requireArgument 11 = .ok (.athrow, 1) := by decide +kernel
theorem dX7_requireArgument_12 : decode cX7_requireArgument 12 = .ok (.return_, 1) := by decide +kernel
theorem dX7_requireIndex_0 : decode cX7_requireIndex 0 = .ok (.iload_n 0, 1) := by decide +kernel
theorem dX7_requireIndex_1 : decode cX7_requireIndex 1 = .ok (.ifCond .ne 11, 3) := by decide +kernel
theorem dX7_requireIndex_4 : decode cX7_requireIndex 4 = .ok (.new 242, 3) := by decide +kernel
theorem dX7_requireIndex_7 : decode cX7_requireIndex 7 = .ok (.dup, 1) := by decide +kernel
theorem dX7_requireIndex_8 : decode cX7_requireIndex 8 = .ok (.invokespecial 244, 3) := by decide +kernel
theorem dX7_requireIndex_11 : decode cX7_requireIndex 11 = .ok (.athrow, 1) := by decide +kernel
theorem dX7_requireIndex_12 : decode cX7_requireIndex 12 = .ok (.return_, 1) := by decide +kernel
theorem dX7_requireState_0 : decode cX7_requireState 0 = .ok (.iload_n 0, 1) := by decide +kernel
theorem dX7_requireState_1 : decode cX7_requireState 1 = .ok (.ifCond .ne 11, 3) := by decide +kernel
theorem dX7_requireState_4 : decode cX7_requireState 4 = .ok (.new 245, 3) := by decide +kernel
theorem dX7_requireState_7 : decode cX7_requireState 7 = .ok (.dup, 1) := by decide +kernel
theorem dX7_requireState_8 : decode cX7_requireState 8 = .ok (.invokespecial 247, 3) := by decide +kernel
theorem dX7_requireState_11 : decode cX7_requireState 11 = .ok (.athrow, 1) := by decide +kernel
theorem dX7_requireState_12 : decode cX7_requireState 12 = .ok (.return_, 1) := by decide +kernel
theorem dX7_isByte_0 : decode cX7_isByte 0 = .ok (.iload_n 0, 1) := by decide +kernel
theorem dX7_isByte_1 : decode cX7_isByte 1 = .ok (.bipush 10, 2) := by decide +kernel
theorem dX7_isByte_3 : decode cX7_isByte 3 = .ok (.if_icmp .eq 15, 3) := by decide +kernel
theorem dX7_isByte_6 : decode cX7_isByte 6 = .ok (.iload_n 0, 1) := by decide +kernel
theorem dX7_isByte_7 : decode cX7_isByte 7 = .ok (.bipush 32, 2) := by decide +kernel
theorem dX7_isByte_9 : decode cX7_isByte 9 = .ok (.if_icmp .lt 13, 3) := by decide +kernel
theorem dX7_isByte_12 : decode cX7_isByte 12 = .ok (.iload_n 0, 1) := by decide +kernel
theorem dX7_isByte_13 : decode cX7_isByte 13 = .ok (.bipush 126, 2) := by decide +kernel
theorem dX7_isByte_15 : decode cX7_isByte 15 = .ok (.if_icmp .gt 7, 3) := by decide +kernel
theorem dX7_isByte_18 : decode cX7_isByte 18 = .ok (.iconst 1, 1) := by decide +kernel
theorem dX7_isByte_19 : decode cX7_isByte 19 = .ok (.goto 4, 3) := by decide +kernel
theorem dX7_isByte_22 : decode cX7_isByte 22 = .ok (.iconst 0, 1) := by decide +kernel
theorem dX7_isByte_23 : decode cX7_isByte 23 = .ok (.ireturn, 1) := by decide +kernel
theorem dX7_isCount_0 : decode cX7_isCount 0 = .ok (.iload_n 0, 1) := by decide +kernel
theorem dX7_isCount_1 : decode cX7_isCount 1 = .ok (.iconst 1, 1) := by decide +kernel
theorem dX7_isCount_2 : decode cX7_isCount 2 = .ok (.if_icmp .lt 13, 3) := by decide +kernel
theorem dX7_isCount_5 : decode cX7_isCount 5 = .ok (.iload_n 0, 1) := by decide +kernel
theorem dX7_isCount_6 : decode cX7_isCount 6 = .ok (.bipush 100, 2) := by decide +kernel
theorem dX7_isCount_8 : decode cX7_isCount 8 = .ok (.if_icmp .gt 7, 3) := by decide +kernel
theorem dX7_isCount_11 : decode cX7_isCount 11 = .ok (.iconst 1, 1) := by decide +kernel
theorem dX7_isCount_12 : decode cX7_isCount 12 = .ok (.goto 4, 3) := by decide +kernel
theorem dX7_isCount_15 : decode cX7_isCount 15 = .ok (.iconst 0, 1) := by decide +kernel
theorem dX7_isCount_16 : decode cX7_isCount 16 = .ok (.ireturn, 1) := by decide +kernel
theorem dX7_isMark_0 : decode cX7_isMark 0 = .ok (.iload_n 0, 1) := by decide +kernel
theorem dX7_isMark_1 : decode cX7_isMark 1 = .ok (.ifCond .lt 12, 3) := by decide +kernel
theorem dX7_isMark_4 : decode cX7_isMark 4 = .ok (.iload_n 0, 1) := by decide +kernel
theorem dX7_isMark_5 : decode cX7_isMark 5 = .ok (.iconst 4, 1) := by decide +kernel
theorem dX7_isMark_6 : decode cX7_isMark 6 = .ok (.if_icmp .ge 7, 3) := by decide +kernel
theorem dX7_isMark_9 : decode cX7_isMark 9 = .ok (.iconst 1, 1) := by decide +kernel
theorem dX7_isMark_10 : decode cX7_isMark 10 = .ok (.goto 4, 3) := by decide +kernel
theorem dX7_isMark_13 : decode cX7_isMark 13 = .ok (.iconst 0, 1) := by decide +kernel
theorem dX7_isMark_14 : decode cX7_isMark 14 = .ok (.ireturn, 1) := by decide +kernel
theorem dX7_isPosition_0 : decode cX7_isPosition 0 = .ok (.iload_n 1, 1) := by decide +kernel
theorem dX7_isPosition_1 : decode cX7_isPosition 1 = .ok (.ifCond .lt 21, 3) := by decide +kernel
theorem dX7_isPosition_4 : decode cX7_isPosition 4 = .ok (.iload_n 1, 1) := by decide +kernel
theorem dX7_isPosition_5 : decode cX7_isPosition 5 = .ok (.aload_n 0, 1) := by decide +kernel
theorem dX7_isPosition_6 : decode cX7_isPosition 6 = .ok (.getfield 10, 3) := by decide +kernel
theorem dX7_isPosition_9 : decode cX7_isPosition 9 = .ok (.getfield 60, 3) := by decide +kernel
theorem dX7_isPosition_12 : decode cX7_isPosition 12 = .ok (.invokevirtual 64, 3) := by decide +kernel
theorem dX7_isPosition_15 : decode cX7_isPosition 15 = .ok (.if_icmp .gt 7, 3) := by decide +kernel
theorem dX7_isPosition_18 : decode cX7_isPosition 18 = .ok (.iconst 1, 1) := by decide +kernel
theorem dX7_isPosition_19 : decode cX7_isPosition 19 = .ok (.goto 4, 3) := by decide +kernel
theorem dX7_isPosition_22 : decode cX7_isPosition 22 = .ok (.iconst 0, 1) := by decide +kernel
theorem dX7_isPosition_23 : decode cX7_isPosition 23 = .ok (.ireturn, 1) := by decide +kernel
theorem dL_cell_0 : decode cL_cell 0 = .ok (.iload_n 1, 1) := by decide +kernel
theorem dL_cell_1 : decode cL_cell 1 = .ok (.aload_n 0, 1) := by decide +kernel
theorem dL_cell_2 : decode cL_cell 2 = .ok (.arraylength, 1) := by decide +kernel
theorem dL_cell_3 : decode cL_cell 3 = .ok (.if_icmp .ge 9, 3) := by decide +kernel
theorem dL_cell_6 : decode cL_cell 6 = .ok (.aload_n 0, 1) := by decide +kernel
theorem dL_cell_7 : decode cL_cell 7 = .ok (.iload_n 1, 1) := by decide +kernel
theorem dL_cell_8 : decode cL_cell 8 = .ok (.iaload, 1) := by decide +kernel
theorem dL_cell_9 : decode cL_cell 9 = .ok (.goto 15, 3) := by decide +kernel
theorem dL_cell_12 : decode cL_cell 12 = .ok (.sipush 7919, 3) := by decide +kernel
theorem dL_cell_15 : decode cL_cell 15 = .ok (.iload_n 1, 1) := by decide +kernel
theorem dL_cell_16 : decode cL_cell 16 = .ok (.iconst 3, 1) := by decide +kernel
theorem dL_cell_17 : decode cL_cell 17 = .ok (.iadd, 1) := by decide +kernel
theorem dL_cell_18 : decode cL_cell 18 = .ok (.imul, 1) := by decide +kernel
theorem dL_cell_19 : decode cL_cell 19 = .ok (.iload_n 1, 1) := by decide +kernel
theorem dL_cell_20 : decode cL_cell 20 = .ok (.bipush 11, 2) := by decide +kernel
theorem dL_cell_22 : decode cL_cell 22 = .ok (.iadd, 1) := by decide +kernel
theorem dL_cell_23 : decode cL_cell 23 = .ok (.imul, 1) := by decide +kernel
theorem dL_cell_24 : decode cL_cell 24 = .ok (.ireturn, 1) := by decide +kernel
theorem dL_low_0 : decode cL_low 0 = .ok (.iload_n 0, 1) := by decide +kernel
theorem dL_low_1 : decode cL_low 1 = .ok (.ldc 7, 2) := by decide +kernel
theorem dL_low_3 : decode cL_low 3 = .ok (.iand, 1) := by decide +kernel
theorem dL_low_4 : decode cL_low 4 = .ok (.iload_n 1, 1) := by decide +kernel
theorem dL_low_5 : decode cL_low 5 = .ok (.irem, 1) := by decide +kernel
theorem dL_low_6 : decode cL_low 6 = .ok (.ireturn, 1) := by decide +kernel
theorem dL_act_0 : decode cL_act 0 = .ok (.aload_n 0, 1) := by decide +kernel
theorem dL_act_1 : decode cL_act 1 = .ok (.invokevirtual 8, 3) := by decide +kernel
theorem dL_act_4 : decode cL_act 4 = .ok (.istore_n 3, 1) := by decide +kernel
theorem dL_act_5 : decode cL_act 5 = .ok (.iload_n 2, 1) := by decide +kernel
theorem dL_act_6 : decode cL_act 6 = .ok (.iconst 3, 1) := by decide +kernel
theorem dL_act_7 : decode cL_act 7 = .ok (.iand, 1) := by decide +kernel
theorem dL_act_8 : decode cL_act 8 = .ok (.ifCond .ne 8, 3) := by decide +kernel
theorem dL_act_11 : decode cL_act 11 = .ok (.bipush 10, 2) := by decide +kernel
theorem dL_act_13 : decode cL_act 13 = .ok (.goto 13, 3) := by decide +kernel
theorem dL_act_16 : decode cL_act 16 = .ok (.bipush 97, 2) := by decide +kernel
theorem dL_act_18 : decode cL_act 18 = .ok (.iload_n 2, 1) := by decide +kernel
theorem dL_act_19 : decode cL_act 19 = .ok (.iconst 2, 1) := by decide +kernel
theorem dL_act_20 : decode cL_act 20 = .ok (.ishr, 1) := by decide +kernel
theorem dL_act_21 : decode cL_act 21 = .ok (.iconst 4, 1) := by decide +kernel
theorem dL_act_22 : decode cL_act 22 = .ok (.invokestatic 14, 3) := by decide +kernel
theorem dL_act_25 : decode cL_act 25 = .ok (.iadd, 1) := by decide +kernel
theorem dL_act_26 : decode cL_act 26 = .ok (.istore 4, 2) := by decide +kernel
theorem dL_act_28 : decode cL_act 28 = .ok (.iload_n 1, 1) := by decide +kernel
theorem dL_act_29 : decode cL_act 29 = .ok (.iconst 4, 1) := by decide +kernel
theorem dL_act_30 : decode cL_act 30 = .ok (.ishr, 1) := by decide +kernel
theorem dL_act_31 : decode cL_act 31 = .ok (.iconst 4, 1) := by decide +kernel
theorem dL_act_32 : decode cL_act 32 = .ok (.invokestatic 14, 3) := by decide +kernel
theorem dL_act_35 : decode cL_act 35 = .ok (.istore 5, 2) := by decide +kernel
theorem dL_act_37 : decode cL_act 37 = .ok (.aload_n 0, 1) := by decide +kernel
theorem dL_act_38 : decode cL_act 38 = .ok (.iload 5, 2) := by decide +kernel
theorem dL_act_40 : decode cL_act 40 = .ok (.invokevirtual 20, 3) := by decide +kernel
theorem dL_act_43 : decode cL_act 43 = .ok (.ifCond .ge 9, 3) := by decide +kernel
theorem dL_act_46 : decode cL_act 46 = .ok (.sipush 999, 3) := by decide +kernel
theorem dL_act_49 : decode cL_act 49 = .ok (.goto 41, 3) := by decide +kernel
theorem dL_act_52 : decode cL_act 52 = .ok (.aload_n 0, 1) := by decide +kernel
theorem dL_act_53 : decode cL_act 53 = .ok (.invokevirtual 24, 3) := by decide +kernel
theorem dL_act_56 : decode cL_act 56 = .ok (.aload_n 0, 1) := by decide +kernel
theorem dL_act_57 : decode cL_act 57 = .ok (.iload 5, 2) := by decide +kernel
theorem dL_act_59 : decode cL_act 59 = .ok (.invokevirtual 20, 3) := by decide +kernel
theorem dL_act_62 : decode cL_act 62 = .ok (.if_icmp .le 17, 3) := by decide +kernel
theorem dL_act_65 : decode cL_act 65 = .ok (.aload_n 0, 1) := by decide +kernel
theorem dL_act_66 : decode cL_act 66 = .ok (.invokevirtual 24, 3) := by decide +kernel
theorem dL_act_69 : decode cL_act 69 = .ok (.aload_n 0, 1) := by decide +kernel
theorem dL_act_70 : decode cL_act 70 = .ok (.iload 5, 2) := by decide +kernel
theorem dL_act_72 : decode cL_act 72 = .ok (.invokevirtual 20, 3) := by decide +kernel
theorem dL_act_75 : decode cL_act 75 = .ok (.isub, 1) := by decide +kernel
theorem dL_act_76 : decode cL_act 76 = .ok (.goto 14, 3) := by decide +kernel
theorem dL_act_79 : decode cL_act 79 = .ok (.aload_n 0, 1) := by decide +kernel
theorem dL_act_80 : decode cL_act 80 = .ok (.iload 5, 2) := by decide +kernel
theorem dL_act_82 : decode cL_act 82 = .ok (.invokevirtual 20, 3) := by decide +kernel
theorem dL_act_85 : decode cL_act 85 = .ok (.aload_n 0, 1) := by decide +kernel
theorem dL_act_86 : decode cL_act 86 = .ok (.invokevirtual 24, 3) := by decide +kernel
theorem dL_act_89 : decode cL_act 89 = .ok (.isub, 1) := by decide +kernel
theorem dL_act_90 : decode cL_act 90 = .ok (.istore 6, 2) := by decide +kernel
theorem dL_act_92 : decode cL_act 92 = .ok (.iload_n 1, 1) := by decide +kernel
theorem dL_act_93 : decode cL_act 93 = .ok (.bipush 15, 2) := by decide +kernel
theorem dL_act_95 : decode cL_act 95 = .ok (.iand, 1) := by decide +kernel
theorem dL_act_96 : decode cL_act 96 = .ok (.tableswitch 351 0 14 #[76, 76, 95, 95, 145, 172, 199, 199, 211, 226, 244, 288, 288, 313, 332], 76) := by decide +kernel
theorem dL_act_172 : decode cL_act 172 = .ok (.iload_n 3, 1) := by decide +kernel
theorem dL_act_173 : decode cL_act 173 = .ok (.sipush 256, 3) := by decide +kernel
theorem dL_act_176 : decode cL_act 176 = .ok (.if_icmp .ne 8, 3) := by decide +kernel
theorem dL_act_179 : decode cL_act 179 = .ok (.bipush (-9), 2) := by decide +kernel
theorem dL_act_181 : decode cL_act 181 = .ok (.goto 9, 3) := by decide +kernel
theorem dL_act_184 : decode cL_act 184 = .ok (.aload_n 0, 1) := by decide +kernel
theorem dL_act_185 : decode cL_act 185 = .ok (.iload 4, 2) := by decide +kernel
theorem dL_act_187 : decode cL_act 187 = .ok (.invokevirtual 27, 3) := by decide +kernel
theorem dL_act_190 : decode cL_act 190 = .ok (.ireturn, 1) := by decide +kernel
theorem dL_act_191 : decode cL_act 191 = .ok (.iconst 1, 1) := by decide +kernel
theorem dL_act_192 : decode cL_act 192 = .ok (.iload_n 2, 1) := by decide +kernel
theorem dL_act_193 : decode cL_act 193 = .ok (.iconst 4, 1) := by decide +kernel
theorem dL_act_194 : decode cL_act 194 = .ok (.ishr, 1) := by decide +kernel
theorem dL_act_195 : decode cL_act 195 = .ok (.iload_n 2, 1) := by decide +kernel
theorem dL_act_196 : decode cL_act 196 = .ok (.bipush 20, 2) := by decide +kernel
theorem dL_act_198 : decode cL_act 198 = .ok (.ishr, 1) := by decide +kernel
theorem dL_act_199 : decode cL_act 199 = .ok (.iconst 1, 1) := by decide +kernel
theorem dL_act_200 : decode cL_act 200 = .ok (.iand, 1) := by decide +kernel
theorem dL_act_201 : decode cL_act 201 = .ok (.ifCond .ne 8, 3) := by decide +kernel
theorem dL_act_204 : decode cL_act 204 = .ok (.bipush 9, 2) := by decide +kernel
theorem dL_act_206 : decode cL_act 206 = .ok (.goto 5, 3) := by decide +kernel
theorem dL_act_209 : decode cL_act 209 = .ok (.bipush 100, 2) := by decide +kernel
theorem dL_act_211 : decode cL_act 211 = .ok (.invokestatic 14, 3) := by decide +kernel
theorem dL_act_214 : decode cL_act 214 = .ok (.iadd, 1) := by decide +kernel
theorem dL_act_215 : decode cL_act 215 = .ok (.istore 7, 2) := by decide +kernel
theorem dL_act_217 : decode cL_act 217 = .ok (.iload_n 3, 1) := by decide +kernel
theorem dL_act_218 : decode cL_act 218 = .ok (.iload 7, 2) := by decide +kernel
theorem dL_act_220 : decode cL_act 220 = .ok (.iadd, 1) := by decide +kernel
theorem dL_act_221 : decode cL_act 221 = .ok (.sipush 256, 3) := by decide +kernel
theorem dL_act_224 : decode cL_act 224 = .ok (.if_icmp .le 8, 3) := by decide +kernel
theorem dL_act_227 : decode cL_act 227 = .ok (.bipush (-9), 2) := by decide +kernel
theorem dL_act_229 : decode cL_act 229 = .ok (.goto 11, 3) := by decide +kernel
theorem dL_act_232 : decode cL_act 232 = .ok (.aload_n 0, 1) := by decide +kernel
theorem dL_act_233 : decode cL_act 233 = .ok (.iload 4, 2) := by decide +kernel
theorem dL_act_235 : decode cL_act 235 = .ok (.iload 7, 2) := by decide +kernel
theorem dL_act_237 : decode cL_act 237 = .ok (.invokevirtual 30, 3) := by decide +kernel
theorem dL_act_240 : decode cL_act 240 = .ok (.ireturn, 1) := by decide +kernel
theorem dL_act_241 : decode cL_act 241 = .ok (.aload_n 0, 1) := by decide +kernel
theorem dL_act_242 : decode cL_act 242 = .ok (.iconst 1, 1) := by decide +kernel
theorem dL_act_243 : decode cL_act 243 = .ok (.iload_n 2, 1) := by decide +kernel
theorem dL_act_244 : decode cL_act 244 = .ok (.iload_n 2, 1) := by decide +kernel
theorem dL_act_245 : decode cL_act 245 = .ok (.bipush 20, 2) := by decide +kernel
theorem dL_act_247 : decode cL_act 247 = .ok (.ishr, 1) := by decide +kernel
theorem dL_act_248 : decode cL_act 248 = .ok (.iconst 1, 1) := by decide +kernel
theorem dL_act_249 : decode cL_act 249 = .ok (.iand, 1) := by decide +kernel
theorem dL_act_250 : decode cL_act 250 = .ok (.ifCond .ne 8, 3) := by decide +kernel
theorem dL_act_253 : decode cL_act 253 = .ok (.bipush 9, 2) := by decide +kernel
theorem dL_act_255 : decode cL_act 255 = .ok (.goto 5, 3) := by decide +kernel
theorem dL_act_258 : decode cL_act 258 = .ok (.bipush 100, 2) := by decide +kernel
theorem dL_act_260 : decode cL_act 260 = .ok (.invokestatic 14, 3) := by decide +kernel
theorem dL_act_263 : decode cL_act 263 = .ok (.iadd, 1) := by decide +kernel
theorem dL_act_264 : decode cL_act 264 = .ok (.invokevirtual 33, 3) := by decide +kernel
theorem dL_act_267 : decode cL_act 267 = .ok (.ireturn, 1) := by decide +kernel
theorem dL_act_268 : decode cL_act 268 = .ok (.aload_n 0, 1) := by decide +kernel
theorem dL_act_269 : decode cL_act 269 = .ok (.iconst 1, 1) := by decide +kernel
theorem dL_act_270 : decode cL_act 270 = .ok (.iload_n 2, 1) := by decide +kernel
theorem dL_act_271 : decode cL_act 271 = .ok (.iload_n 2, 1) := by decide +kernel
theorem dL_act_272 : decode cL_act 272 = .ok (.bipush 20, 2) := by decide +kernel
theorem dL_act_274 : decode cL_act 274 = .ok (.ishr, 1) := by decide +kernel
theorem dL_act_275 : decode cL_act 275 = .ok (.iconst 1, 1) := by decide +kernel
theorem dL_act_276 : decode cL_act 276 = .ok (.iand, 1) := by decide +kernel
theorem dL_act_277 : decode cL_act 277 = .ok (.ifCond .ne 8, 3) := by decide +kernel
theorem dL_act_280 : decode cL_act 280 = .ok (.bipush 9, 2) := by decide +kernel
theorem dL_act_282 : decode cL_act 282 = .ok (.goto 5, 3) := by decide +kernel
theorem dL_act_285 : decode cL_act 285 = .ok (.bipush 100, 2) := by decide +kernel
theorem dL_act_287 : decode cL_act 287 = .ok (.invokestatic 14, 3) := by decide +kernel
theorem dL_act_290 : decode cL_act 290 = .ok (.iadd, 1) := by decide +kernel
theorem dL_act_291 : decode cL_act 291 = .ok (.invokevirtual 36, 3) := by decide +kernel
theorem dL_act_294 : decode cL_act 294 = .ok (.ireturn, 1) := by decide +kernel
theorem dL_act_295 : decode cL_act 295 = .ok (.aload_n 0, 1) := by decide +kernel
theorem dL_act_296 : decode cL_act 296 = .ok (.iload_n 2, 1) := by decide +kernel
theorem dL_act_297 : decode cL_act 297 = .ok (.iload_n 3, 1) := by decide +kernel
theorem dL_act_298 : decode cL_act 298 = .ok (.iconst 1, 1) := by decide +kernel
theorem dL_act_299 : decode cL_act 299 = .ok (.iadd, 1) := by decide +kernel
theorem dL_act_300 : decode cL_act 300 = .ok (.invokestatic 14, 3) := by decide +kernel
theorem dL_act_303 : decode cL_act 303 = .ok (.invokevirtual 39, 3) := by decide +kernel
theorem dL_act_306 : decode cL_act 306 = .ok (.ireturn, 1) := by decide +kernel
theorem dL_act_307 : decode cL_act 307 = .ok (.aload_n 0, 1) := by decide +kernel
theorem dL_act_308 : decode cL_act 308 = .ok (.iload_n 2, 1) := by decide +kernel
theorem dL_act_309 : decode cL_act 309 = .ok (.sipush 201, 3) := by decide +kernel
theorem dL_act_312 : decode cL_act 312 = .ok (.invokestatic 14, 3) := by decide +kernel
theorem dL_act_315 : decode cL_act 315 = .ok (.bipush 100, 2) := by decide +kernel
theorem dL_act_317 : decode cL_act 317 = .ok (.isub, 1) := by decide +kernel
theorem dL_act_318 : decode cL_act 318 = .ok (.invokevirtual 42, 3) := by decide +kernel
theorem dL_act_321 : decode cL_act 321 = .ok (.ireturn, 1) := by decide +kernel
theorem dL_act_322 : decode cL_act 322 = .ok (.iload_n 2, 1) := by decide +kernel
theorem dL_act_323 : decode cL_act 323 = .ok (.iconst 1, 1) := by decide +kernel
theorem dL_act_324 : decode cL_act 324 = .ok (.iand, 1) := by decide +kernel
theorem dL_act_325 : decode cL_act 325 = .ok (.ifCond .ne 10, 3) := by decide +kernel
theorem dL_act_328 : decode cL_act 328 = .ok (.aload_n 0, 1) := by decide +kernel
theorem dL_act_329 : decode cL_act 329 = .ok (.invokevirtual 45, 3) := by decide +kernel
theorem dL_act_332 : decode cL_act 332 = .ok (.goto 7, 3) := by decide +kernel
theorem dL_act_335 : decode cL_act 335 = .ok (.aload_n 0, 1) := by decide +kernel
theorem dL_act_336 : decode cL_act 336 = .ok (.invokevirtual 48, 3) := by decide +kernel
theorem dL_act_339 : decode cL_act 339 = .ok (.ireturn, 1) := by decide +kernel
theorem dL_act_340 : decode cL_act 340 = .ok (.iload_n 2, 1) := by decide +kernel
theorem dL_act_341 : decode cL_act 341 = .ok (.iconst 3, 1) := by decide +kernel
theorem dL_act_342 : decode cL_act 342 = .ok (.iand, 1) := by decide +kernel
theorem dL_act_343 : decode cL_act 343 = .ok (.ifCond .ne 23, 3) := by decide +kernel
theorem dL_act_346 : decode cL_act 346 = .ok (.aload_n 0, 1) := by decide +kernel
theorem dL_act_347 : decode cL_act 347 = .ok (.iload_n 2, 1) := by decide +kernel
theorem dL_act_348 : decode cL_act 348 = .ok (.iconst 2, 1) := by decide +kernel
theorem dL_act_349 : decode cL_act 349 = .ok (.ishr, 1) := by decide +kernel
theorem dL_act_350 : decode cL_act 350 = .ok (.iconst 1, 1) := by decide +kernel
theorem dL_act_351 : decode cL_act 351 = .ok (.iand, 1) := by decide +kernel
theorem dL_act_352 : decode cL_act 352 = .ok (.ifCond .ne 7, 3) := by decide +kernel
theorem dL_act_355 : decode cL_act 355 = .ok (.iconst 1, 1) := by decide +kernel
theorem dL_act_356 : decode cL_act 356 = .ok (.goto 4, 3) := by decide +kernel
theorem dL_act_359 : decode cL_act 359 = .ok (.iconst 0, 1) := by decide +kernel
theorem dL_act_360 : decode cL_act 360 = .ok (.invokevirtual 51, 3) := by decide +kernel
theorem dL_act_363 : decode cL_act 363 = .ok (.goto 20, 3) := by decide +kernel
theorem dL_act_366 : decode cL_act 366 = .ok (.aload_n 0, 1) := by decide +kernel
theorem dL_act_367 : decode cL_act 367 = .ok (.iload_n 2, 1) := by decide +kernel
theorem dL_act_368 : decode cL_act 368 = .ok (.iconst 2, 1) := by decide +kernel
theorem dL_act_369 : decode cL_act 369 = .ok (.ishr, 1) := by decide +kernel
theorem dL_act_370 : decode cL_act 370 = .ok (.iconst 1, 1) := by decide +kernel
theorem dL_act_371 : decode cL_act 371 = .ok (.iand, 1) := by decide +kernel
theorem dL_act_372 : decode cL_act 372 = .ok (.ifCond .ne 7, 3) := by decide +kernel
theorem dL_act_375 : decode cL_act 375 = .ok (.iconst 1, 1) := by decide +kernel
theorem dL_act_376 : decode cL_act 376 = .ok (.goto 4, 3) := by decide +kernel
theorem dL_act_379 : decode cL_act 379 = .ok (.iconst 0, 1) := by decide +kernel
theorem dL_act_380 : decode cL_act 380 = .ok (.invokevirtual 55, 3) := by decide +kernel
theorem dL_act_383 : decode cL_act 383 = .ok (.ireturn, 1) := by decide +kernel
theorem dL_act_384 : decode cL_act 384 = .ok (.aload_n 0, 1) := by decide +kernel
theorem dL_act_385 : decode cL_act 385 = .ok (.iload 5, 2) := by decide +kernel
theorem dL_act_387 : decode cL_act 387 = .ok (.iload_n 2, 1) := by decide +kernel
theorem dL_act_388 : decode cL_act 388 = .ok (.iconst 1, 1) := by decide +kernel
theorem dL_act_389 : decode cL_act 389 = .ok (.iand, 1) := by decide +kernel
theorem dL_act_390 : decode cL_act 390 = .ok (.invokevirtual 58, 3) := by decide +kernel
theorem dL_act_393 : decode cL_act 393 = .ok (.istore 8, 2) := by decide +kernel
theorem dL_act_395 : decode cL_act 395 = .ok (.iload 8, 2) := by decide +kernel
theorem dL_act_397 : decode cL_act 397 = .ok (.ifCond .ge 9, 3) := by decide +kernel
theorem dL_act_400 : decode cL_act 400 = .ok (.sipush 999, 3) := by decide +kernel
theorem dL_act_403 : decode cL_act 403 = .ok (.goto 5, 3) := by decide +kernel
theorem dL_act_406 : decode cL_act 406 = .ok (.iload 8, 2) := by decide +kernel
theorem dL_act_408 : decode cL_act 408 = .ok (.ireturn, 1) := by decide +kernel
theorem dL_act_409 : decode cL_act 409 = .ok (.iload 6, 2) := by decide +kernel
theorem dL_act_411 : decode cL_act 411 = .ok (.bipush 60, 2) := by decide +kernel
theorem dL_act_413 : decode cL_act 413 = .ok (.if_icmp .le 8, 3) := by decide +kernel
theorem dL_act_416 : decode cL_act 416 = .ok (.bipush (-9), 2) := by decide +kernel
theorem dL_act_418 : decode cL_act 418 = .ok (.goto 9, 3) := by decide +kernel
theorem dL_act_421 : decode cL_act 421 = .ok (.aload_n 0, 1) := by decide +kernel
theorem dL_act_422 : decode cL_act 422 = .ok (.iload 5, 2) := by decide +kernel
theorem dL_act_424 : decode cL_act 424 = .ok (.invokevirtual 61, 3) := by decide +kernel
theorem dL_act_427 : decode cL_act 427 = .ok (.ireturn, 1) := by decide +kernel
theorem dL_act_428 : decode cL_act 428 = .ok (.iload 6, 2) := by decide +kernel
theorem dL_act_430 : decode cL_act 430 = .ok (.bipush 60, 2) := by decide +kernel
theorem dL_act_432 : decode cL_act 432 = .ok (.if_icmp .le 8, 3) := by decide +kernel
theorem dL_act_435 : decode cL_act 435 = .ok (.bipush (-9), 2) := by decide +kernel
theorem dL_act_437 : decode cL_act 437 = .ok (.goto 9, 3) := by decide +kernel
theorem dL_act_440 : decode cL_act 440 = .ok (.aload_n 0, 1) := by decide +kernel
theorem dL_act_441 : decode cL_act 441 = .ok (.iload 5, 2) := by decide +kernel
theorem dL_act_443 : decode cL_act 443 = .ok (.invokevirtual 64, 3) := by decide +kernel
theorem dL_act_446 : decode cL_act 446 = .ok (.ireturn, 1) := by decide +kernel
theorem dL_act_447 : decode cL_act 447 = .ok (.iconst 0, 1) := by decide +kernel
theorem dL_act_448 : decode cL_act 448 = .ok (.istore 9, 2) := by decide +kernel
theorem dL_act_450 : decode cL_act 450 = .ok (.aload_n 0, 1) := by decide +kernel
theorem dL_act_451 : decode cL_act 451 = .ok (.iload 9, 2) := by decide +kernel
theorem dL_act_453 : decode cL_act 453 = .ok (.invokevirtual 67, 3) := by decide +kernel
theorem dL_act_456 : decode cL_act 456 = .ok (.ifCond .lt 9, 3) := by decide +kernel
theorem dL_act_459 : decode cL_act 459 = .ok (.iinc 9 1, 3) := by decide +kernel
theorem dL_act_462 : decode cL_act 462 = .ok (.goto (-12), 3) := by decide +kernel
theorem dL_act_465 : decode cL_act 465 = .ok (.iload 9, 2) := by decide +kernel
theorem dL_act_467 : decode cL_act 467 = .ok (.ifCond .eq 13, 3) := by decide +kernel
theorem dL_act_470 : decode cL_act 470 = .ok (.iload_n 3, 1) := by decide +kernel
theorem dL_act_471 : decode cL_act 471 = .ok (.iload 9, 2) := by decide +kernel
theorem dL_act_473 : decode cL_act 473 = .ok (.iadd, 1) := by decide +kernel
theorem dL_act_474 : decode cL_act 474 = .ok (.sipush 256, 3) := by decide +kernel
theorem dL_act_477 : decode cL_act 477 = .ok (.if_icmp .le 8, 3) := by decide +kernel
theorem dL_act_480 : decode cL_act 480 = .ok (.bipush (-9), 2) := by decide +kernel
theorem dL_act_482 : decode cL_act 482 = .ok (.goto 7, 3) := by decide +kernel
theorem dL_act_485 : decode cL_act 485 = .ok (.aload_n 0, 1) := by decide +kernel
theorem dL_act_486 : decode cL_act 486 = .ok (.invokevirtual 70, 3) := by decide +kernel
theorem dL_act_489 : decode cL_act 489 = .ok (.ireturn, 1) := by decide +kernel
theorem dL_holds_0 : decode cL_holds 0 = .ok (.aload_n 0, 1) := by decide +kernel
theorem dL_holds_1 : decode cL_holds 1 = .ok (.invokevirtual 8, 3) := by decide +kernel
theorem dL_holds_4 : decode cL_holds 4 = .ok (.istore_n 1, 1) := by decide +kernel
theorem dL_holds_5 : decode cL_holds 5 = .ok (.aload_n 0, 1) := by decide +kernel
theorem dL_holds_6 : decode cL_holds 6 = .ok (.invokevirtual 73, 3) := by decide +kernel
theorem dL_holds_9 : decode cL_holds 9 = .ok (.istore_n 2, 1) := by decide +kernel
theorem dL_holds_10 : decode cL_holds 10 = .ok (.aload_n 0, 1) := by decide +kernel
theorem dL_holds_11 : decode cL_holds 11 = .ok (.invokevirtual 76, 3) := by decide +kernel
theorem dL_holds_14 : decode cL_holds 14 = .ok (.istore_n 3, 1) := by decide +kernel
theorem dL_holds_15 : decode cL_holds 15 = .ok (.aload_n 0, 1) := by decide +kernel
theorem dL_holds_16 : decode cL_holds 16 = .ok (.invokevirtual 79, 3) := by decide +kernel
theorem dL_holds_19 : decode cL_holds 19 = .ok (.istore 4, 2) := by decide +kernel
theorem dL_holds_21 : decode cL_holds 21 = .ok (.iload_n 2, 1) := by decide +kernel
theorem dL_holds_22 : decode cL_holds 22 = .ok (.bipush 8, 2) := by decide +kernel
theorem dL_holds_24 : decode cL_holds 24 = .ok (.if_icmp .eq 35, 3) := by decide +kernel
theorem dL_holds_27 : decode cL_holds 27 = .ok (.iload_n 2, 1) := by decide +kernel
theorem dL_holds_28 : decode cL_holds 28 = .ok (.bipush 16, 2) := by decide +kernel
theorem dL_holds_30 : decode cL_holds 30 = .ok (.if_icmp .eq 29, 3) := by decide +kernel
theorem dL_holds_33 : decode cL_holds 33 = .ok (.iload_n 2, 1) := by decide +kernel
theorem dL_holds_34 : decode cL_holds 34 = .ok (.bipush 32, 2) := by decide +kernel
theorem dL_holds_36 : decode cL_holds 36 = .ok (.if_icmp .eq 23, 3) := by decide +kernel
theorem dL_holds_39 : decode cL_holds 39 = .ok (.iload_n 2, 1) := by decide +kernel
theorem dL_holds_40 : decode cL_holds 40 = .ok (.bipush 64, 2) := by decide +kernel
theorem dL_holds_42 : decode cL_holds 42 = .ok (.if_icmp .eq 17, 3) := by decide +kernel
theorem dL_holds_45 : decode cL_holds 45 = .ok (.iload_n 2, 1) := by decide +kernel
theorem dL_holds_46 : decode cL_holds 46 = .ok (.sipush 128, 3) := by decide +kernel
theorem dL_holds_49 : decode cL_holds 49 = .ok (.if_icmp .eq 10, 3) := by decide +kernel
theorem dL_holds_52 : decode cL_holds 52 = .ok (.iload_n 2, 1) := by decide +kernel
theorem dL_holds_53 : decode cL_holds 53 = .ok (.sipush 256, 3) := by decide +kernel
theorem dL_holds_56 : decode cL_holds 56 = .ok (.if_icmp .ne 7, 3) := by decide +kernel
theorem dL_holds_59 : decode cL_holds 59 = .ok (.iconst 1, 1) := by decide +kernel
theorem dL_holds_60 : decode cL_holds 60 = .ok (.goto 4, 3) := by decide +kernel
theorem dL_holds_63 : decode cL_holds 63 = .ok (.iconst 0, 1) := by decide +kernel
theorem dL_holds_64 : decode cL_holds 64 = .ok (.istore 5, 2) := by decide +kernel
theorem dL_holds_66 : decode cL_holds 66 = .ok (.iload 5, 2) := by decide +kernel
theorem dL_holds_68 : decode cL_holds 68 = .ok (.ifCond .eq 53, 3) := by decide +kernel
theorem dL_holds_71 : decode cL_holds 71 = .ok (.iload_n 2, 1) := by decide +kernel
theorem dL_holds_72 : decode cL_holds 72 = .ok (.iload_n 1, 1) := by decide +kernel
theorem dL_holds_73 : decode cL_holds 73 = .ok (.if_icmp .lt 48, 3) := by decide +kernel
theorem dL_holds_76 : decode cL_holds 76 = .ok (.iload_n 2, 1) := by decide +kernel
theorem dL_holds_77 : decode cL_holds 77 = .ok (.bipush 8, 2) := by decide +kernel
theorem dL_holds_79 : decode cL_holds 79 = .ok (.if_icmp .le 10, 3) := by decide +kernel
theorem dL_holds_82 : decode cL_holds 82 = .ok (.iload_n 2, 1) := by decide +kernel
theorem dL_holds_83 : decode cL_holds 83 = .ok (.iconst 4, 1) := by decide +kernel
theorem dL_holds_84 : decode cL_holds 84 = .ok (.iload_n 1, 1) := by decide +kernel
theorem dL_holds_85 : decode cL_holds 85 = .ok (.imul, 1) := by decide +kernel
theorem dL_holds_86 : decode cL_holds 86 = .ok (.if_icmp .ge 35, 3) := by decide +kernel
theorem dL_holds_89 : decode cL_holds 89 = .ok (.iload 4, 2) := by decide +kernel
theorem dL_holds_91 : decode cL_holds 91 = .ok (.iload_n 2, 1) := by decide +kernel
theorem dL_holds_92 : decode cL_holds 92 = .ok (.iload_n 1, 1) := by decide +kernel
theorem dL_holds_93 : decode cL_holds 93 = .ok (.isub, 1) := by decide +kernel
theorem dL_holds_94 : decode cL_holds 94 = .ok (.if_icmp .ne 27, 3) := by decide +kernel
theorem dL_holds_97 : decode cL_holds 97 = .ok (.iload_n 3, 1) := by decide +kernel
theorem dL_holds_98 : decode cL_holds 98 = .ok (.ifCond .lt 23, 3) := by decide +kernel
theorem dL_holds_101 : decode cL_holds 101 = .ok (.iload_n 3, 1) := by decide +kernel
theorem dL_holds_102 : decode cL_holds 102 = .ok (.iload_n 1, 1) := by decide +kernel
theorem dL_holds_103 : decode cL_holds 103 = .ok (.if_icmp .gt 18, 3) := by decide +kernel
theorem dL_holds_106 : decode cL_holds 106 = .ok (.aload_n 0, 1) := by decide +kernel
theorem dL_holds_107 : decode cL_holds 107 = .ok (.invokevirtual 24, 3) := by decide +kernel
theorem dL_holds_110 : decode cL_holds 110 = .ok (.ifCond .lt 11, 3) := by decide +kernel
theorem dL_holds_113 : decode cL_holds 113 = .ok (.aload_n 0, 1) := by decide +kernel
theorem dL_holds_114 : decode cL_holds 114 = .ok (.invokevirtual 24, 3) := by decide +kernel
theorem dL_holds_117 : decode cL_holds 117 = .ok (.iload_n 1, 1) := by decide +kernel
theorem dL_holds_118 : decode cL_holds 118 = .ok (.if_icmp .le 5, 3) := by decide +kernel
theorem dL_holds_121 : decode cL_holds 121 = .ok (.iconst 0, 1) := by decide +kernel
theorem dL_holds_122 : decode cL_holds 122 = .ok (.ireturn, 1) := by decide +kernel
theorem dL_holds_123 : decode cL_holds 123 = .ok (.iconst 0, 1) := by decide +kernel
theorem dL_holds_124 : decode cL_holds 124 = .ok (.istore 6, 2) := by decide +kernel
theorem dL_holds_126 : decode cL_holds 126 = .ok (.iload 6, 2) := by decide +kernel
theorem dL_holds_128 : decode cL_holds 128 = .ok (.iload_n 2, 1) := by decide +kernel
theorem dL_holds_129 : decode cL_holds 129 = .ok (.if_icmp .ge 61, 3) := by decide +kernel
theorem dL_holds_132 : decode cL_holds 132 = .ok (.iload 6, 2) := by decide +kernel
theorem dL_holds_134 : decode cL_holds 134 = .ok (.iload_n 3, 1) := by decide +kernel
theorem dL_holds_135 : decode cL_holds 135 = .ok (.if_icmp .ge 12, 3) := by decide +kernel
theorem dL_holds_138 : decode cL_holds 138 = .ok (.aload_n 0, 1) := by decide +kernel
theorem dL_holds_139 : decode cL_holds 139 = .ok (.iload 6, 2) := by decide +kernel
theorem dL_holds_141 : decode cL_holds 141 = .ok (.invokevirtual 82, 3) := by decide +kernel
theorem dL_holds_144 : decode cL_holds 144 = .ok (.goto 25, 3) := by decide +kernel
theorem dL_holds_147 : decode cL_holds 147 = .ok (.iload 6, 2) := by decide +kernel
theorem dL_holds_149 : decode cL_holds 149 = .ok (.iload_n 3, 1) := by decide +kernel
theorem dL_holds_150 : decode cL_holds 150 = .ok (.iload 4, 2) := by decide +kernel
theorem dL_holds_152 : decode cL_holds 152 = .ok (.iadd, 1) := by decide +kernel
theorem dL_holds_153 : decode cL_holds 153 = .ok (.if_icmp .ge 7, 3) := by decide +kernel
theorem dL_holds_156 : decode cL_holds 156 = .ok (.iconst (-1), 1) := by decide +kernel
theorem dL_holds_157 : decode cL_holds 157 = .ok (.goto 12, 3) := by decide +kernel
theorem dL_holds_160 : decode cL_holds 160 = .ok (.aload_n 0, 1) := by decide +kernel
theorem dL_holds_161 : decode cL_holds 161 = .ok (.iload 6, 2) := by decide +kernel
theorem dL_holds_163 : decode cL_holds 163 = .ok (.iload 4, 2) := by decide +kernel
theorem dL_holds_165 : decode cL_holds 165 = .ok (.isub, 1) := by decide +kernel
theorem dL_holds_166 : decode cL_holds 166 = .ok (.invokevirtual 82, 3) := by decide +kernel
theorem dL_holds_169 : decode cL_holds 169 = .ok (.istore 7, 2) := by decide +kernel
theorem dL_holds_171 : decode cL_holds 171 = .ok (.aload_n 0, 1) := by decide +kernel
theorem dL_holds_172 : decode cL_holds 172 = .ok (.iload 6, 2) := by decide +kernel
theorem dL_holds_174 : decode cL_holds 174 = .ok (.invokevirtual 85, 3) := by decide +kernel
theorem dL_holds_177 : decode cL_holds 177 = .ok (.iload 7, 2) := by decide +kernel
theorem dL_holds_179 : decode cL_holds 179 = .ok (.if_icmp .eq 5, 3) := by decide +kernel
theorem dL_holds_182 : decode cL_holds 182 = .ok (.iconst 0, 1) := by decide +kernel
theorem dL_holds_183 : decode cL_holds 183 = .ok (.ireturn, 1) := by decide +kernel
theorem dL_holds_184 : decode cL_holds 184 = .ok (.iinc 6 1, 3) := by decide +kernel
theorem dL_holds_187 : decode cL_holds 187 = .ok (.goto (-61), 3) := by decide +kernel
theorem dL_holds_190 : decode cL_holds 190 = .ok (.iconst 0, 1) := by decide +kernel
theorem dL_holds_191 : decode cL_holds 191 = .ok (.istore 6, 2) := by decide +kernel
theorem dL_holds_193 : decode cL_holds 193 = .ok (.iload 6, 2) := by decide +kernel
theorem dL_holds_195 : decode cL_holds 195 = .ok (.iconst 4, 1) := by decide +kernel
theorem dL_holds_196 : decode cL_holds 196 = .ok (.if_icmp .ge 31, 3) := by decide +kernel
theorem dL_holds_199 : decode cL_holds 199 = .ok (.aload_n 0, 1) := by decide +kernel
theorem dL_holds_200 : decode cL_holds 200 = .ok (.iload 6, 2) := by decide +kernel
theorem dL_holds_202 : decode cL_holds 202 = .ok (.invokevirtual 20, 3) := by decide +kernel
theorem dL_holds_205 : decode cL_holds 205 = .ok (.iconst (-1), 1) := by decide +kernel
theorem dL_holds_206 : decode cL_holds 206 = .ok (.if_icmp .lt 13, 3) := by decide +kernel
theorem dL_holds_209 : decode cL_holds 209 = .ok (.aload_n 0, 1) := by decide +kernel
theorem dL_holds_210 : decode cL_holds 210 = .ok (.iload 6, 2) := by decide +kernel
theorem dL_holds_212 : decode cL_holds 212 = .ok (.invokevirtual 20, 3) := by decide +kernel
theorem dL_holds_215 : decode cL_holds 215 = .ok (.iload_n 1, 1) := by decide +kernel
theorem dL_holds_216 : decode cL_holds 216 = .ok (.if_icmp .le 5, 3) := by decide +kernel
theorem dL_holds_219 : decode cL_holds 219 = .ok (.iconst 0, 1) := by decide +kernel
theorem dL_holds_220 : decode cL_holds 220 = .ok (.ireturn, 1) := by decide +kernel
theorem dL_holds_221 : decode cL_holds 221 = .ok (.iinc 6 1, 3) := by decide +kernel
theorem dL_holds_224 : decode cL_holds 224 = .ok (.goto (-31), 3) := by decide +kernel
theorem dL_holds_227 : decode cL_holds 227 = .ok (.iconst 0, 1) := by decide +kernel
theorem dL_holds_228 : decode cL_holds 228 = .ok (.istore 6, 2) := by decide +kernel
theorem dL_holds_230 : decode cL_holds 230 = .ok (.iconst 0, 1) := by decide +kernel
theorem dL_holds_231 : decode cL_holds 231 = .ok (.istore 7, 2) := by decide +kernel
theorem dL_holds_233 : decode cL_holds 233 = .ok (.iload 7, 2) := by decide +kernel
theorem dL_holds_235 : decode cL_holds 235 = .ok (.iload_n 1, 1) := by decide +kernel
theorem dL_holds_236 : decode cL_holds 236 = .ok (.if_icmp .ge 30, 3) := by decide +kernel
theorem dL_holds_239 : decode cL_holds 239 = .ok (.iload 6, 2) := by decide +kernel
theorem dL_holds_241 : decode cL_holds 241 = .ok (.aload_n 0, 1) := by decide +kernel
theorem dL_holds_242 : decode cL_holds 242 = .ok (.iload 7, 2) := by decide +kernel
theorem dL_holds_244 : decode cL_holds 244 = .ok (.invokevirtual 82, 3) := by decide +kernel
theorem dL_holds_247 : decode cL_holds 247 = .ok (.bipush 10, 2) := by decide +kernel
theorem dL_holds_249 : decode cL_holds 249 = .ok (.if_icmp .ne 7, 3) := by decide +kernel
theorem dL_holds_252 : decode cL_holds 252 = .ok (.iconst 1, 1) := by decide +kernel
theorem dL_holds_253 : decode cL_holds 253 = .ok (.goto 4, 3) := by decide +kernel
theorem dL_holds_256 : decode cL_holds 256 = .ok (.iconst 0, 1) := by decide +kernel
theorem dL_holds_257 : decode cL_holds 257 = .ok (.iadd, 1) := by decide +kernel
theorem dL_holds_258 : decode cL_holds 258 = .ok (.istore 6, 2) := by decide +kernel
theorem dL_holds_260 : decode cL_holds 260 = .ok (.iinc 7 1, 3) := by decide +kernel
theorem dL_holds_263 : decode cL_holds 263 = .ok (.goto (-30), 3) := by decide +kernel
theorem dL_holds_266 : decode cL_holds 266 = .ok (.aload_n 0, 1) := by decide +kernel
theorem dL_holds_267 : decode cL_holds 267 = .ok (.invokevirtual 88, 3) := by decide +kernel
theorem dL_holds_270 : decode cL_holds 270 = .ok (.iload 6, 2) := by decide +kernel
theorem dL_holds_272 : decode cL_holds 272 = .ok (.iconst 1, 1) := by decide +kernel
theorem dL_holds_273 : decode cL_holds 273 = .ok (.iadd, 1) := by decide +kernel
theorem dL_holds_274 : decode cL_holds 274 = .ok (.if_icmp .ne 17, 3) := by decide +kernel
theorem dL_holds_277 : decode cL_holds 277 = .ok (.aload_n 0, 1) := by decide +kernel
theorem dL_holds_278 : decode cL_holds 278 = .ok (.iload_n 1, 1) := by decide +kernel
theorem dL_holds_279 : decode cL_holds 279 = .ok (.invokevirtual 91, 3) := by decide +kernel
theorem dL_holds_282 : decode cL_holds 282 = .ok (.iload 6, 2) := by decide +kernel
theorem dL_holds_284 : decode cL_holds 284 = .ok (.if_icmp .ne 7, 3) := by decide +kernel
theorem dL_holds_287 : decode cL_holds 287 = .ok (.iconst 1, 1) := by decide +kernel
theorem dL_holds_288 : decode cL_holds 288 = .ok (.goto 4, 3) := by decide +kernel
theorem dL_holds_291 : decode cL_holds 291 = .ok (.iconst 0, 1) := by decide +kernel
theorem dL_holds_292 : decode cL_holds 292 = .ok (.ireturn, 1) := by decide +kernel
theorem dL_isPasted_0 : decode cL_isPasted 0 = .ok (.aload_n 0, 1) := by decide +kernel
theorem dL_isPasted_1 : decode cL_isPasted 1 = .ok (.invokevirtual 8, 3) := by decide +kernel
theorem dL_isPasted_4 : decode cL_isPasted 4 = .ok (.istore_n 3, 1) := by decide +kernel
theorem dL_isPasted_5 : decode cL_isPasted 5 = .ok (.aload_n 0, 1) := by decide +kernel
theorem dL_isPasted_6 : decode cL_isPasted 6 = .ok (.iload_n 2, 1) := by decide +kernel
theorem dL_isPasted_7 : decode cL_isPasted 7 = .ok (.invokevirtual 20, 3) := by decide +kernel
theorem dL_isPasted_10 : decode cL_isPasted 10 = .ok (.ifCond .ge 8, 3) := by decide +kernel
theorem dL_isPasted_13 : decode cL_isPasted 13 = .ok (.bipush 99, 2) := by decide +kernel
theorem dL_isPasted_15 : decode cL_isPasted 15 = .ok (.goto 38, 3) := by decide +kernel
theorem dL_isPasted_18 : decode cL_isPasted 18 = .ok (.aload_n 0, 1) := by decide +kernel
theorem dL_isPasted_19 : decode cL_isPasted 19 = .ok (.invokevirtual 24, 3) := by decide +kernel
theorem dL_isPasted_22 : decode cL_isPasted 22 = .ok (.aload_n 0, 1) := by decide +kernel
theorem dL_isPasted_23 : decode cL_isPasted 23 = .ok (.iload_n 2, 1) := by decide +kernel
theorem dL_isPasted_24 : decode cL_isPasted 24 = .ok (.invokevirtual 20, 3) := by decide +kernel
theorem dL_isPasted_27 : decode cL_isPasted 27 = .ok (.if_icmp .le 16, 3) := by decide +kernel
theorem dL_isPasted_30 : decode cL_isPasted 30 = .ok (.aload_n 0, 1) := by decide +kernel
theorem dL_isPasted_31 : decode cL_isPasted 31 = .ok (.invokevirtual 24, 3) := by decide +kernel
theorem dL_isPasted_34 : decode cL_isPasted 34 = .ok (.aload_n 0, 1) := by decide +kernel
theorem dL_isPasted_35 : decode cL_isPasted 35 = .ok (.iload_n 2, 1) := by decide +kernel
theorem dL_isPasted_36 : decode cL_isPasted 36 = .ok (.invokevirtual 20, 3) := by decide +kernel
theorem dL_isPasted_39 : decode cL_isPasted 39 = .ok (.isub, 1) := by decide +kernel
theorem dL_isPasted_40 : decode cL_isPasted 40 = .ok (.goto 13, 3) := by decide +kernel
theorem dL_isPasted_43 : decode cL_isPasted 43 = .ok (.aload_n 0, 1) := by decide +kernel
theorem dL_isPasted_44 : decode cL_isPasted 44 = .ok (.iload_n 2, 1) := by decide +kernel
theorem dL_isPasted_45 : decode cL_isPasted 45 = .ok (.invokevirtual 20, 3) := by decide +kernel
theorem dL_isPasted_48 : decode cL_isPasted 48 = .ok (.aload_n 0, 1) := by decide +kernel
theorem dL_isPasted_49 : decode cL_isPasted 49 = .ok (.invokevirtual 24, 3) := by decide +kernel
theorem dL_isPasted_52 : decode cL_isPasted 52 = .ok (.isub, 1) := by decide +kernel
theorem dL_isPasted_53 : decode cL_isPasted 53 = .ok (.istore 4, 2) := by decide +kernel
theorem dL_isPasted_55 : decode cL_isPasted 55 = .ok (.iload 4, 2) := by decide +kernel
theorem dL_isPasted_57 : decode cL_isPasted 57 = .ok (.bipush 60, 2) := by decide +kernel
theorem dL_isPasted_59 : decode cL_isPasted 59 = .ok (.if_icmp .gt 14, 3) := by decide +kernel
theorem dL_isPasted_62 : decode cL_isPasted 62 = .ok (.iload 4, 2) := by decide +kernel
theorem dL_isPasted_64 : decode cL_isPasted 64 = .ok (.ifCond .eq 9, 3) := by decide +kernel
theorem dL_isPasted_67 : decode cL_isPasted 67 = .ok (.iload_n 3, 1) := by decide +kernel
theorem dL_isPasted_68 : decode cL_isPasted 68 = .ok (.bipush 64, 2) := by decide +kernel
theorem dL_isPasted_70 : decode cL_isPasted 70 = .ok (.if_icmp .le 5, 3) := by decide +kernel
theorem dL_isPasted_73 : decode cL_isPasted 73 = .ok (.iconst 1, 1) := by decide +kernel
theorem dL_isPasted_74 : decode cL_isPasted 74 = .ok (.ireturn, 1) := by decide +kernel
theorem dL_isPasted_75 : decode cL_isPasted 75 = .ok (.iconst 0, 1) := by decide +kernel
theorem dL_isPasted_76 : decode cL_isPasted 76 = .ok (.istore 5, 2) := by decide +kernel
theorem dL_isPasted_78 : decode cL_isPasted 78 = .ok (.iload 5, 2) := by decide +kernel
theorem dL_isPasted_80 : decode cL_isPasted 80 = .ok (.iload_n 3, 1) := by decide +kernel
theorem dL_isPasted_81 : decode cL_isPasted 81 = .ok (.if_icmp .ge 19, 3) := by decide +kernel
theorem dL_isPasted_84 : decode cL_isPasted 84 = .ok (.aload_n 1, 1) := by decide +kernel
theorem dL_isPasted_85 : decode cL_isPasted 85 = .ok (.iload 5, 2) := by decide +kernel
theorem dL_isPasted_87 : decode cL_isPasted 87 = .ok (.aload_n 0, 1) := by decide +kernel
theorem dL_isPasted_88 : decode cL_isPasted 88 = .ok (.iload 5, 2) := by decide +kernel
theorem dL_isPasted_90 : decode cL_isPasted 90 = .ok (.invokevirtual 82, 3) := by decide +kernel
theorem dL_isPasted_93 : decode cL_isPasted 93 = .ok (.iastore, 1) := by decide +kernel
theorem dL_isPasted_94 : decode cL_isPasted 94 = .ok (.iinc 5 1, 3) := by decide +kernel
theorem dL_isPasted_97 : decode cL_isPasted 97 = .ok (.goto (-19), 3) := by decide +kernel
theorem dL_isPasted_100 : decode cL_isPasted 100 = .ok (.aload_n 0, 1) := by decide +kernel
theorem dL_isPasted_101 : decode cL_isPasted 101 = .ok (.invokevirtual 94, 3) := by decide +kernel
theorem dL_isPasted_104 : decode cL_isPasted 104 = .ok (.istore 5, 2) := by decide +kernel
theorem dL_isPasted_106 : decode cL_isPasted 106 = .ok (.aload_n 0, 1) := by decide +kernel
theorem dL_isPasted_107 : decode cL_isPasted 107 = .ok (.invokevirtual 97, 3) := by decide +kernel
theorem dL_isPasted_110 : decode cL_isPasted 110 = .ok (.aload_n 0, 1) := by decide +kernel
theorem dL_isPasted_111 : decode cL_isPasted 111 = .ok (.invokevirtual 100, 3) := by decide +kernel
theorem dL_isPasted_114 : decode cL_isPasted 114 = .ok (.iadd, 1) := by decide +kernel
theorem dL_isPasted_115 : decode cL_isPasted 115 = .ok (.istore 6, 2) := by decide +kernel
theorem dL_isPasted_117 : decode cL_isPasted 117 = .ok (.aload_n 0, 1) := by decide +kernel
theorem dL_isPasted_118 : decode cL_isPasted 118 = .ok (.iload_n 2, 1) := by decide +kernel
theorem dL_isPasted_119 : decode cL_isPasted 119 = .ok (.invokevirtual 64, 3) := by decide +kernel
theorem dL_isPasted_122 : decode cL_isPasted 122 = .ok (.istore 7, 2) := by decide +kernel
theorem dL_isPasted_124 : decode cL_isPasted 124 = .ok (.iload 7, 2) := by decide +kernel
theorem dL_isPasted_126 : decode cL_isPasted 126 = .ok (.iload 4, 2) := by decide +kernel
theorem dL_isPasted_128 : decode cL_isPasted 128 = .ok (.if_icmp .ne 49, 3) := by decide +kernel
theorem dL_isPasted_131 : decode cL_isPasted 131 = .ok (.aload_n 0, 1) := by decide +kernel
theorem dL_isPasted_132 : decode cL_isPasted 132 = .ok (.invokevirtual 8, 3) := by decide +kernel
theorem dL_isPasted_135 : decode cL_isPasted 135 = .ok (.iload_n 3, 1) := by decide +kernel
theorem dL_isPasted_136 : decode cL_isPasted 136 = .ok (.iload 4, 2) := by decide +kernel
theorem dL_isPasted_138 : decode cL_isPasted 138 = .ok (.isub, 1) := by decide +kernel
theorem dL_isPasted_139 : decode cL_isPasted 139 = .ok (.if_icmp .ne 38, 3) := by decide +kernel
theorem dL_isPasted_142 : decode cL_isPasted 142 = .ok (.aload_n 0, 1) := by decide +kernel
theorem dL_isPasted_143 : decode cL_isPasted 143 = .ok (.invokevirtual 97, 3) := by decide +kernel
theorem dL_isPasted_146 : decode cL_isPasted 146 = .ok (.aload_n 0, 1) := by decide +kernel
theorem dL_isPasted_147 : decode cL_isPasted 147 = .ok (.invokevirtual 100, 3) := by decide +kernel
theorem dL_isPasted_150 : decode cL_isPasted 150 = .ok (.iadd, 1) := by decide +kernel
theorem dL_isPasted_151 : decode cL_isPasted 151 = .ok (.iload 6, 2) := by decide +kernel
theorem dL_isPasted_153 : decode cL_isPasted 153 = .ok (.if_icmp .gt 12, 3) := by decide +kernel
theorem dL_isPasted_156 : decode cL_isPasted 156 = .ok (.aload_n 0, 1) := by decide +kernel
theorem dL_isPasted_157 : decode cL_isPasted 157 = .ok (.invokevirtual 94, 3) := by decide +kernel
theorem dL_isPasted_160 : decode cL_isPasted 160 = .ok (.iload 5, 2) := by decide +kernel
theorem dL_isPasted_162 : decode cL_isPasted 162 = .ok (.if_icmp .ne 15, 3) := by decide +kernel
theorem dL_isPasted_165 : decode cL_isPasted 165 = .ok (.aload_n 0, 1) := by decide +kernel
theorem dL_isPasted_166 : decode cL_isPasted 166 = .ok (.invokevirtual 70, 3) := by decide +kernel
theorem dL_isPasted_169 : decode cL_isPasted 169 = .ok (.iload_n 3, 1) := by decide +kernel
theorem dL_isPasted_170 : decode cL_isPasted 170 = .ok (.if_icmp .ne 7, 3) := by decide +kernel
theorem dL_isPasted_173 : decode cL_isPasted 173 = .ok (.iconst 1, 1) := by decide +kernel
theorem dL_isPasted_174 : decode cL_isPasted 174 = .ok (.goto 4, 3) := by decide +kernel
theorem dL_isPasted_177 : decode cL_isPasted 177 = .ok (.iconst 0, 1) := by decide +kernel
theorem dL_isPasted_178 : decode cL_isPasted 178 = .ok (.istore 8, 2) := by decide +kernel
theorem dL_isPasted_180 : decode cL_isPasted 180 = .ok (.iconst 0, 1) := by decide +kernel
theorem dL_isPasted_181 : decode cL_isPasted 181 = .ok (.istore 9, 2) := by decide +kernel
theorem dL_isPasted_183 : decode cL_isPasted 183 = .ok (.iload 9, 2) := by decide +kernel
theorem dL_isPasted_185 : decode cL_isPasted 185 = .ok (.iload_n 3, 1) := by decide +kernel
theorem dL_isPasted_186 : decode cL_isPasted 186 = .ok (.if_icmp .ge 34, 3) := by decide +kernel
theorem dL_isPasted_189 : decode cL_isPasted 189 = .ok (.iload 8, 2) := by decide +kernel
theorem dL_isPasted_191 : decode cL_isPasted 191 = .ok (.ifCond .eq 20, 3) := by decide +kernel
theorem dL_isPasted_194 : decode cL_isPasted 194 = .ok (.aload_n 0, 1) := by decide +kernel
theorem dL_isPasted_195 : decode cL_isPasted 195 = .ok (.iload 9, 2) := by decide +kernel
theorem dL_isPasted_197 : decode cL_isPasted 197 = .ok (.invokevirtual 82, 3) := by decide +kernel
theorem dL_isPasted_200 : decode cL_isPasted 200 = .ok (.aload_n 1, 1) := by decide +kernel
theorem dL_isPasted_201 : decode cL_isPasted 201 = .ok (.iload 9, 2) := by decide +kernel
theorem dL_isPasted_203 : decode cL_isPasted 203 = .ok (.iaload, 1) := by decide +kernel
theorem dL_isPasted_204 : decode cL_isPasted 204 = .ok (.if_icmp .ne 7, 3) := by decide +kernel
theorem dL_isPasted_207 : decode cL_isPasted 207 = .ok (.iconst 1, 1) := by decide +kernel
theorem dL_isPasted_208 : decode cL_isPasted 208 = .ok (.goto 4, 3) := by decide +kernel
theorem dL_isPasted_211 : decode cL_isPasted 211 = .ok (.iconst 0, 1) := by decide +kernel
theorem dL_isPasted_212 : decode cL_isPasted 212 = .ok (.istore 8, 2) := by decide +kernel
theorem dL_isPasted_214 : decode cL_isPasted 214 = .ok (.iinc 9 1, 3) := by decide +kernel
theorem dL_isPasted_217 : decode cL_isPasted 217 = .ok (.goto (-34), 3) := by decide +kernel
theorem dL_isPasted_220 : decode cL_isPasted 220 = .ok (.aload_n 0, 1) := by decide +kernel
theorem dL_isPasted_221 : decode cL_isPasted 221 = .ok (.invokevirtual 103, 3) := by decide +kernel
theorem dL_isPasted_224 : decode cL_isPasted 224 = .ok (.pop, 1) := by decide +kernel
theorem dL_isPasted_225 : decode cL_isPasted 225 = .ok (.aload_n 0, 1) := by decide +kernel
theorem dL_isPasted_226 : decode cL_isPasted 226 = .ok (.invokevirtual 103, 3) := by decide +kernel
theorem dL_isPasted_229 : decode cL_isPasted 229 = .ok (.pop, 1) := by decide +kernel
theorem dL_isPasted_230 : decode cL_isPasted 230 = .ok (.iload 8, 2) := by decide +kernel
theorem dL_isPasted_232 : decode cL_isPasted 232 = .ok (.ireturn, 1) := by decide +kernel
theorem dL_law_0 : decode cL_law 0 = .ok (.new 9, 3) := by decide +kernel
theorem dL_law_3 : decode cL_law 3 = .ok (.dup, 1) := by decide +kernel
theorem dL_law_4 : decode cL_law 4 = .ok (.invokespecial 106, 3) := by decide +kernel
theorem dL_law_7 : decode cL_law 7 = .ok (.astore_n 1, 1) := by decide +kernel
theorem dL_law_8 : decode cL_law 8 = .ok (.bipush 64, 2) := by decide +kernel
theorem dL_law_10 : decode cL_law 10 = .ok (.newarray .int, 2) := by decide +kernel
theorem dL_law_12 : decode cL_law 12 = .ok (.astore_n 2, 1) := by decide +kernel
theorem dL_law_13 : decode cL_law 13 = .ok (.iconst 0, 1) := by decide +kernel
theorem dL_law_14 : decode cL_law 14 = .ok (.istore_n 3, 1) := by decide +kernel
theorem dL_law_15 : decode cL_law 15 = .ok (.iload_n 3, 1) := by decide +kernel
theorem dL_law_16 : decode cL_law 16 = .ok (.bipush 36, 2) := by decide +kernel
theorem dL_law_18 : decode cL_law 18 = .ok (.if_icmp .ge 226, 3) := by decide +kernel
theorem dL_law_21 : decode cL_law 21 = .ok (.iload_n 3, 1) := by decide +kernel
theorem dL_law_22 : decode cL_law 22 = .ok (.iconst 2, 1) := by decide +kernel
theorem dL_law_23 : decode cL_law 23 = .ok (.if_icmp .ge 7, 3) := by decide +kernel
theorem dL_law_26 : decode cL_law 26 = .ok (.iconst 2, 1) := by decide +kernel
theorem dL_law_27 : decode cL_law 27 = .ok (.goto 10, 3) := by decide +kernel
theorem dL_law_30 : decode cL_law 30 = .ok (.aload_n 0, 1) := by decide +kernel
theorem dL_law_31 : decode cL_law 31 = .ok (.iconst 2, 1) := by decide +kernel
theorem dL_law_32 : decode cL_law 32 = .ok (.iload_n 3, 1) := by decide +kernel
theorem dL_law_33 : decode cL_law 33 = .ok (.imul, 1) := by decide +kernel
theorem dL_law_34 : decode cL_law 34 = .ok (.invokestatic 107, 3) := by decide +kernel
theorem dL_law_37 : decode cL_law 37 = .ok (.istore 4, 2) := by decide +kernel
theorem dL_law_39 : decode cL_law 39 = .ok (.aload_n 0, 1) := by decide +kernel
theorem dL_law_40 : decode cL_law 40 = .ok (.iconst 2, 1) := by decide +kernel
theorem dL_law_41 : decode cL_law 41 = .ok (.iload_n 3, 1) := by decide +kernel
theorem dL_law_42 : decode cL_law 42 = .ok (.imul, 1) := by decide +kernel
theorem dL_law_43 : decode cL_law 43 = .ok (.iconst 1, 1) := by decide +kernel
theorem dL_law_44 : decode cL_law 44 = .ok (.iadd, 1) := by decide +kernel
theorem dL_law_45 : decode cL_law 45 = .ok (.invokestatic 107, 3) := by decide +kernel
theorem dL_law_48 : decode cL_law 48 = .ok (.istore 5, 2) := by decide +kernel
theorem dL_law_50 : decode cL_law 50 = .ok (.aload_n 1, 1) := by decide +kernel
theorem dL_law_51 : decode cL_law 51 = .ok (.invokevirtual 110, 3) := by decide +kernel
theorem dL_law_54 : decode cL_law 54 = .ok (.bipush 6, 2) := by decide +kernel
theorem dL_law_56 : decode cL_law 56 = .ok (.if_icmp .ne 13, 3) := by decide +kernel
theorem dL_law_59 : decode cL_law 59 = .ok (.aload_n 1, 1) := by decide +kernel
theorem dL_law_60 : decode cL_law 60 = .ok (.invokevirtual 103, 3) := by decide +kernel
theorem dL_law_63 : decode cL_law 63 = .ok (.pop, 1) := by decide +kernel
theorem dL_law_64 : decode cL_law 64 = .ok (.aload_n 1, 1) := by decide +kernel
theorem dL_law_65 : decode cL_law 65 = .ok (.invokevirtual 103, 3) := by decide +kernel
theorem dL_law_68 : decode cL_law 68 = .ok (.pop, 1) := by decide +kernel
theorem dL_law_69 : decode cL_law 69 = .ok (.aload_n 1, 1) := by decide +kernel
theorem dL_law_70 : decode cL_law 70 = .ok (.invokevirtual 110, 3) := by decide +kernel
theorem dL_law_73 : decode cL_law 73 = .ok (.istore 6, 2) := by decide +kernel
theorem dL_law_75 : decode cL_law 75 = .ok (.aload_n 1, 1) := by decide +kernel
theorem dL_law_76 : decode cL_law 76 = .ok (.invokevirtual 113, 3) := by decide +kernel
theorem dL_law_79 : decode cL_law 79 = .ok (.lstore 7, 2) := by decide +kernel
theorem dL_law_81 : decode cL_law 81 = .ok (.aload_n 1, 1) := by decide +kernel
theorem dL_law_82 : decode cL_law 82 = .ok (.iload 4, 2) := by decide +kernel
theorem dL_law_84 : decode cL_law 84 = .ok (.iload 5, 2) := by decide +kernel
theorem dL_law_86 : decode cL_law 86 = .ok (.invokestatic 117, 3) := by decide +kernel
theorem dL_law_89 : decode cL_law 89 = .ok (.istore 9, 2) := by decide +kernel
theorem dL_law_91 : decode cL_law 91 = .ok (.aload_n 1, 1) := by decide +kernel
theorem dL_law_92 : decode cL_law 92 = .ok (.invokevirtual 113, 3) := by decide +kernel
theorem dL_law_95 : decode cL_law 95 = .ok (.lstore 10, 2) := by decide +kernel
theorem dL_law_97 : decode cL_law 97 = .ok (.iload 9, 2) := by decide +kernel
theorem dL_law_99 : decode cL_law 99 = .ok (.bipush (-9), 2) := by decide +kernel
theorem dL_law_101 : decode cL_law 101 = .ok (.if_icmp .ne 23, 3) := by decide +kernel
theorem dL_law_104 : decode cL_law 104 = .ok (.lload 10, 2) := by decide +kernel
theorem dL_law_106 : decode cL_law 106 = .ok (.lload 7, 2) := by decide +kernel
theorem dL_law_108 : decode cL_law 108 = .ok (.lcmp, 1) := by decide +kernel
theorem dL_law_109 : decode cL_law 109 = .ok (.ifCond .ne 26, 3) := by decide +kernel
theorem dL_law_112 : decode cL_law 112 = .ok (.aload_n 1, 1) := by decide +kernel
theorem dL_law_113 : decode cL_law 113 = .ok (.invokevirtual 110, 3) := by decide +kernel
theorem dL_law_116 : decode cL_law 116 = .ok (.iload 6, 2) := by decide +kernel
theorem dL_law_118 : decode cL_law 118 = .ok (.if_icmp .eq 19, 3) := by decide +kernel
theorem dL_law_121 : decode cL_law 121 = .ok (.goto 14, 3) := by decide +kernel
theorem dL_law_124 : decode cL_law 124 = .ok (.aload_n 1, 1) := by decide +kernel
theorem dL_law_125 : decode cL_law 125 = .ok (.invokevirtual 110, 3) := by decide +kernel
theorem dL_law_128 : decode cL_law 128 = .ok (.iload 6, 2) := by decide +kernel
theorem dL_law_130 : decode cL_law 130 = .ok (.iconst 1, 1) := by decide +kernel
theorem dL_law_131 : decode cL_law 131 = .ok (.iadd, 1) := by decide +kernel
theorem dL_law_132 : decode cL_law 132 = .ok (.if_icmp .eq 5, 3) := by decide +kernel
theorem dL_law_135 : decode cL_law 135 = .ok (.iconst 0, 1) := by decide +kernel
theorem dL_law_136 : decode cL_law 136 = .ok (.ireturn, 1) := by decide +kernel
theorem dL_law_137 : decode cL_law 137 = .ok (.iload 9, 2) := by decide +kernel
theorem dL_law_139 : decode cL_law 139 = .ok (.bipush (-9), 2) := by decide +kernel
theorem dL_law_141 : decode cL_law 141 = .ok (.if_icmp .eq 57, 3) := by decide +kernel
theorem dL_law_144 : decode cL_law 144 = .ok (.iload 4, 2) := by decide +kernel
theorem dL_law_146 : decode cL_law 146 = .ok (.bipush 10, 2) := by decide +kernel
theorem dL_law_148 : decode cL_law 148 = .ok (.ishr, 1) := by decide +kernel
theorem dL_law_149 : decode cL_law 149 = .ok (.iconst 1, 1) := by decide +kernel
theorem dL_law_150 : decode cL_law 150 = .ok (.iand, 1) := by decide +kernel
theorem dL_law_151 : decode cL_law 151 = .ok (.ifCond .ne 47, 3) := by decide +kernel
theorem dL_law_154 : decode cL_law 154 = .ok (.aload_n 1, 1) := by decide +kernel
theorem dL_law_155 : decode cL_law 155 = .ok (.invokevirtual 103, 3) := by decide +kernel
theorem dL_law_158 : decode cL_law 158 = .ok (.iload 6, 2) := by decide +kernel
theorem dL_law_160 : decode cL_law 160 = .ok (.if_icmp .ne 36, 3) := by decide +kernel
theorem dL_law_163 : decode cL_law 163 = .ok (.aload_n 1, 1) := by decide +kernel
theorem dL_law_164 : decode cL_law 164 = .ok (.invokevirtual 113, 3) := by decide +kernel
theorem dL_law_167 : decode cL_law 167 = .ok (.lload 7, 2) := by decide +kernel
theorem dL_law_169 : decode cL_law 169 = .ok (.lcmp, 1) := by decide +kernel
theorem dL_law_170 : decode cL_law 170 = .ok (.ifCond .ne 26, 3) := by decide +kernel
theorem dL_law_173 : decode cL_law 173 = .ok (.aload_n 1, 1) := by decide +kernel
theorem dL_law_174 : decode cL_law 174 = .ok (.iload 4, 2) := by decide +kernel
theorem dL_law_176 : decode cL_law 176 = .ok (.iload 5, 2) := by decide +kernel
theorem dL_law_178 : decode cL_law 178 = .ok (.invokestatic 117, 3) := by decide +kernel
theorem dL_law_181 : decode cL_law 181 = .ok (.iload 9, 2) := by decide +kernel
theorem dL_law_183 : decode cL_law 183 = .ok (.if_icmp .ne 13, 3) := by decide +kernel
theorem dL_law_186 : decode cL_law 186 = .ok (.aload_n 1, 1) := by decide +kernel
theorem dL_law_187 : decode cL_law 187 = .ok (.invokevirtual 113, 3) := by decide +kernel
theorem dL_law_190 : decode cL_law 190 = .ok (.lload 10, 2) := by decide +kernel
theorem dL_law_192 : decode cL_law 192 = .ok (.lcmp, 1) := by decide +kernel
theorem dL_law_193 : decode cL_law 193 = .ok (.ifCond .eq 5, 3) := by decide +kernel
theorem dL_law_196 : decode cL_law 196 = .ok (.iconst 0, 1) := by decide +kernel
theorem dL_law_197 : decode cL_law 197 = .ok (.ireturn, 1) := by decide +kernel
theorem dL_law_198 : decode cL_law 198 = .ok (.aload_n 1, 1) := by decide +kernel
theorem dL_law_199 : decode cL_law 199 = .ok (.invokestatic 121, 3) := by decide +kernel
theorem dL_law_202 : decode cL_law 202 = .ok (.ifCond .eq 34, 3) := by decide +kernel
theorem dL_law_205 : decode cL_law 205 = .ok (.iload_n 3, 1) := by decide +kernel
theorem dL_law_206 : decode cL_law 206 = .ok (.iconst 3, 1) := by decide +kernel
theorem dL_law_207 : decode cL_law 207 = .ok (.irem, 1) := by decide +kernel
theorem dL_law_208 : decode cL_law 208 = .ok (.iconst 2, 1) := by decide +kernel
theorem dL_law_209 : decode cL_law 209 = .ok (.if_icmp .ne 29, 3) := by decide +kernel
theorem dL_law_212 : decode cL_law 212 = .ok (.aload_n 1, 1) := by decide +kernel
theorem dL_law_213 : decode cL_law 213 = .ok (.invokevirtual 110, 3) := by decide +kernel
theorem dL_law_216 : decode cL_law 216 = .ok (.iconst 5, 1) := by decide +kernel
theorem dL_law_217 : decode cL_law 217 = .ok (.if_icmp .ge 21, 3) := by decide +kernel
theorem dL_law_220 : decode cL_law 220 = .ok (.aload_n 1, 1) := by decide +kernel
theorem dL_law_221 : decode cL_law 221 = .ok (.aload_n 2, 1) := by decide +kernel
theorem dL_law_222 : decode cL_law 222 = .ok (.iload 5, 2) := by decide +kernel
theorem dL_law_224 : decode cL_law 224 = .ok (.iconst 5, 1) := by decide +kernel
theorem dL_law_225 : decode cL_law 225 = .ok (.ishr, 1) := by decide +kernel
theorem dL_law_226 : decode cL_law 226 = .ok (.iconst 4, 1) := by decide +kernel
theorem dL_law_227 : decode cL_law 227 = .ok (.invokestatic 14, 3) := by decide +kernel
theorem dL_law_230 : decode cL_law 230 = .ok (.invokestatic 125, 3) := by decide +kernel
theorem dL_law_233 : decode cL_law 233 = .ok (.ifCond .ne 5, 3) := by decide +kernel
theorem dL_law_236 : decode cL_law 236 = .ok (.iconst 0, 1) := by decide +kernel
theorem dL_law_237 : decode cL_law 237 = .ok (.ireturn, 1) := by decide +kernel
theorem dL_law_238 : decode cL_law 238 = .ok (.iinc 3 1, 3) := by decide +kernel
theorem dL_law_241 : decode cL_law 241 = .ok (.goto (-226), 3) := by decide +kernel
theorem dL_law_244 : decode cL_law 244 = .ok (.iconst 1, 1) := by decide +kernel
theorem dL_law_245 : decode cL_law 245 = .ok (.ireturn, 1) := by decide +kernel
