theorem dX7_growths_1 : decode cX7_growths 1 = .ok (.getfield 10, 3) := by decide +kernel
theorem dX7_growths_4 : decode cX7_growths 4 = .ok (.getfield 175, 3) := by decide +kernel
theorem dX7_growths_7 : decode cX7_growths 7 = .ok (.getfield 193, 3) := by decide +kernel
theorem dX7_growths_10 : decode cX7_growths 10 = .ok (.ireturn, 1) := by decide +kernel
theorem dX7_shrinks_0 : decode cX7_shrinks 0 = .ok (.aload_n 0, 1) := by decide +kernel
theorem dX7_shrinks_1 : decode cX7_shrinks 1 = .ok (.getfield 10, 3) := by decide +kernel
theorem dX7_shrinks_4 : decode cX7_shrinks 4 = .ok (.getfield 175, 3) := by decide +kernel
theorem dX7_shrinks_7 : decode cX7_shrinks 7 = .ok (.getfield 196, 3) := by decide +kernel
theorem dX7_shrinks_10 : decode cX7_shrinks 10 = .ok (.ireturn, 1) := by decide +kernel
theorem dX7_costOf_0 : decode cX7_costOf 0 = .ok (.aload_n 0, 1) := by decide +kernel
theorem dX7_costOf_1 : decode cX7_costOf 1 = .ok (.iload_n 1, 1) := by decide +kernel
theorem dX7_costOf_2 : decode cX7_costOf 2 = .ok (.invokevirtual 79, 3) := by decide +kernel
theorem dX7_costOf_5 : decode cX7_costOf 5 = .ok (.invokestatic 82, 3) := by decide +kernel
theorem dX7_costOf_8 : decode cX7_costOf 8 = .ok (.iload_n 2, 1) := by decide +kernel
theorem dX7_costOf_9 : decode cX7_costOf 9 = .ok (.invokestatic 70, 3) := by decide +kernel
theorem dX7_costOf_12 : decode cX7_costOf 12 = .ok (.invokestatic 41, 3) := by decide +kernel
theorem dX7_costOf_15 : decode cX7_costOf 15 = .ok (.aload_n 0, 1) := by decide +kernel
theorem dX7_costOf_16 : decode cX7_costOf 16 = .ok (.getfield 10, 3) := by decide +kernel
theorem dX7_costOf_19 : decode cX7_costOf 19 = .ok (.iload_n 2, 1) := by decide +kernel
theorem dX7_costOf_20 : decode cX7_costOf 20 = .ok (.invokevirtual 45, 3) := by decide +kernel
theorem dX7_costOf_23 : decode cX7_costOf 23 = .ok (.ifCond .eq 5, 3) := by decide +kernel
theorem dX7_costOf_26 : decode cX7_costOf 26 = .ok (.iconst (-1), 1) := by decide +kernel
theorem dX7_costOf_27 : decode cX7_costOf 27 = .ok (.ireturn, 1) := by decide +kernel
theorem dX7_costOf_28 : decode cX7_costOf 28 = .ok (.aload_n 0, 1) := by decide +kernel
theorem dX7_costOf_29 : decode cX7_costOf 29 = .ok (.getfield 33, 3) := by decide +kernel
theorem dX7_costOf_32 : decode cX7_costOf 32 = .ok (.aload_n 0, 1) := by decide +kernel
theorem dX7_costOf_33 : decode cX7_costOf 33 = .ok (.getfield 10, 3) := by decide +kernel
theorem dX7_costOf_36 : decode cX7_costOf 36 = .ok (.getfield 175, 3) := by decide +kernel
theorem dX7_costOf_39 : decode cX7_costOf 39 = .ok (.invokevirtual 199, 3) := by decide +kernel
theorem dX7_costOf_42 : decode cX7_costOf 42 = .ok (.aload_n 0, 1) := by decide +kernel
theorem dX7_costOf_43 : decode cX7_costOf 43 = .ok (.getfield 33, 3) := by decide +kernel
theorem dX7_costOf_46 : decode cX7_costOf 46 = .ok (.iload_n 1, 1) := by decide +kernel
theorem dX7_costOf_47 : decode cX7_costOf 47 = .ok (.iload_n 2, 1) := by decide +kernel
theorem dX7_costOf_48 : decode cX7_costOf 48 = .ok (.aload_n 0, 1) := by decide +kernel
theorem dX7_costOf_49 : decode cX7_costOf 49 = .ok (.getfield 10, 3) := by decide +kernel
theorem dX7_costOf_52 : decode cX7_costOf 52 = .ok (.getfield 60, 3) := by decide +kernel
theorem dX7_costOf_55 : decode cX7_costOf 55 = .ok (.invokevirtual 64, 3) := by decide +kernel
theorem dX7_costOf_58 : decode cX7_costOf 58 = .ok (.invokevirtual 203, 3) := by decide +kernel
theorem dX7_costOf_61 : decode cX7_costOf 61 = .ok (.aload_n 0, 1) := by decide +kernel
theorem dX7_costOf_62 : decode cX7_costOf 62 = .ok (.getfield 33, 3) := by decide +kernel
theorem dX7_costOf_65 : decode cX7_costOf 65 = .ok (.invokevirtual 206, 3) := by decide +kernel
theorem dX7_costOf_68 : decode cX7_costOf 68 = .ok (.aload_n 0, 1) := by decide +kernel
theorem dX7_costOf_69 : decode cX7_costOf 69 = .ok (.getfield 10, 3) := by decide +kernel
theorem dX7_costOf_72 : decode cX7_costOf 72 = .ok (.getfield 175, 3) := by decide +kernel
theorem dX7_costOf_75 : decode cX7_costOf 75 = .ok (.invokevirtual 206, 3) := by decide +kernel
theorem dX7_costOf_78 : decode cX7_costOf 78 = .ok (.isub, 1) := by decide +kernel
theorem dX7_costOf_79 : decode cX7_costOf 79 = .ok (.ireturn, 1) := by decide +kernel
theorem dX7_costOfTwo_0 : decode cX7_costOfTwo 0 = .ok (.aload_n 0, 1) := by decide +kernel
theorem dX7_costOfTwo_1 : decode cX7_costOfTwo 1 = .ok (.iload_n 1, 1) := by decide +kernel
theorem dX7_costOfTwo_2 : decode cX7_costOfTwo 2 = .ok (.invokevirtual 79, 3) := by decide +kernel
theorem dX7_costOfTwo_5 : decode cX7_costOfTwo 5 = .ok (.ifCond .eq 15, 3) := by decide +kernel
theorem dX7_costOfTwo_8 : decode cX7_costOfTwo 8 = .ok (.aload_n 0, 1) := by decide +kernel
theorem dX7_costOfTwo_9 : decode cX7_costOfTwo 9 = .ok (.iload_n 2, 1) := by decide +kernel
theorem dX7_costOfTwo_10 : decode cX7_costOfTwo 10 = .ok (.invokevirtual 79, 3) := by decide +kernel
theorem dX7_costOfTwo_13 : decode cX7_costOfTwo 13 = .ok (.ifCond .eq 7, 3) := by decide +kernel
theorem dX7_costOfTwo_16 : decode cX7_costOfTwo 16 = .ok (.iconst 1, 1) := by decide +kernel
theorem dX7_costOfTwo_17 : decode cX7_costOfTwo 17 = .ok (.goto 4, 3) := by decide +kernel
theorem dX7_costOfTwo_20 : decode cX7_costOfTwo 20 = .ok (.iconst 0, 1) := by decide +kernel
theorem dX7_costOfTwo_21 : decode cX7_costOfTwo 21 = .ok (.invokestatic 82, 3) := by decide +kernel
theorem dX7_costOfTwo_24 : decode cX7_costOfTwo 24 = .ok (.aload_n 0, 1) := by decide +kernel
theorem dX7_costOfTwo_25 : decode cX7_costOfTwo 25 = .ok (.getfield 10, 3) := by decide +kernel
theorem dX7_costOfTwo_28 : decode cX7_costOfTwo 28 = .ok (.iconst 2, 1) := by decide +kernel
theorem dX7_costOfTwo_29 : decode cX7_costOfTwo 29 = .ok (.invokevirtual 45, 3) := by decide +kernel
theorem dX7_costOfTwo_32 : decode cX7_costOfTwo 32 = .ok (.ifCond .eq 5, 3) := by decide +kernel
theorem dX7_costOfTwo_35 : decode cX7_costOfTwo 35 = .ok (.iconst (-1), 1) := by decide +kernel
theorem dX7_costOfTwo_36 : decode cX7_costOfTwo 36 = .ok (.ireturn, 1) := by decide +kernel
theorem dX7_costOfTwo_37 : decode cX7_costOfTwo 37 = .ok (.iload_n 2, 1) := by decide +kernel
theorem dX7_costOfTwo_38 : decode cX7_costOfTwo 38 = .ok (.iload_n 1, 1) := by decide +kernel
theorem dX7_costOfTwo_39 : decode cX7_costOfTwo 39 = .ok (.if_icmp .lt 9, 3) := by decide +kernel
theorem dX7_costOfTwo_42 : decode cX7_costOfTwo 42 = .ok (.iload_n 2, 1) := by decide +kernel
theorem dX7_costOfTwo_43 : decode cX7_costOfTwo 43 = .ok (.iconst 1, 1) := by decide +kernel
theorem dX7_costOfTwo_44 : decode cX7_costOfTwo 44 = .ok (.iadd, 1) := by decide +kernel
theorem dX7_costOfTwo_45 : decode cX7_costOfTwo 45 = .ok (.goto 4, 3) := by decide +kernel
theorem dX7_costOfTwo_48 : decode cX7_costOfTwo 48 = .ok (.iload_n 2, 1) := by decide +kernel
theorem dX7_costOfTwo_49 : decode cX7_costOfTwo 49 = .ok (.istore_n 3, 1) := by decide +kernel
theorem dX7_costOfTwo_50 : decode cX7_costOfTwo 50 = .ok (.aload_n 0, 1) := by decide +kernel
theorem dX7_costOfTwo_51 : decode cX7_costOfTwo 51 = .ok (.getfield 33, 3) := by decide +kernel
theorem dX7_costOfTwo_54 : decode cX7_costOfTwo 54 = .ok (.aload_n 0, 1) := by decide +kernel
theorem dX7_costOfTwo_55 : decode cX7_costOfTwo 55 = .ok (.getfield 10, 3) := by decide +kernel
theorem dX7_costOfTwo_58 : decode cX7_costOfTwo 58 = .ok (.getfield 175, 3) := by decide +kernel
theorem dX7_costOfTwo_61 : decode cX7_costOfTwo 61 = .ok (.invokevirtual 199, 3) := by decide +kernel
theorem dX7_costOfTwo_64 : decode cX7_costOfTwo 64 = .ok (.aload_n 0, 1) := by decide +kernel
theorem dX7_costOfTwo_65 : decode cX7_costOfTwo 65 = .ok (.getfield 33, 3) := by decide +kernel
theorem dX7_costOfTwo_68 : decode cX7_costOfTwo 68 = .ok (.iload_n 1, 1) := by decide +kernel
theorem dX7_costOfTwo_69 : decode cX7_costOfTwo 69 = .ok (.iconst 1, 1) := by decide +kernel
theorem dX7_costOfTwo_70 : decode cX7_costOfTwo 70 = .ok (.aload_n 0, 1) := by decide +kernel
theorem dX7_costOfTwo_71 : decode cX7_costOfTwo 71 = .ok (.getfield 10, 3) := by decide +kernel
theorem dX7_costOfTwo_74 : decode cX7_costOfTwo 74 = .ok (.getfield 60, 3) := by decide +kernel
theorem dX7_costOfTwo_77 : decode cX7_costOfTwo 77 = .ok (.invokevirtual 64, 3) := by decide +kernel
theorem dX7_costOfTwo_80 : decode cX7_costOfTwo 80 = .ok (.invokevirtual 203, 3) := by decide +kernel
theorem dX7_costOfTwo_83 : decode cX7_costOfTwo 83 = .ok (.aload_n 0, 1) := by decide +kernel
theorem dX7_costOfTwo_84 : decode cX7_costOfTwo 84 = .ok (.getfield 33, 3) := by decide +kernel
theorem dX7_costOfTwo_87 : decode cX7_costOfTwo 87 = .ok (.iload_n 3, 1) := by decide +kernel
theorem dX7_costOfTwo_88 : decode cX7_costOfTwo 88 = .ok (.iconst 1, 1) := by decide +kernel
theorem dX7_costOfTwo_89 : decode cX7_costOfTwo 89 = .ok (.aload_n 0, 1) := by decide +kernel
theorem dX7_costOfTwo_90 : decode cX7_costOfTwo 90 = .ok (.getfield 10, 3) := by decide +kernel
theorem dX7_costOfTwo_93 : decode cX7_costOfTwo 93 = .ok (.getfield 60, 3) := by decide +kernel
theorem dX7_costOfTwo_96 : decode cX7_costOfTwo 96 = .ok (.invokevirtual 64, 3) := by decide +kernel
theorem dX7_costOfTwo_99 : decode cX7_costOfTwo 99 = .ok (.iconst 1, 1) := by decide +kernel
theorem dX7_costOfTwo_100 : decode cX7_costOfTwo 100 = .ok (.iadd, 1) := by decide +kernel
theorem dX7_costOfTwo_101 : decode cX7_costOfTwo 101 = .ok (.invokevirtual 203, 3) := by decide +kernel
theorem dX7_costOfTwo_104 : decode cX7_costOfTwo 104 = .ok (.aload_n 0, 1) := by decide +kernel
theorem dX7_costOfTwo_105 : decode cX7_costOfTwo 105 = .ok (.getfield 33, 3) := by decide +kernel
theorem dX7_costOfTwo_108 : decode cX7_costOfTwo 108 = .ok (.invokevirtual 206, 3) := by decide +kernel
theorem dX7_costOfTwo_111 : decode cX7_costOfTwo 111 = .ok (.aload_n 0, 1) := by decide +kernel
theorem dX7_costOfTwo_112 : decode cX7_costOfTwo 112 = .ok (.getfield 10, 3) := by decide +kernel
theorem dX7_costOfTwo_115 : decode cX7_costOfTwo 115 = .ok (.getfield 175, 3) := by decide +kernel
theorem dX7_costOfTwo_118 : decode cX7_costOfTwo 118 = .ok (.invokevirtual 206, 3) := by decide +kernel
theorem dX7_costOfTwo_121 : decode cX7_costOfTwo 121 = .ok (.isub, 1) := by decide +kernel
theorem dX7_costOfTwo_122 : decode cX7_costOfTwo 122 = .ok (.ireturn, 1) := by decide +kernel
theorem dX7_room_0 : decode cX7_room 0 = .ok (.aload_n 0, 1) := by decide +kernel
theorem dX7_room_1 : decode cX7_room 1 = .ok (.getfield 10, 3) := by decide +kernel
theorem dX7_room_4 : decode cX7_room 4 = .ok (.getfield 175, 3) := by decide +kernel
theorem dX7_room_7 : decode cX7_room 7 = .ok (.getfield 178, 3) := by decide +kernel
theorem dX7_room_10 : decode cX7_room 10 = .ok (.aload_n 0, 1) := by decide +kernel
theorem dX7_room_11 : decode cX7_room 11 = .ok (.getfield 10, 3) := by decide +kernel
theorem dX7_room_14 : decode cX7_room 14 = .ok (.getfield 60, 3) := by decide +kernel
theorem dX7_room_17 : decode cX7_room 17 = .ok (.invokevirtual 64, 3) := by decide +kernel
theorem dX7_room_20 : decode cX7_room 20 = .ok (.isub, 1) := by decide +kernel
theorem dX7_room_21 : decode cX7_room 21 = .ok (.ireturn, 1) := by decide +kernel
theorem dX7_append_0 : decode cX7_append 0 = .ok (.iload_n 1, 1) := by decide +kernel
theorem dX7_append_1 : decode cX7_append 1 = .ok (.bipush 32, 2) := by decide +kernel
theorem dX7_append_3 : decode cX7_append 3 = .ok (.if_icmp .le 13, 3) := by decide +kernel
theorem dX7_append_6 : decode cX7_append 6 = .ok (.iload_n 1, 1) := by decide +kernel
theorem dX7_append_7 : decode cX7_append 7 = .ok (.bipush 126, 2) := by decide +kernel
theorem dX7_append_9 : decode cX7_append 9 = .ok (.if_icmp .gt 7, 3) := by decide +kernel
theorem dX7_append_12 : decode cX7_append 12 = .ok (.iconst 1, 1) := by decide +kernel
theorem dX7_append_13 : decode cX7_append 13 = .ok (.goto 4, 3) := by decide +kernel
theorem dX7_append_16 : decode cX7_append 16 = .ok (.iconst 0, 1) := by decide +kernel
theorem dX7_append_17 : decode cX7_append 17 = .ok (.invokestatic 41, 3) := by decide +kernel
theorem dX7_append_20 : decode cX7_append 20 = .ok (.aload_n 0, 1) := by decide +kernel
theorem dX7_append_21 : decode cX7_append 21 = .ok (.getfield 26, 3) := by decide +kernel
theorem dX7_append_24 : decode cX7_append 24 = .ok (.getfield 209, 3) := by decide +kernel
theorem dX7_append_27 : decode cX7_append 27 = .ok (.invokevirtual 64, 3) := by decide +kernel
theorem dX7_append_30 : decode cX7_append 30 = .ok (.bipush 60, 2) := by decide +kernel
theorem dX7_append_32 : decode cX7_append 32 = .ok (.if_icmp .ge 7, 3) := by decide +kernel
theorem dX7_append_35 : decode cX7_append 35 = .ok (.iconst 1, 1) := by decide +kernel
theorem dX7_append_36 : decode cX7_append 36 = .ok (.goto 4, 3) := by decide +kernel
theorem dX7_append_39 : decode cX7_append 39 = .ok (.iconst 0, 1) := by decide +kernel
theorem dX7_append_40 : decode cX7_append 40 = .ok (.invokestatic 49, 3) := by decide +kernel
theorem dX7_append_43 : decode cX7_append 43 = .ok (.aload_n 0, 1) := by decide +kernel
theorem dX7_append_44 : decode cX7_append 44 = .ok (.getfield 26, 3) := by decide +kernel
theorem dX7_append_47 : decode cX7_append 47 = .ok (.getfield 209, 3) := by decide +kernel
theorem dX7_append_50 : decode cX7_append 50 = .ok (.iload_n 1, 1) := by decide +kernel
theorem dX7_append_51 : decode cX7_append 51 = .ok (.invokevirtual 212, 3) := by decide +kernel
theorem dX7_append_54 : decode cX7_append 54 = .ok (.aload_n 0, 1) := by decide +kernel
theorem dX7_append_55 : decode cX7_append 55 = .ok (.getfield 26, 3) := by decide +kernel
theorem dX7_append_58 : decode cX7_append 58 = .ok (.getfield 209, 3) := by decide +kernel
theorem dX7_append_61 : decode cX7_append 61 = .ok (.invokevirtual 64, 3) := by decide +kernel
theorem dX7_append_64 : decode cX7_append 64 = .ok (.ireturn, 1) := by decide +kernel
theorem dX7_clearCommands_0 : decode cX7_clearCommands 0 = .ok (.aload_n 0, 1) := by decide +kernel
theorem dX7_clearCommands_1 : decode cX7_clearCommands 1 = .ok (.getfield 26, 3) := by decide +kernel
theorem dX7_clearCommands_4 : decode cX7_clearCommands 4 = .ok (.getfield 209, 3) := by decide +kernel
theorem dX7_clearCommands_7 : decode cX7_clearCommands 7 = .ok (.invokevirtual 64, 3) := by decide +kernel
theorem dX7_clearCommands_10 : decode cX7_clearCommands 10 = .ok (.istore_n 1, 1) := by decide +kernel
theorem dX7_clearCommands_11 : decode cX7_clearCommands 11 = .ok (.aload_n 0, 1) := by decide +kernel
theorem dX7_clearCommands_12 : decode cX7_clearCommands 12 = .ok (.getfield 26, 3) := by decide +kernel
theorem dX7_clearCommands_15 : decode cX7_clearCommands 15 = .ok (.getfield 209, 3) := by decide +kernel
theorem dX7_clearCommands_18 : decode cX7_clearCommands 18 = .ok (.invokevirtual 215, 3) := by decide +kernel
theorem dX7_clearCommands_21 : decode cX7_clearCommands 21 = .ok (.iload_n 1, 1) := by decide +kernel
theorem dX7_clearCommands_22 : decode cX7_clearCommands 22 = .ok (.ireturn, 1) := by decide +kernel
theorem dX7_firstError_0 : decode cX7_firstError 0 = .ok (.aload_n 0, 1) := by decide +kernel
theorem dX7_firstError_1 : decode cX7_firstError 1 = .ok (.getfield 26, 3) := by decide +kernel
theorem dX7_firstError_4 : decode cX7_firstError 4 = .ok (.invokevirtual 218, 3) := by decide +kernel
theorem dX7_firstError_7 : decode cX7_firstError 7 = .ok (.ireturn, 1) := by decide +kernel
theorem dX7_run_0 : decode cX7_run 0 = .ok (.aload_n 0, 1) := by decide +kernel
theorem dX7_run_1 : decode cX7_run 1 = .ok (.getfield 26, 3) := by decide +kernel
theorem dX7_run_4 : decode cX7_run 4 = .ok (.invokevirtual 221, 3) := by decide +kernel
theorem dX7_run_7 : decode cX7_run 7 = .ok (.invokestatic 41, 3) := by decide +kernel
theorem dX7_run_10 : decode cX7_run 10 = .ok (.aload_n 0, 1) := by decide +kernel
theorem dX7_run_11 : decode cX7_run 11 = .ok (.getfield 19, 3) := by decide +kernel
theorem dX7_run_14 : decode cX7_run 14 = .ok (.aload_n 0, 1) := by decide +kernel
theorem dX7_run_15 : decode cX7_run 15 = .ok (.getfield 10, 3) := by decide +kernel
theorem dX7_run_18 : decode cX7_run 18 = .ok (.invokevirtual 52, 3) := by decide +kernel
theorem dX7_run_21 : decode cX7_run 21 = .ok (.aload_n 0, 1) := by decide +kernel
theorem dX7_run_22 : decode cX7_run 22 = .ok (.getfield 26, 3) := by decide +kernel
theorem dX7_run_25 : decode cX7_run 25 = .ok (.aload_n 0, 1) := by decide +kernel
theorem dX7_run_26 : decode cX7_run 26 = .ok (.getfield 10, 3) := by decide +kernel
theorem dX7_run_29 : decode cX7_run 29 = .ok (.invokevirtual 225, 3) := by decide +kernel
theorem dX7_run_32 : decode cX7_run 32 = .ok (.istore_n 1, 1) := by decide +kernel
theorem dX7_run_33 : decode cX7_run 33 = .ok (.aload_n 0, 1) := by decide +kernel
theorem dX7_run_34 : decode cX7_run 34 = .ok (.getfield 26, 3) := by decide +kernel
theorem dX7_run_37 : decode cX7_run 37 = .ok (.getfield 209, 3) := by decide +kernel
theorem dX7_run_40 : decode cX7_run 40 = .ok (.invokevirtual 215, 3) := by decide +kernel
theorem dX7_run_43 : decode cX7_run 43 = .ok (.iload_n 1, 1) := by decide +kernel
theorem dX7_run_44 : decode cX7_run 44 = .ok (.ireturn, 1) := by decide +kernel
theorem dX7_undo_0 : decode cX7_undo 0 = .ok (.aload_n 0, 1) := by decide +kernel
theorem dX7_undo_1 : decode cX7_undo 1 = .ok (.getfield 19, 3) := by decide +kernel
theorem dX7_undo_4 : decode cX7_undo 4 = .ok (.invokevirtual 229, 3) := by decide +kernel
theorem dX7_undo_7 : decode cX7_undo 7 = .ok (.ifCond .le 7, 3) := by decide +kernel
theorem dX7_undo_10 : decode cX7_undo 10 = .ok (.iconst 1, 1) := by decide +kernel
theorem dX7_undo_11 : decode cX7_undo 11 = .ok (.goto 4, 3) := by decide +kernel
theorem dX7_undo_14 : decode cX7_undo 14 = .ok (.iconst 0, 1) := by decide +kernel
theorem dX7_undo_15 : decode cX7_undo 15 = .ok (.invokestatic 49, 3) := by decide +kernel
theorem dX7_undo_18 : decode cX7_undo 18 = .ok (.aload_n 0, 1) := by decide +kernel
theorem dX7_undo_19 : decode cX7_undo 19 = .ok (.getfield 19, 3) := by decide +kernel
theorem dX7_undo_22 : decode cX7_undo 22 = .ok (.aload_n 0, 1) := by decide +kernel
theorem dX7_undo_23 : decode cX7_undo 23 = .ok (.getfield 10, 3) := by decide +kernel
theorem dX7_undo_26 : decode cX7_undo 26 = .ok (.invokevirtual 232, 3) := by decide +kernel
theorem dX7_undo_29 : decode cX7_undo 29 = .ok (.aload_n 0, 1) := by decide +kernel
theorem dX7_undo_30 : decode cX7_undo 30 = .ok (.getfield 19, 3) := by decide +kernel
theorem dX7_undo_33 : decode cX7_undo 33 = .ok (.invokevirtual 229, 3) := by decide +kernel
theorem dX7_undo_36 : decode cX7_undo 36 = .ok (.ireturn, 1) := by decide +kernel
theorem dX7_savedStates_0 : decode cX7_savedStates 0 = .ok (.aload_n 0, 1) := by decide +kernel
theorem dX7_savedStates_1 : decode cX7_savedStates 1 = .ok (.getfield 19, 3) := by decide +kernel
theorem dX7_savedStates_4 : decode cX7_savedStates 4 = .ok (.invokevirtual 229, 3) := by decide +kernel
theorem dX7_savedStates_7 : decode cX7_savedStates 7 = .ok (.ireturn, 1) := by decide +kernel
theorem dX7_digest_0 : decode cX7_digest 0 = .ok (.aload_n 0, 1) := by decide +kernel
theorem dX7_digest_1 : decode cX7_digest 1 = .ok (.getfield 10, 3) := by decide +kernel
theorem dX7_digest_4 : decode cX7_digest 4 = .ok (.invokevirtual 235, 3) := by decide +kernel
theorem dX7_digest_7 : decode cX7_digest 7 = .ok (.lreturn, 1) := by decide +kernel
theorem dX7_requireArgument_0 : decode cX7_requireArgument 0 = .ok (.iload_n 0, 1) := by decide +kernel
theorem dX7_requireArgument_1 : decode cX7_requireArgument 1 = .ok (.ifCond .ne 11, 3) := by decide +kernel
theorem dX7_requireArgument_4 : decode cX7_requireArgument 4 = .ok (.new 239, 3) := by decide +kernel
theorem dX7_requireArgument_7 : decode cX7_requireArgument 7 = .ok (.dup, 1) := by decide +kernel
theorem dX7_requireArgument_8 : decode cX7_requireArgument 8 = .ok (.invokespecial 241, 3) := by decide +kernel
theorem dX7_requireArgument_11 : decode cX7_requireArgument 11 = .ok (.athrow, 1) := by decide +kernel
theorem dX7_requireArgument_12 : decode cX7_requireArgument 12 = .ok (.return_, 1) := by decide +kernel
theorem dX7_requireIndex_0 : decode cX7_requireIndex 0 = .ok (.iload_n 0, 1) := by decide +kernel
theorem dX7_requireIndex_1 : decode cX7_requireIndex 1 = .ok (.ifCond .ne 11, 3) := by decide +kernel
theorem dX7_requireIndex_4 : decode cX7_requireIndex 4 = .ok (.new 242, 3) := by decide +kernel
theorem dX7_requireIndex_7 : decode cX7_requireIndex 7 = .ok (.dup, 1) := by decide +kernel
theorem dX7_requireIndex_8 : decode cX7_requireIndex 8 = .ok (.invokespecial 244, 3) := by decide +kernel
theorem dX7_requireIndex_11 : decode cX7_requireIndex 11 = .ok (.athrow, 1) := by decide +kernel
theorem dX7_requireIndex_12 : decode cX7_requireIndex 12 = .ok (.return_, 1) := by decide +kernel
theorem dX7_requireState_0 : decode cX7_requireState 0 = .ok (.iload_n 0, 1) := by decide +kernel
theorem dX7_requireState_1 : decode cX7_requireState 1 = .ok (.ifCond .ne 11, 3) := by decide +kernel
theorem dX7_requireState_4 : decode cX7_requireState 4 = .ok (.new 245, 3) := by decide +kernel
theorem dX7_requireState_7 : decode cX7_requireState 7 = .ok (.dup, 1) := by decide +kernel
theorem dX7_requireState_8 : decode cX7_requireState 8 = .ok (.invokespecial 247, 3) := by decide +kernel
theorem dX7_requireState_11 : decode cX7_requireState 11 = .ok (.athrow, 1) := by decide +kernel
theorem dX7_requireState_12 : decode cX7_requireState 12 = .ok (.return_, 1) := by decide +kernel
theorem dX7_isByte_0 : decode cX7_isByte 0 = .ok (.iload_n 0, 1) := by decide +kernel
theorem dX7_isByte_1 : decode cX7_isByte 1 = .ok (.bipush 10, 2) := by decide +kernel
theorem dX7_isByte_3 : decode cX7_isByte 3 = .ok (.if_icmp .eq 15, 3) := by decide +kernel
theorem dX7_isByte_6 : decode cX7_isByte 6 = .ok (.iload_n 0, 1) := by decide +kernel
theorem dX7_isByte_7 : decode cX7_isByte 7 = .ok (.bipush 32, 2) := by decide +kernel
theorem dX7_isByte_9 : decode cX7_isByte 9 = .ok (.if_icmp .lt 13, 3) := by decide +kernel
theorem dX7_isByte_12 : decode cX7_isByte 12 = .ok (.iload_n 0, 1) := by decide +kernel
theorem dX7_isByte_13 : decode cX7_isByte 13 = .ok (.bipush 126, 2) := by decide +kernel
theorem dX7_isByte_15 : decode cX7_isByte 15 = .ok (.if_icmp .gt 7, 3) := by decide +kernel
theorem dX7_isByte_18 : decode cX7_isByte 18 = .ok (.iconst 1, 1) := by decide +kernel
theorem dX7_isByte_19 : decode cX7_isByte 19 = .ok (.goto 4, 3) := by decide +kernel
theorem dX7_isByte_22 : decode cX7_isByte 22 = .ok (.iconst 0, 1) := by decide +kernel
theorem dX7_isByte_23 : decode cX7_isByte 23 = .ok (.ireturn, 1) := by decide +kernel
theorem dX7_isCount_0 : decode cX7_isCount 0 = .ok (.iload_n 0, 1) := by decide +kernel
theorem dX7_isCount_1 : decode cX7_isCount 1 = .ok (.iconst 1, 1) := by decide +kernel
theorem dX7_isCount_2 : decode cX7_isCount 2 = .ok (.if_icmp .lt 13, 3) := by decide +kernel
theorem dX7_isCount_5 : decode cX7_isCount 5 = .ok (.iload_n 0, 1) := by decide +kernel
theorem dX7_isCount_6 : decode cX7_isCount 6 = .ok (.bipush 100, 2) := by decide +kernel
theorem dX7_isCount_8 : decode cX7_isCount 8 = .ok (.if_icmp .gt 7, 3) := by decide +kernel
theorem dX7_isCount_11 : decode cX7_isCount 11 = .ok (.iconst 1, 1) := by decide +kernel
theorem dX7_isCount_12 : decode cX7_isCount 12 = .ok (.goto 4, 3) := by decide +kernel
theorem dX7_isCount_15 : decode cX7_isCount 15 = .ok (.iconst 0, 1) := by decide +kernel
theorem dX7_isCount_16 : decode cX7_isCount 16 = .ok (.ireturn, 1) := by decide +kernel
theorem dX7_isMark_0 : decode cX7_isMark 0 = .ok (.iload_n 0, 1) := by decide +kernel
theorem dX7_isMark_1 : decode cX7_isMark 1 = .ok (.ifCond .lt 12, 3) := by decide +kernel
theorem dX7_isMark_4 : decode cX7_isMark 4 = .ok (.iload_n 0, 1) := by decide +kernel
theorem dX7_isMark_5 : decode cX7_isMark 5 = .ok (.iconst 4, 1) := by decide +kernel
theorem dX7_isMark_6 : decode cX7_isMark 6 = .ok (.if_icmp .ge 7, 3) := by decide +kernel
theorem dX7_isMark_9 : decode cX7_isMark 9 = .ok (.iconst 1, 1) := by decide +kernel
theorem dX7_isMark_10 : decode cX7_isMark 10 = .ok (.goto 4, 3) := by decide +kernel
theorem dX7_isMark_13 : decode cX7_isMark 13 = .ok (.iconst 0, 1) := by decide +kernel
theorem dX7_isMark_14 : decode cX7_isMark 14 = .ok (.ireturn, 1) := by decide +kernel
theorem dX7_isPosition_0 : decode cX7_isPosition 0 = .ok (.iload_n 1, 1) := by decide +kernel
theorem dX7_isPosition_1 : decode cX7_isPosition 1 = .ok (.ifCond .lt 21, 3) := by decide +kernel
theorem dX7_isPosition_4 : decode cX7_isPosition 4 = .ok (.iload_n 1, 1) := by decide +kernel
theorem dX7_isPosition_5 : decode cX7_isPosition 5 = .ok (.aload_n 0, 1) := by decide +kernel
theorem dX7_isPosition_6 : decode cX7_isPosition 6 = .ok (.getfield 10, 3) := by decide +kernel
theorem dX7_isPosition_9 : decode cX7_isPosition 9 = .ok (.getfield 60, 3) := by decide +kernel
theorem dX7_isPosition_12 : decode cX7_isPosition 12 = .ok (.invokevirtual 64, 3) := by decide +kernel
theorem dX7_isPosition_15 : decode cX7_isPosition 15 = .ok (.if_icmp .gt 7, 3) := by decide +kernel
theorem dX7_isPosition_18 : decode cX7_isPosition 18 = .ok (.iconst 1, 1) := by decide +kernel
theorem dX7_isPosition_19 : decode cX7_isPosition 19 = .ok (.goto 4, 3) := by decide +kernel
theorem dX7_isPosition_22 : decode cX7_isPosition 22 = .ok (.iconst 0, 1) := by decide +kernel
theorem dX7_isPosition_23 : decode cX7_isPosition 23 = .ok (.ireturn, 1) := by decide +kernel
theorem dX7_isLine_0 : decode cX7_isLine 0 = .ok (.iload_n 1, 1) := by decide +kernel
theorem dX7_isLine_1 : decode cX7_isLine 1 = .ok (.ifCond .lt 21, 3) := by decide +kernel
theorem dX7_isLine_4 : decode cX7_isLine 4 = .ok (.iload_n 1, 1) := by decide +kernel
theorem dX7_isLine_5 : decode cX7_isLine 5 = .ok (.aload_n 0, 1) := by decide +kernel
theorem dX7_isLine_6 : decode cX7_isLine 6 = .ok (.getfield 10, 3) := by decide +kernel
theorem dX7_isLine_9 : decode cX7_isLine 9 = .ok (.getfield 60, 3) := by decide +kernel
theorem dX7_isLine_12 : decode cX7_isLine 12 = .ok (.invokevirtual 163, 3) := by decide +kernel
theorem dX7_isLine_15 : decode cX7_isLine 15 = .ok (.if_icmp .ge 7, 3) := by decide +kernel
theorem dX7_isLine_18 : decode cX7_isLine 18 = .ok (.iconst 1, 1) := by decide +kernel
theorem dX7_isLine_19 : decode cX7_isLine 19 = .ok (.goto 4, 3) := by decide +kernel
theorem dX7_isLine_22 : decode cX7_isLine 22 = .ok (.iconst 0, 1) := by decide +kernel
theorem dX7_isLine_23 : decode cX7_isLine 23 = .ok (.ireturn, 1) := by decide +kernel
theorem dX8_init_0 : decode cX8_init 0 = .ok (.aload_n 0, 1) := by decide +kernel
theorem dX8_init_1 : decode cX8_init 1 = .ok (.invokespecial 1, 3) := by decide +kernel
theorem dX8_init_4 : decode cX8_init 4 = .ok (.aload_n 0, 1) := by decide +kernel
theorem dX8_init_5 : decode cX8_init 5 = .ok (.sipush 344, 3) := by decide +kernel
theorem dX8_init_8 : decode cX8_init 8 = .ok (.newarray .int, 2) := by decide +kernel
theorem dX8_init_10 : decode cX8_init 10 = .ok (.putfield 7, 3) := by decide +kernel
theorem dX8_init_13 : decode cX8_init 13 = .ok (.aload_n 0, 1) := by decide +kernel
theorem dX8_init_14 : decode cX8_init 14 = .ok (.sipush 2064, 3) := by decide +kernel
theorem dX8_init_17 : decode cX8_init 17 = .ok (.newarray .int, 2) := by decide +kernel
theorem dX8_init_19 : decode cX8_init 19 = .ok (.putfield 13, 3) := by decide +kernel
theorem dX8_init_22 : decode cX8_init 22 = .ok (.aload_n 0, 1) := by decide +kernel
theorem dX8_init_23 : decode cX8_init 23 = .ok (.bipush 60, 2) := by decide +kernel
theorem dX8_init_25 : decode cX8_init 25 = .ok (.newarray .int, 2) := by decide +kernel
theorem dX8_init_27 : decode cX8_init 27 = .ok (.putfield 16, 3) := by decide +kernel
theorem dX8_init_30 : decode cX8_init 30 = .ok (.aload_n 0, 1) := by decide +kernel
theorem dX8_init_31 : decode cX8_init 31 = .ok (.bipush 96, 2) := by decide +kernel
theorem dX8_init_33 : decode cX8_init 33 = .ok (.newarray .int, 2) := by decide +kernel
theorem dX8_init_35 : decode cX8_init 35 = .ok (.putfield 19, 3) := by decide +kernel
theorem dX8_init_38 : decode cX8_init 38 = .ok (.aload_n 0, 1) := by decide +kernel
theorem dX8_init_39 : decode cX8_init 39 = .ok (.bipush 100, 2) := by decide +kernel
theorem dX8_init_41 : decode cX8_init 41 = .ok (.newarray .int, 2) := by decide +kernel
theorem dX8_init_43 : decode cX8_init 43 = .ok (.putfield 22, 3) := by decide +kernel
theorem dX8_init_46 : decode cX8_init 46 = .ok (.aload_n 0, 1) := by decide +kernel
theorem dX8_init_47 : decode cX8_init 47 = .ok (.iconst 0, 1) := by decide +kernel
theorem dX8_init_48 : decode cX8_init 48 = .ok (.putfield 25, 3) := by decide +kernel
theorem dX8_init_51 : decode cX8_init 51 = .ok (.aload_n 0, 1) := by decide +kernel
theorem dX8_init_52 : decode cX8_init 52 = .ok (.getfield 7, 3) := by decide +kernel
theorem dX8_init_55 : decode cX8_init 55 = .ok (.iconst 3, 1) := by decide +kernel
theorem dX8_init_56 : decode cX8_init 56 = .ok (.bipush 8, 2) := by decide +kernel
theorem dX8_init_58 : decode cX8_init 58 = .ok (.iastore, 1) := by decide +kernel
theorem dX8_init_59 : decode cX8_init 59 = .ok (.iconst 0, 1) := by decide +kernel
theorem dX8_init_60 : decode cX8_init 60 = .ok (.istore_n 1, 1) := by decide +kernel
theorem dX8_init_61 : decode cX8_init 61 = .ok (.iload_n 1, 1) := by decide +kernel
theorem dX8_init_62 : decode cX8_init 62 = .ok (.iconst 4, 1) := by decide +kernel
theorem dX8_init_63 : decode cX8_init 63 = .ok (.if_icmp .ge 19, 3) := by decide +kernel
theorem dX8_init_66 : decode cX8_init 66 = .ok (.aload_n 0, 1) := by decide +kernel
theorem dX8_init_67 : decode cX8_init 67 = .ok (.getfield 7, 3) := by decide +kernel
theorem dX8_init_70 : decode cX8_init 70 = .ok (.bipush 12, 2) := by decide +kernel
theorem dX8_init_72 : decode cX8_init 72 = .ok (.iload_n 1, 1) := by decide +kernel
theorem dX8_init_73 : decode cX8_init 73 = .ok (.iadd, 1) := by decide +kernel
theorem dX8_init_74 : decode cX8_init 74 = .ok (.iconst (-1), 1) := by decide +kernel
theorem dX8_init_75 : decode cX8_init 75 = .ok (.iastore, 1) := by decide +kernel
theorem dX8_init_76 : decode cX8_init 76 = .ok (.iinc 1 1, 3) := by decide +kernel
theorem dX8_init_79 : decode cX8_init 79 = .ok (.goto (-18), 3) := by decide +kernel
theorem dX8_init_82 : decode cX8_init 82 = .ok (.return_, 1) := by decide +kernel
theorem dX8_thrown_0 : decode cX8_thrown 0 = .ok (.aload_n 0, 1) := by decide +kernel
theorem dX8_thrown_1 : decode cX8_thrown 1 = .ok (.getfield 25, 3) := by decide +kernel
theorem dX8_thrown_4 : decode cX8_thrown 4 = .ok (.ireturn, 1) := by decide +kernel
theorem dX8_in_0 : decode cX8_in 0 = .ok (.iload_n 0, 1) := by decide +kernel
theorem dX8_in_1 : decode cX8_in 1 = .ok (.iload_n 1, 1) := by decide +kernel
theorem dX8_in_2 : decode cX8_in 2 = .ok (.if_icmp .lt 12, 3) := by decide +kernel
theorem dX8_in_5 : decode cX8_in 5 = .ok (.iload_n 0, 1) := by decide +kernel
theorem dX8_in_6 : decode cX8_in 6 = .ok (.iload_n 2, 1) := by decide +kernel
theorem dX8_in_7 : decode cX8_in 7 = .ok (.if_icmp .gt 7, 3) := by decide +kernel
theorem dX8_in_10 : decode cX8_in 10 = .ok (.iconst 1, 1) := by decide +kernel
theorem dX8_in_11 : decode cX8_in 11 = .ok (.goto 4, 3) := by decide +kernel
theorem dX8_in_14 : decode cX8_in 14 = .ok (.iconst 0, 1) := by decide +kernel
theorem dX8_in_15 : decode cX8_in 15 = .ok (.ireturn, 1) := by decide +kernel
theorem dX8_fails_0 : decode cX8_fails 0 = .ok (.aload_n 0, 1) := by decide +kernel
theorem dX8_fails_1 : decode cX8_fails 1 = .ok (.iload_n 1, 1) := by decide +kernel
theorem dX8_fails_2 : decode cX8_fails 2 = .ok (.putfield 25, 3) := by decide +kernel
theorem dX8_fails_5 : decode cX8_fails 5 = .ok (.iconst 0, 1) := by decide +kernel
theorem dX8_fails_6 : decode cX8_fails 6 = .ok (.ireturn, 1) := by decide +kernel
theorem dX8_isByte_0 : decode cX8_isByte 0 = .ok (.iload_n 0, 1) := by decide +kernel
theorem dX8_isByte_1 : decode cX8_isByte 1 = .ok (.bipush 10, 2) := by decide +kernel
theorem dX8_isByte_3 : decode cX8_isByte 3 = .ok (.if_icmp .eq 14, 3) := by decide +kernel
theorem dX8_isByte_6 : decode cX8_isByte 6 = .ok (.iload_n 0, 1) := by decide +kernel
theorem dX8_isByte_7 : decode cX8_isByte 7 = .ok (.bipush 32, 2) := by decide +kernel
theorem dX8_isByte_9 : decode cX8_isByte 9 = .ok (.bipush 126, 2) := by decide +kernel
theorem dX8_isByte_11 : decode cX8_isByte 11 = .ok (.invokestatic 29, 3) := by decide +kernel
theorem dX8_isByte_14 : decode cX8_isByte 14 = .ok (.ifCond .eq 7, 3) := by decide +kernel
theorem dX8_isByte_17 : decode cX8_isByte 17 = .ok (.iconst 1, 1) := by decide +kernel
theorem dX8_isByte_18 : decode cX8_isByte 18 = .ok (.goto 4, 3) := by decide +kernel
theorem dX8_isByte_21 : decode cX8_isByte 21 = .ok (.iconst 0, 1) := by decide +kernel
theorem dX8_isByte_22 : decode cX8_isByte 22 = .ok (.ireturn, 1) := by decide +kernel
theorem dX8_isPosition_0 : decode cX8_isPosition 0 = .ok (.iload_n 1, 1) := by decide +kernel
theorem dX8_isPosition_1 : decode cX8_isPosition 1 = .ok (.iconst 0, 1) := by decide +kernel
theorem dX8_isPosition_2 : decode cX8_isPosition 2 = .ok (.aload_n 0, 1) := by decide +kernel
theorem dX8_isPosition_3 : decode cX8_isPosition 3 = .ok (.getfield 7, 3) := by decide +kernel
theorem dX8_isPosition_6 : decode cX8_isPosition 6 = .ok (.iconst 0, 1) := by decide +kernel
theorem dX8_isPosition_7 : decode cX8_isPosition 7 = .ok (.iaload, 1) := by decide +kernel
theorem dX8_isPosition_8 : decode cX8_isPosition 8 = .ok (.invokestatic 29, 3) := by decide +kernel
theorem dX8_isPosition_11 : decode cX8_isPosition 11 = .ok (.ireturn, 1) := by decide +kernel
theorem dX8_isMark_0 : decode cX8_isMark 0 = .ok (.iload_n 0, 1) := by decide +kernel
theorem dX8_isMark_1 : decode cX8_isMark 1 = .ok (.iconst 0, 1) := by decide +kernel
theorem dX8_isMark_2 : decode cX8_isMark 2 = .ok (.iconst 3, 1) := by decide +kernel
theorem dX8_isMark_3 : decode cX8_isMark 3 = .ok (.invokestatic 29, 3) := by decide +kernel
theorem dX8_isMark_6 : decode cX8_isMark 6 = .ok (.ireturn, 1) := by decide +kernel
theorem dX8_size_0 : decode cX8_size 0 = .ok (.iload_n 0, 1) := by decide +kernel
theorem dX8_size_1 : decode cX8_size 1 = .ok (.ifCond .ge 8, 3) := by decide +kernel
theorem dX8_size_4 : decode cX8_size 4 = .ok (.iload_n 0, 1) := by decide +kernel
theorem dX8_size_5 : decode cX8_size 5 = .ok (.ineg, 1) := by decide +kernel
theorem dX8_size_6 : decode cX8_size 6 = .ok (.goto 4, 3) := by decide +kernel
theorem dX8_size_9 : decode cX8_size 9 = .ok (.iload_n 0, 1) := by decide +kernel
theorem dX8_size_10 : decode cX8_size 10 = .ok (.ireturn, 1) := by decide +kernel
theorem dX8_saves_0 : decode cX8_saves 0 = .ok (.aload_n 0, 1) := by decide +kernel
theorem dX8_saves_1 : decode cX8_saves 1 = .ok (.getfield 33, 3) := by decide +kernel
theorem dX8_saves_4 : decode cX8_saves 4 = .ok (.bipush 6, 2) := by decide +kernel
theorem dX8_saves_6 : decode cX8_saves 6 = .ok (.if_icmp .ne 44, 3) := by decide +kernel
theorem dX8_saves_9 : decode cX8_saves 9 = .ok (.iconst 0, 1) := by decide +kernel
theorem dX8_saves_10 : decode cX8_saves 10 = .ok (.istore_n 1, 1) := by decide +kernel
theorem dX8_saves_11 : decode cX8_saves 11 = .ok (.iload_n 1, 1) := by decide +kernel
theorem dX8_saves_12 : decode cX8_saves 12 = .ok (.sipush 1720, 3) := by decide +kernel
theorem dX8_saves_15 : decode cX8_saves 15 = .ok (.if_icmp .ge 25, 3) := by decide +kernel
theorem dX8_saves_18 : decode cX8_saves 18 = .ok (.aload_n 0, 1) := by decide +kernel
theorem dX8_saves_19 : decode cX8_saves 19 = .ok (.getfield 13, 3) := by decide +kernel
theorem dX8_saves_22 : decode cX8_saves 22 = .ok (.iload_n 1, 1) := by decide +kernel
theorem dX8_saves_23 : decode cX8_saves 23 = .ok (.aload_n 0, 1) := by decide +kernel
theorem dX8_saves_24 : decode cX8_saves 24 = .ok (.getfield 13, 3) := by decide +kernel
theorem dX8_saves_27 : decode cX8_saves 27 = .ok (.iload_n 1, 1) := by decide +kernel
theorem dX8_saves_28 : decode cX8_saves 28 = .ok (.sipush 344, 3) := by decide +kernel
theorem dX8_saves_31 : decode cX8_saves 31 = .ok (.iadd, 1) := by decide +kernel
theorem dX8_saves_32 : decode cX8_saves 32 = .ok (.iaload, 1) := by decide +kernel
theorem dX8_saves_33 : decode cX8_saves 33 = .ok (.iastore, 1) := by decide +kernel
theorem dX8_saves_34 : decode cX8_saves 34 = .ok (.iinc 1 1, 3) := by decide +kernel
theorem dX8_saves_37 : decode cX8_saves 37 = .ok (.goto (-26), 3) := by decide +kernel
theorem dX8_saves_40 : decode cX8_saves 40 = .ok (.aload_n 0, 1) := by decide +kernel
theorem dX8_saves_41 : decode cX8_saves 41 = .ok (.dup, 1) := by decide +kernel
theorem dX8_saves_42 : decode cX8_saves 42 = .ok (.getfield 33, 3) := by decide +kernel
theorem dX8_saves_45 : decode cX8_saves 45 = .ok (.iconst 1, 1) := by decide +kernel
theorem dX8_saves_46 : decode cX8_saves 46 = .ok (.isub, 1) := by decide +kernel
theorem dX8_saves_47 : decode cX8_saves 47 = .ok (.putfield 33, 3) := by decide +kernel
theorem dX8_saves_50 : decode cX8_saves 50 = .ok (.iconst 0, 1) := by decide +kernel
theorem dX8_saves_51 : decode cX8_saves 51 = .ok (.istore_n 1, 1) := by decide +kernel
theorem dX8_saves_52 : decode cX8_saves 52 = .ok (.iload_n 1, 1) := by decide +kernel
theorem dX8_saves_53 : decode cX8_saves 53 = .ok (.sipush 344, 3) := by decide +kernel
theorem dX8_saves_56 : decode cX8_saves 56 = .ok (.if_icmp .ge 30, 3) := by decide +kernel
theorem dX8_saves_59 : decode cX8_saves 59 = .ok (.aload_n 0, 1) := by decide +kernel
theorem dX8_saves_60 : decode cX8_saves 60 = .ok (.getfield 13, 3) := by decide +kernel
theorem dX8_saves_63 : decode cX8_saves 63 = .ok (.sipush 344, 3) := by decide +kernel
theorem dX8_saves_66 : decode cX8_saves 66 = .ok (.aload_n 0, 1) := by decide +kernel
theorem dX8_saves_67 : decode cX8_saves 67 = .ok (.getfield 33, 3) := by decide +kernel
theorem dX8_saves_70 : decode cX8_saves 70 = .ok (.imul, 1) := by decide +kernel
theorem dX8_saves_71 : decode cX8_saves 71 = .ok (.iload_n 1, 1) := by decide +kernel
theorem dX8_saves_72 : decode cX8_saves 72 = .ok (.iadd, 1) := by decide +kernel
theorem dX8_saves_73 : decode cX8_saves 73 = .ok (.aload_n 0, 1) := by decide +kernel
theorem dX8_saves_74 : decode cX8_saves 74 = .ok (.getfield 7, 3) := by decide +kernel
theorem dX8_saves_77 : decode cX8_saves 77 = .ok (.iload_n 1, 1) := by decide +kernel
theorem dX8_saves_78 : decode cX8_saves 78 = .ok (.iaload, 1) := by decide +kernel
theorem dX8_saves_79 : decode cX8_saves 79 = .ok (.iastore, 1) := by decide +kernel
theorem dX8_saves_80 : decode cX8_saves 80 = .ok (.iinc 1 1, 3) := by decide +kernel
theorem dX8_saves_83 : decode cX8_saves 83 = .ok (.goto (-31), 3) := by decide +kernel
theorem dX8_saves_86 : decode cX8_saves 86 = .ok (.aload_n 0, 1) := by decide +kernel
theorem dX8_saves_87 : decode cX8_saves 87 = .ok (.dup, 1) := by decide +kernel
theorem dX8_saves_88 : decode cX8_saves 88 = .ok (.getfield 33, 3) := by decide +kernel
theorem dX8_saves_91 : decode cX8_saves 91 = .ok (.iconst 1, 1) := by decide +kernel
theorem dX8_saves_92 : decode cX8_saves 92 = .ok (.iadd, 1) := by decide +kernel
theorem dX8_saves_93 : decode cX8_saves 93 = .ok (.putfield 33, 3) := by decide +kernel
theorem dX8_saves_96 : decode cX8_saves 96 = .ok (.return_, 1) := by decide +kernel
theorem dX8_startOf_0 : decode cX8_startOf 0 = .ok (.iload_n 1, 1) := by decide +kernel
theorem dX8_startOf_1 : decode cX8_startOf 1 = .ok (.istore_n 2, 1) := by decide +kernel
theorem dX8_startOf_2 : decode cX8_startOf 2 = .ok (.iload_n 2, 1) := by decide +kernel
theorem dX8_startOf_3 : decode cX8_startOf 3 = .ok (.ifCond .le 25, 3) := by decide +kernel
theorem dX8_startOf_6 : decode cX8_startOf 6 = .ok (.aload_n 0, 1) := by decide +kernel
theorem dX8_startOf_7 : decode cX8_startOf 7 = .ok (.getfield 7, 3) := by decide +kernel
theorem dX8_startOf_10 : decode cX8_startOf 10 = .ok (.bipush 80, 2) := by decide +kernel
theorem dX8_startOf_12 : decode cX8_startOf 12 = .ok (.iload_n 2, 1) := by decide +kernel
theorem dX8_startOf_13 : decode cX8_startOf 13 = .ok (.iadd, 1) := by decide +kernel
theorem dX8_startOf_14 : decode cX8_startOf 14 = .ok (.iconst 1, 1) := by decide +kernel
theorem dX8_startOf_15 : decode cX8_startOf 15 = .ok (.isub, 1) := by decide +kernel
theorem dX8_startOf_16 : decode cX8_startOf 16 = .ok (.iaload, 1) := by decide +kernel
theorem dX8_startOf_17 : decode cX8_startOf 17 = .ok (.bipush 10, 2) := by decide +kernel
theorem dX8_startOf_19 : decode cX8_startOf 19 = .ok (.if_icmp .eq 9, 3) := by decide +kernel
theorem dX8_startOf_22 : decode cX8_startOf 22 = .ok (.iinc 2 (-1), 3) := by decide +kernel
theorem dX8_startOf_25 : decode cX8_startOf 25 = .ok (.goto (-23), 3) := by decide +kernel
theorem dX8_startOf_28 : decode cX8_startOf 28 = .ok (.iload_n 2, 1) := by decide +kernel
theorem dX8_startOf_29 : decode cX8_startOf 29 = .ok (.ireturn, 1) := by decide +kernel
theorem dX8_endOf_0 : decode cX8_endOf 0 = .ok (.iload_n 1, 1) := by decide +kernel
theorem dX8_endOf_1 : decode cX8_endOf 1 = .ok (.istore_n 2, 1) := by decide +kernel
theorem dX8_endOf_2 : decode cX8_endOf 2 = .ok (.iload_n 2, 1) := by decide +kernel
theorem dX8_endOf_3 : decode cX8_endOf 3 = .ok (.aload_n 0, 1) := by decide +kernel
theorem dX8_endOf_4 : decode cX8_endOf 4 = .ok (.getfield 7, 3) := by decide +kernel
theorem dX8_endOf_7 : decode cX8_endOf 7 = .ok (.iconst 0, 1) := by decide +kernel
theorem dX8_endOf_8 : decode cX8_endOf 8 = .ok (.iaload, 1) := by decide +kernel
theorem dX8_endOf_9 : decode cX8_endOf 9 = .ok (.if_icmp .ge 23, 3) := by decide +kernel
theorem dX8_endOf_12 : decode cX8_endOf 12 = .ok (.aload_n 0, 1) := by decide +kernel
theorem dX8_endOf_13 : decode cX8_endOf 13 = .ok (.getfield 7, 3) := by decide +kernel
theorem dX8_endOf_16 : decode cX8_endOf 16 = .ok (.bipush 80, 2) := by decide +kernel
theorem dX8_endOf_18 : decode cX8_endOf 18 = .ok (.iload_n 2, 1) := by decide +kernel
theorem dX8_endOf_19 : decode cX8_endOf 19 = .ok (.iadd, 1) := by decide +kernel
theorem dX8_endOf_20 : decode cX8_endOf 20 = .ok (.iaload, 1) := by decide +kernel
theorem dX8_endOf_21 : decode cX8_endOf 21 = .ok (.bipush 10, 2) := by decide +kernel
theorem dX8_endOf_23 : decode cX8_endOf 23 = .ok (.if_icmp .eq 9, 3) := by decide +kernel
theorem dX8_endOf_26 : decode cX8_endOf 26 = .ok (.iinc 2 1, 3) := by decide +kernel
theorem dX8_endOf_29 : decode cX8_endOf 29 = .ok (.goto (-27), 3) := by decide +kernel
theorem dX8_endOf_32 : decode cX8_endOf 32 = .ok (.iload_n 2, 1) := by decide +kernel
theorem dX8_endOf_33 : decode cX8_endOf 33 = .ok (.ireturn, 1) := by decide +kernel
theorem dX8_column_0 : decode cX8_column 0 = .ok (.iload_n 1, 1) := by decide +kernel
theorem dX8_column_1 : decode cX8_column 1 = .ok (.aload_n 0, 1) := by decide +kernel
theorem dX8_column_2 : decode cX8_column 2 = .ok (.iload_n 1, 1) := by decide +kernel
theorem dX8_column_3 : decode cX8_column 3 = .ok (.invokevirtual 36, 3) := by decide +kernel
theorem dX8_column_6 : decode cX8_column 6 = .ok (.isub, 1) := by decide +kernel
theorem dX8_column_7 : decode cX8_column 7 = .ok (.ireturn, 1) := by decide +kernel
theorem dX8_lineAt_0 : decode cX8_lineAt 0 = .ok (.iconst 0, 1) := by decide +kernel
theorem dX8_lineAt_1 : decode cX8_lineAt 1 = .ok (.istore_n 2, 1) := by decide +kernel
theorem dX8_lineAt_2 : decode cX8_lineAt 2 = .ok (.iconst 0, 1) := by decide +kernel
theorem dX8_lineAt_3 : decode cX8_lineAt 3 = .ok (.istore_n 3, 1) := by decide +kernel
theorem dX8_lineAt_4 : decode cX8_lineAt 4 = .ok (.iload_n 3, 1) := by decide +kernel
theorem dX8_lineAt_5 : decode cX8_lineAt 5 = .ok (.iload_n 1, 1) := by decide +kernel
theorem dX8_lineAt_6 : decode cX8_lineAt 6 = .ok (.if_icmp .ge 31, 3) := by decide +kernel
theorem dX8_lineAt_9 : decode cX8_lineAt 9 = .ok (.iload_n 2, 1) := by decide +kernel
theorem dX8_lineAt_10 : decode cX8_lineAt 10 = .ok (.aload_n 0, 1) := by decide +kernel
theorem dX8_lineAt_11 : decode cX8_lineAt 11 = .ok (.getfield 7, 3) := by decide +kernel
theorem dX8_lineAt_14 : decode cX8_lineAt 14 = .ok (.bipush 80, 2) := by decide +kernel
theorem dX8_lineAt_16 : decode cX8_lineAt 16 = .ok (.iload_n 3, 1) := by decide +kernel
theorem dX8_lineAt_17 : decode cX8_lineAt 17 = .ok (.iadd, 1) := by decide +kernel
theorem dX8_lineAt_18 : decode cX8_lineAt 18 = .ok (.iaload, 1) := by decide +kernel
theorem dX8_lineAt_19 : decode cX8_lineAt 19 = .ok (.bipush 10, 2) := by decide +kernel
theorem dX8_lineAt_21 : decode cX8_lineAt 21 = .ok (.if_icmp .ne 7, 3) := by decide +kernel
theorem dX8_lineAt_24 : decode cX8_lineAt 24 = .ok (.iconst 1, 1) := by decide +kernel
theorem dX8_lineAt_25 : decode cX8_lineAt 25 = .ok (.goto 4, 3) := by decide +kernel
theorem dX8_lineAt_28 : decode cX8_lineAt 28 = .ok (.iconst 0, 1) := by decide +kernel
theorem dX8_lineAt_29 : decode cX8_lineAt 29 = .ok (.iadd, 1) := by decide +kernel
theorem dX8_lineAt_30 : decode cX8_lineAt 30 = .ok (.istore_n 2, 1) := by decide +kernel
theorem dX8_lineAt_31 : decode cX8_lineAt 31 = .ok (.iinc 3 1, 3) := by decide +kernel
theorem dX8_lineAt_34 : decode cX8_lineAt 34 = .ok (.goto (-30), 3) := by decide +kernel
theorem dX8_lineAt_37 : decode cX8_lineAt 37 = .ok (.iload_n 2, 1) := by decide +kernel
theorem dX8_lineAt_38 : decode cX8_lineAt 38 = .ok (.ireturn, 1) := by decide +kernel
theorem dX8_movesGap_0 : decode cX8_movesGap 0 = .ok (.aload_n 0, 1) := by decide +kernel
theorem dX8_movesGap_1 : decode cX8_movesGap 1 = .ok (.getfield 7, 3) := by decide +kernel
theorem dX8_movesGap_4 : decode cX8_movesGap 4 = .ok (.iconst 2, 1) := by decide +kernel
theorem dX8_movesGap_5 : decode cX8_movesGap 5 = .ok (.iaload, 1) := by decide +kernel
theorem dX8_movesGap_6 : decode cX8_movesGap 6 = .ok (.iload_n 1, 1) := by decide +kernel
theorem dX8_movesGap_7 : decode cX8_movesGap 7 = .ok (.isub, 1) := by decide +kernel
theorem dX8_movesGap_8 : decode cX8_movesGap 8 = .ok (.invokestatic 40, 3) := by decide +kernel
theorem dX8_movesGap_11 : decode cX8_movesGap 11 = .ok (.istore_n 2, 1) := by decide +kernel
theorem dX8_movesGap_12 : decode cX8_movesGap 12 = .ok (.aload_n 0, 1) := by decide +kernel
theorem dX8_movesGap_13 : decode cX8_movesGap 13 = .ok (.getfield 7, 3) := by decide +kernel
theorem dX8_movesGap_16 : decode cX8_movesGap 16 = .ok (.iconst 4, 1) := by decide +kernel
theorem dX8_movesGap_17 : decode cX8_movesGap 17 = .ok (.dup2, 1) := by decide +kernel
theorem dX8_movesGap_18 : decode cX8_movesGap 18 = .ok (.iaload, 1) := by decide +kernel
theorem dX8_movesGap_19 : decode cX8_movesGap 19 = .ok (.iload_n 2, 1) := by decide +kernel
theorem dX8_movesGap_20 : decode cX8_movesGap 20 = .ok (.iadd, 1) := by decide +kernel
theorem dX8_movesGap_21 : decode cX8_movesGap 21 = .ok (.iastore, 1) := by decide +kernel
theorem dX8_movesGap_22 : decode cX8_movesGap 22 = .ok (.aload_n 0, 1) := by decide +kernel
theorem dX8_movesGap_23 : decode cX8_movesGap 23 = .ok (.getfield 7, 3) := by decide +kernel
theorem dX8_movesGap_26 : decode cX8_movesGap 26 = .ok (.iconst 2, 1) := by decide +kernel
theorem dX8_movesGap_27 : decode cX8_movesGap 27 = .ok (.iload_n 1, 1) := by decide +kernel
theorem dX8_movesGap_28 : decode cX8_movesGap 28 = .ok (.iastore, 1) := by decide +kernel
theorem dX8_movesGap_29 : decode cX8_movesGap 29 = .ok (.iload_n 2, 1) := by decide +kernel
theorem dX8_movesGap_30 : decode cX8_movesGap 30 = .ok (.ireturn, 1) := by decide +kernel
theorem dX8_setsGoal_0 : decode cX8_setsGoal 0 = .ok (.aload_n 0, 1) := by decide +kernel
theorem dX8_setsGoal_1 : decode cX8_setsGoal 1 = .ok (.getfield 7, 3) := by decide +kernel
theorem dX8_setsGoal_4 : decode cX8_setsGoal 4 = .ok (.bipush 8, 2) := by decide +kernel
theorem dX8_setsGoal_6 : decode cX8_setsGoal 6 = .ok (.aload_n 0, 1) := by decide +kernel
theorem dX8_setsGoal_7 : decode cX8_setsGoal 7 = .ok (.aload_n 0, 1) := by decide +kernel
theorem dX8_setsGoal_8 : decode cX8_setsGoal 8 = .ok (.getfield 7, 3) := by decide +kernel
theorem dX8_setsGoal_11 : decode cX8_setsGoal 11 = .ok (.iconst 1, 1) := by decide +kernel
theorem dX8_setsGoal_12 : decode cX8_setsGoal 12 = .ok (.iaload, 1) := by decide +kernel
theorem dX8_setsGoal_13 : decode cX8_setsGoal 13 = .ok (.invokevirtual 43, 3) := by decide +kernel
theorem dX8_setsGoal_16 : decode cX8_setsGoal 16 = .ok (.iastore, 1) := by decide +kernel
theorem dX8_setsGoal_17 : decode cX8_setsGoal 17 = .ok (.return_, 1) := by decide +kernel
theorem dX8_movesMarks_0 : decode cX8_movesMarks 0 = .ok (.iconst 0, 1) := by decide +kernel
theorem dX8_movesMarks_1 : decode cX8_movesMarks 1 = .ok (.istore_n 3, 1) := by decide +kernel
theorem dX8_movesMarks_2 : decode cX8_movesMarks 2 = .ok (.iload_n 3, 1) := by decide +kernel
theorem dX8_movesMarks_3 : decode cX8_movesMarks 3 = .ok (.iconst 4, 1) := by decide +kernel
theorem dX8_movesMarks_4 : decode cX8_movesMarks 4 = .ok (.if_icmp .ge 81, 3) := by decide +kernel
theorem dX8_movesMarks_7 : decode cX8_movesMarks 7 = .ok (.aload_n 0, 1) := by decide +kernel
theorem dX8_movesMarks_8 : decode cX8_movesMarks 8 = .ok (.getfield 7, 3) := by decide +kernel
theorem dX8_movesMarks_11 : decode cX8_movesMarks 11 = .ok (.bipush 12, 2) := by decide +kernel
theorem dX8_movesMarks_13 : decode cX8_movesMarks 13 = .ok (.iload_n 3, 1) := by decide +kernel
theorem dX8_movesMarks_14 : decode cX8_movesMarks 14 = .ok (.iadd, 1) := by decide +kernel
theorem dX8_movesMarks_15 : decode cX8_movesMarks 15 = .ok (.iaload, 1) := by decide +kernel
theorem dX8_movesMarks_16 : decode cX8_movesMarks 16 = .ok (.istore 4, 2) := by decide +kernel
theorem dX8_movesMarks_18 : decode cX8_movesMarks 18 = .ok (.iload 4, 2) := by decide +kernel
theorem dX8_movesMarks_20 : decode cX8_movesMarks 20 = .ok (.iconst (-1), 1) := by decide +kernel
theorem dX8_movesMarks_21 : decode cX8_movesMarks 21 = .ok (.if_icmp .eq 32, 3) := by decide +kernel
theorem dX8_movesMarks_24 : decode cX8_movesMarks 24 = .ok (.iload 4, 2) := by decide +kernel
theorem dX8_movesMarks_26 : decode cX8_movesMarks 26 = .ok (.iload_n 1, 1) := by decide +kernel
theorem dX8_movesMarks_27 : decode cX8_movesMarks 27 = .ok (.if_icmp .gt 22, 3) := by decide +kernel
theorem dX8_movesMarks_30 : decode cX8_movesMarks 30 = .ok (.iload 4, 2) := by decide +kernel
theorem dX8_movesMarks_32 : decode cX8_movesMarks 32 = .ok (.iload_n 1, 1) := by decide +kernel
theorem dX8_movesMarks_33 : decode cX8_movesMarks 33 = .ok (.if_icmp .ne 20, 3) := by decide +kernel
theorem dX8_movesMarks_36 : decode cX8_movesMarks 36 = .ok (.aload_n 0, 1) := by decide +kernel
theorem dX8_movesMarks_37 : decode cX8_movesMarks 37 = .ok (.getfield 7, 3) := by decide +kernel
theorem dX8_movesMarks_40 : decode cX8_movesMarks 40 = .ok (.bipush 16, 2) := by decide +kernel
theorem dX8_movesMarks_42 : decode cX8_movesMarks 42 = .ok (.iload_n 3, 1) := by decide +kernel
theorem dX8_movesMarks_43 : decode cX8_movesMarks 43 = .ok (.iadd, 1) := by decide +kernel
theorem dX8_movesMarks_44 : decode cX8_movesMarks 44 = .ok (.iaload, 1) := by decide +kernel
theorem dX8_movesMarks_45 : decode cX8_movesMarks 45 = .ok (.iconst 1, 1) := by decide +kernel
theorem dX8_movesMarks_46 : decode cX8_movesMarks 46 = .ok (.if_icmp .ne 7, 3) := by decide +kernel
theorem dX8_movesMarks_49 : decode cX8_movesMarks 49 = .ok (.iconst 1, 1) := by decide +kernel
theorem dX8_movesMarks_50 : decode cX8_movesMarks 50 = .ok (.goto 4, 3) := by decide +kernel
theorem dX8_movesMarks_53 : decode cX8_movesMarks 53 = .ok (.iconst 0, 1) := by decide +kernel
theorem dX8_movesMarks_54 : decode cX8_movesMarks 54 = .ok (.istore 5, 2) := by decide +kernel
theorem dX8_movesMarks_56 : decode cX8_movesMarks 56 = .ok (.aload_n 0, 1) := by decide +kernel
theorem dX8_movesMarks_57 : decode cX8_movesMarks 57 = .ok (.getfield 7, 3) := by decide +kernel
theorem dX8_movesMarks_60 : decode cX8_movesMarks 60 = .ok (.bipush 12, 2) := by decide +kernel
theorem dX8_movesMarks_62 : decode cX8_movesMarks 62 = .ok (.iload_n 3, 1) := by decide +kernel
theorem dX8_movesMarks_63 : decode cX8_movesMarks 63 = .ok (.iadd, 1) := by decide +kernel
theorem dX8_movesMarks_64 : decode cX8_movesMarks 64 = .ok (.iload 5, 2) := by decide +kernel
theorem dX8_movesMarks_66 : decode cX8_movesMarks 66 = .ok (.ifCond .eq 10, 3) := by decide +kernel
theorem dX8_movesMarks_69 : decode cX8_movesMarks 69 = .ok (.iload 4, 2) := by decide +kernel
theorem dX8_movesMarks_71 : decode cX8_movesMarks 71 = .ok (.iload_n 2, 1) := by decide +kernel
theorem dX8_movesMarks_72 : decode cX8_movesMarks 72 = .ok (.iadd, 1) := by decide +kernel
theorem dX8_movesMarks_73 : decode cX8_movesMarks 73 = .ok (.goto 5, 3) := by decide +kernel
theorem dX8_movesMarks_76 : decode cX8_movesMarks 76 = .ok (.iload 4, 2) := by decide +kernel
theorem dX8_movesMarks_78 : decode cX8_movesMarks 78 = .ok (.iastore, 1) := by decide +kernel
theorem dX8_movesMarks_79 : decode cX8_movesMarks 79 = .ok (.iinc 3 1, 3) := by decide +kernel
theorem dX8_movesMarks_82 : decode cX8_movesMarks 82 = .ok (.goto (-80), 3) := by decide +kernel
theorem dX8_movesMarks_85 : decode cX8_movesMarks 85 = .ok (.return_, 1) := by decide +kernel
theorem dX8_inserts_0 : decode cX8_inserts 0 = .ok (.aload_n 0, 1) := by decide +kernel
theorem dX8_inserts_1 : decode cX8_inserts 1 = .ok (.getfield 7, 3) := by decide +kernel
theorem dX8_inserts_4 : decode cX8_inserts 4 = .ok (.iconst 1, 1) := by decide +kernel
theorem dX8_inserts_5 : decode cX8_inserts 5 = .ok (.iaload, 1) := by decide +kernel
theorem dX8_inserts_6 : decode cX8_inserts 6 = .ok (.istore_n 1, 1) := by decide +kernel
theorem dX8_inserts_7 : decode cX8_inserts 7 = .ok (.aload_n 0, 1) := by decide +kernel
theorem dX8_inserts_8 : decode cX8_inserts 8 = .ok (.iload_n 1, 1) := by decide +kernel
theorem dX8_inserts_9 : decode cX8_inserts 9 = .ok (.invokevirtual 46, 3) := by decide +kernel
theorem dX8_inserts_12 : decode cX8_inserts 12 = .ok (.pop, 1) := by decide +kernel
theorem dX8_inserts_13 : decode cX8_inserts 13 = .ok (.aload_n 0, 1) := by decide +kernel
theorem dX8_inserts_14 : decode cX8_inserts 14 = .ok (.getfield 7, 3) := by decide +kernel
theorem dX8_inserts_17 : decode cX8_inserts 17 = .ok (.iconst 3, 1) := by decide +kernel
theorem dX8_inserts_18 : decode cX8_inserts 18 = .ok (.iaload, 1) := by decide +kernel
theorem dX8_inserts_19 : decode cX8_inserts 19 = .ok (.aload_n 0, 1) := by decide +kernel
theorem dX8_inserts_20 : decode cX8_inserts 20 = .ok (.getfield 7, 3) := by decide +kernel
theorem dX8_inserts_23 : decode cX8_inserts 23 = .ok (.iconst 0, 1) := by decide +kernel
theorem dX8_inserts_24 : decode cX8_inserts 24 = .ok (.iaload, 1) := by decide +kernel
theorem dX8_inserts_25 : decode cX8_inserts 25 = .ok (.isub, 1) := by decide +kernel
theorem dX8_inserts_26 : decode cX8_inserts 26 = .ok (.aload_n 0, 1) := by decide +kernel
theorem dX8_inserts_27 : decode cX8_inserts 27 = .ok (.getfield 49, 3) := by decide +kernel
theorem dX8_inserts_30 : decode cX8_inserts 30 = .ok (.if_icmp .ge 42, 3) := by decide +kernel
theorem dX8_inserts_33 : decode cX8_inserts 33 = .ok (.aload_n 0, 1) := by decide +kernel
theorem dX8_inserts_34 : decode cX8_inserts 34 = .ok (.getfield 7, 3) := by decide +kernel
theorem dX8_inserts_37 : decode cX8_inserts 37 = .ok (.iconst 3, 1) := by decide +kernel
theorem dX8_inserts_38 : decode cX8_inserts 38 = .ok (.dup2, 1) := by decide +kernel
theorem dX8_inserts_39 : decode cX8_inserts 39 = .ok (.iaload, 1) := by decide +kernel
theorem dX8_inserts_40 : decode cX8_inserts 40 = .ok (.iconst 2, 1) := by decide +kernel
theorem dX8_inserts_41 : decode cX8_inserts 41 = .ok (.imul, 1) := by decide +kernel
theorem dX8_inserts_42 : decode cX8_inserts 42 = .ok (.iastore, 1) := by decide +kernel
theorem dX8_inserts_43 : decode cX8_inserts 43 = .ok (.aload_n 0, 1) := by decide +kernel
theorem dX8_inserts_44 : decode cX8_inserts 44 = .ok (.getfield 7, 3) := by decide +kernel
theorem dX8_inserts_47 : decode cX8_inserts 47 = .ok (.iconst 5, 1) := by decide +kernel
theorem dX8_inserts_48 : decode cX8_inserts 48 = .ok (.dup2, 1) := by decide +kernel
theorem dX8_inserts_49 : decode cX8_inserts 49 = .ok (.iaload, 1) := by decide +kernel
theorem dX8_inserts_50 : decode cX8_inserts 50 = .ok (.aload_n 0, 1) := by decide +kernel
theorem dX8_inserts_51 : decode cX8_inserts 51 = .ok (.getfield 7, 3) := by decide +kernel
theorem dX8_inserts_54 : decode cX8_inserts 54 = .ok (.iconst 0, 1) := by decide +kernel
theorem dX8_inserts_55 : decode cX8_inserts 55 = .ok (.iaload, 1) := by decide +kernel
theorem dX8_inserts_56 : decode cX8_inserts 56 = .ok (.iadd, 1) := by decide +kernel
theorem dX8_inserts_57 : decode cX8_inserts 57 = .ok (.iastore, 1) := by decide +kernel
theorem dX8_inserts_58 : decode cX8_inserts 58 = .ok (.aload_n 0, 1) := by decide +kernel
theorem dX8_inserts_59 : decode cX8_inserts 59 = .ok (.getfield 7, 3) := by decide +kernel
theorem dX8_inserts_62 : decode cX8_inserts 62 = .ok (.bipush 6, 2) := by decide +kernel
theorem dX8_inserts_64 : decode cX8_inserts 64 = .ok (.dup2, 1) := by decide +kernel
theorem dX8_inserts_65 : decode cX8_inserts 65 = .ok (.iaload, 1) := by decide +kernel
theorem dX8_inserts_66 : decode cX8_inserts 66 = .ok (.iconst 1, 1) := by decide +kernel
theorem dX8_inserts_67 : decode cX8_inserts 67 = .ok (.iadd, 1) := by decide +kernel
theorem dX8_inserts_68 : decode cX8_inserts 68 = .ok (.iastore, 1) := by decide +kernel
theorem dX8_inserts_69 : decode cX8_inserts 69 = .ok (.goto (-56), 3) := by decide +kernel
theorem dX8_inserts_72 : decode cX8_inserts 72 = .ok (.aload_n 0, 1) := by decide +kernel
theorem dX8_inserts_73 : decode cX8_inserts 73 = .ok (.getfield 7, 3) := by decide +kernel
theorem dX8_inserts_76 : decode cX8_inserts 76 = .ok (.iconst 0, 1) := by decide +kernel
theorem dX8_inserts_77 : decode cX8_inserts 77 = .ok (.iaload, 1) := by decide +kernel
theorem dX8_inserts_78 : decode cX8_inserts 78 = .ok (.iconst 1, 1) := by decide +kernel
theorem dX8_inserts_79 : decode cX8_inserts 79 = .ok (.isub, 1) := by decide +kernel
theorem dX8_inserts_80 : decode cX8_inserts 80 = .ok (.istore_n 2, 1) := by decide +kernel
theorem dX8_inserts_81 : decode cX8_inserts 81 = .ok (.iload_n 2, 1) := by decide +kernel
theorem dX8_inserts_82 : decode cX8_inserts 82 = .ok (.iload_n 1, 1) := by decide +kernel
theorem dX8_inserts_83 : decode cX8_inserts 83 = .ok (.if_icmp .lt 32, 3) := by decide +kernel
theorem dX8_inserts_86 : decode cX8_inserts 86 = .ok (.aload_n 0, 1) := by decide +kernel
theorem dX8_inserts_87 : decode cX8_inserts 87 = .ok (.getfield 7, 3) := by decide +kernel
theorem dX8_inserts_90 : decode cX8_inserts 90 = .ok (.bipush 80, 2) := by decide +kernel
theorem dX8_inserts_92 : decode cX8_inserts 92 = .ok (.iload_n 2, 1) := by decide +kernel
theorem dX8_inserts_93 : decode cX8_inserts 93 = .ok (.iadd, 1) := by decide +kernel
theorem dX8_inserts_94 : decode cX8_inserts 94 = .ok (.aload_n 0, 1) := by decide +kernel
theorem dX8_inserts_95 : decode cX8_inserts 95 = .ok (.getfield 49, 3) := by decide +kernel
theorem dX8_inserts_98 : decode cX8_inserts 98 = .ok (.iadd, 1) := by decide +kernel
theorem dX8_inserts_99 : decode cX8_inserts 99 = .ok (.aload_n 0, 1) := by decide +kernel
theorem dX8_inserts_100 : decode cX8_inserts 100 = .ok (.getfield 7, 3) := by decide +kernel
theorem dX8_inserts_103 : decode cX8_inserts 103 = .ok (.bipush 80, 2) := by decide +kernel
theorem dX8_inserts_105 : decode cX8_inserts 105 = .ok (.iload_n 2, 1) := by decide +kernel
theorem dX8_inserts_106 : decode cX8_inserts 106 = .ok (.iadd, 1) := by decide +kernel
theorem dX8_inserts_107 : decode cX8_inserts 107 = .ok (.iaload, 1) := by decide +kernel
theorem dX8_inserts_108 : decode cX8_inserts 108 = .ok (.iastore, 1) := by decide +kernel
theorem dX8_inserts_109 : decode cX8_inserts 109 = .ok (.iinc 2 (-1), 3) := by decide +kernel
theorem dX8_inserts_112 : decode cX8_inserts 112 = .ok (.goto (-31), 3) := by decide +kernel
theorem dX8_inserts_115 : decode cX8_inserts 115 = .ok (.iconst 0, 1) := by decide +kernel
theorem dX8_inserts_116 : decode cX8_inserts 116 = .ok (.istore_n 2, 1) := by decide +kernel
theorem dX8_inserts_117 : decode cX8_inserts 117 = .ok (.iload_n 2, 1) := by decide +kernel
theorem dX8_inserts_118 : decode cX8_inserts 118 = .ok (.aload_n 0, 1) := by decide +kernel
theorem dX8_inserts_119 : decode cX8_inserts 119 = .ok (.getfield 49, 3) := by decide +kernel
theorem dX8_inserts_122 : decode cX8_inserts 122 = .ok (.if_icmp .ge 26, 3) := by decide +kernel
theorem dX8_inserts_125 : decode cX8_inserts 125 = .ok (.aload_n 0, 1) := by decide +kernel
theorem dX8_inserts_126 : decode cX8_inserts 126 = .ok (.getfield 7, 3) := by decide +kernel
theorem dX8_inserts_129 : decode cX8_inserts 129 = .ok (.bipush 80, 2) := by decide +kernel
theorem dX8_inserts_131 : decode cX8_inserts 131 = .ok (.iload_n 1, 1) := by decide +kernel
theorem dX8_inserts_132 : decode cX8_inserts 132 = .ok (.iadd, 1) := by decide +kernel
theorem dX8_inserts_133 : decode cX8_inserts 133 = .ok (.iload_n 2, 1) := by decide +kernel
theorem dX8_inserts_134 : decode cX8_inserts 134 = .ok (.iadd, 1) := by decide +kernel
theorem dX8_inserts_135 : decode cX8_inserts 135 = .ok (.aload_n 0, 1) := by decide +kernel
theorem dX8_inserts_136 : decode cX8_inserts 136 = .ok (.getfield 22, 3) := by decide +kernel
theorem dX8_inserts_139 : decode cX8_inserts 139 = .ok (.iload_n 2, 1) := by decide +kernel
theorem dX8_inserts_140 : decode cX8_inserts 140 = .ok (.iaload, 1) := by decide +kernel
theorem dX8_inserts_141 : decode cX8_inserts 141 = .ok (.iastore, 1) := by decide +kernel
theorem dX8_inserts_142 : decode cX8_inserts 142 = .ok (.iinc 2 1, 3) := by decide +kernel
theorem dX8_inserts_145 : decode cX8_inserts 145 = .ok (.goto (-28), 3) := by decide +kernel
theorem dX8_inserts_148 : decode cX8_inserts 148 = .ok (.aload_n 0, 1) := by decide +kernel
theorem dX8_inserts_149 : decode cX8_inserts 149 = .ok (.getfield 7, 3) := by decide +kernel
theorem dX8_inserts_152 : decode cX8_inserts 152 = .ok (.iconst 0, 1) := by decide +kernel
theorem dX8_inserts_153 : decode cX8_inserts 153 = .ok (.dup2, 1) := by decide +kernel
theorem dX8_inserts_154 : decode cX8_inserts 154 = .ok (.iaload, 1) := by decide +kernel
theorem dX8_inserts_155 : decode cX8_inserts 155 = .ok (.aload_n 0, 1) := by decide +kernel
theorem dX8_inserts_156 : decode cX8_inserts 156 = .ok (.getfield 49, 3) := by decide +kernel
theorem dX8_inserts_159 : decode cX8_inserts 159 = .ok (.iadd, 1) := by decide +kernel
theorem dX8_inserts_160 : decode cX8_inserts 160 = .ok (.iastore, 1) := by decide +kernel
theorem dX8_inserts_161 : decode cX8_inserts 161 = .ok (.aload_n 0, 1) := by decide +kernel
theorem dX8_inserts_162 : decode cX8_inserts 162 = .ok (.iload_n 1, 1) := by decide +kernel
theorem dX8_inserts_163 : decode cX8_inserts 163 = .ok (.aload_n 0, 1) := by decide +kernel
theorem dX8_inserts_164 : decode cX8_inserts 164 = .ok (.getfield 49, 3) := by decide +kernel
theorem dX8_inserts_167 : decode cX8_inserts 167 = .ok (.invokevirtual 52, 3) := by decide +kernel
theorem dX8_inserts_170 : decode cX8_inserts 170 = .ok (.aload_n 0, 1) := by decide +kernel
theorem dX8_inserts_171 : decode cX8_inserts 171 = .ok (.getfield 7, 3) := by decide +kernel
theorem dX8_inserts_174 : decode cX8_inserts 174 = .ok (.iconst 1, 1) := by decide +kernel
theorem dX8_inserts_175 : decode cX8_inserts 175 = .ok (.iload_n 1, 1) := by decide +kernel
theorem dX8_inserts_176 : decode cX8_inserts 176 = .ok (.aload_n 0, 1) := by decide +kernel
theorem dX8_inserts_177 : decode cX8_inserts 177 = .ok (.getfield 49, 3) := by decide +kernel
theorem dX8_inserts_180 : decode cX8_inserts 180 = .ok (.iadd, 1) := by decide +kernel
theorem dX8_inserts_181 : decode cX8_inserts 181 = .ok (.iastore, 1) := by decide +kernel
theorem dX8_inserts_182 : decode cX8_inserts 182 = .ok (.aload_n 0, 1) := by decide +kernel
theorem dX8_inserts_183 : decode cX8_inserts 183 = .ok (.getfield 7, 3) := by decide +kernel
theorem dX8_inserts_186 : decode cX8_inserts 186 = .ok (.iconst 2, 1) := by decide +kernel
theorem dX8_inserts_187 : decode cX8_inserts 187 = .ok (.aload_n 0, 1) := by decide +kernel
theorem dX8_inserts_188 : decode cX8_inserts 188 = .ok (.getfield 7, 3) := by decide +kernel
theorem dX8_inserts_191 : decode cX8_inserts 191 = .ok (.iconst 1, 1) := by decide +kernel
theorem dX8_inserts_192 : decode cX8_inserts 192 = .ok (.iaload, 1) := by decide +kernel
theorem dX8_inserts_193 : decode cX8_inserts 193 = .ok (.iastore, 1) := by decide +kernel
theorem dX8_inserts_194 : decode cX8_inserts 194 = .ok (.aload_n 0, 1) := by decide +kernel
theorem dX8_inserts_195 : decode cX8_inserts 195 = .ok (.invokevirtual 56, 3) := by decide +kernel
theorem dX8_inserts_198 : decode cX8_inserts 198 = .ok (.return_, 1) := by decide +kernel
theorem dX8_deletes_0 : decode cX8_deletes 0 = .ok (.iload_n 2, 1) := by decide +kernel
theorem dX8_deletes_1 : decode cX8_deletes 1 = .ok (.ifCond .ne 8, 3) := by decide +kernel
theorem dX8_deletes_4 : decode cX8_deletes 4 = .ok (.aload_n 0, 1) := by decide +kernel
theorem dX8_deletes_5 : decode cX8_deletes 5 = .ok (.invokevirtual 56, 3) := by decide +kernel
theorem dX8_deletes_8 : decode cX8_deletes 8 = .ok (.return_, 1) := by decide +kernel
theorem dX8_deletes_9 : decode cX8_deletes 9 = .ok (.aload_n 0, 1) := by decide +kernel
theorem dX8_deletes_10 : decode cX8_deletes 10 = .ok (.aload_n 0, 1) := by decide +kernel
theorem dX8_deletes_11 : decode cX8_deletes 11 = .ok (.getfield 7, 3) := by decide +kernel
theorem dX8_deletes_14 : decode cX8_deletes 14 = .ok (.iconst 1, 1) := by decide +kernel
theorem dX8_deletes_15 : decode cX8_deletes 15 = .ok (.iaload, 1) := by decide +kernel
theorem dX8_deletes_16 : decode cX8_deletes 16 = .ok (.invokevirtual 46, 3) := by decide +kernel
theorem dX8_deletes_19 : decode cX8_deletes 19 = .ok (.pop, 1) := by decide +kernel
theorem dX8_deletes_20 : decode cX8_deletes 20 = .ok (.iload_n 1, 1) := by decide +kernel
theorem dX8_deletes_21 : decode cX8_deletes 21 = .ok (.istore_n 3, 1) := by decide +kernel
theorem dX8_deletes_22 : decode cX8_deletes 22 = .ok (.iload_n 3, 1) := by decide +kernel
theorem dX8_deletes_23 : decode cX8_deletes 23 = .ok (.aload_n 0, 1) := by decide +kernel
theorem dX8_deletes_24 : decode cX8_deletes 24 = .ok (.getfield 7, 3) := by decide +kernel
theorem dX8_deletes_27 : decode cX8_deletes 27 = .ok (.iconst 0, 1) := by decide +kernel
theorem dX8_deletes_28 : decode cX8_deletes 28 = .ok (.iaload, 1) := by decide +kernel
theorem dX8_deletes_29 : decode cX8_deletes 29 = .ok (.iload_n 2, 1) := by decide +kernel
theorem dX8_deletes_30 : decode cX8_deletes 30 = .ok (.isub, 1) := by decide +kernel
theorem dX8_deletes_31 : decode cX8_deletes 31 = .ok (.if_icmp .ge 29, 3) := by decide +kernel
theorem dX8_deletes_34 : decode cX8_deletes 34 = .ok (.aload_n 0, 1) := by decide +kernel
theorem dX8_deletes_35 : decode cX8_deletes 35 = .ok (.getfield 7, 3) := by decide +kernel
theorem dX8_deletes_38 : decode cX8_deletes 38 = .ok (.bipush 80, 2) := by decide +kernel
theorem dX8_deletes_40 : decode cX8_deletes 40 = .ok (.iload_n 3, 1) := by decide +kernel
theorem dX8_deletes_41 : decode cX8_deletes 41 = .ok (.iadd, 1) := by decide +kernel
theorem dX8_deletes_42 : decode cX8_deletes 42 = .ok (.aload_n 0, 1) := by decide +kernel
theorem dX8_deletes_43 : decode cX8_deletes 43 = .ok (.getfield 7, 3) := by decide +kernel
theorem dX8_deletes_46 : decode cX8_deletes 46 = .ok (.bipush 80, 2) := by decide +kernel
theorem dX8_deletes_48 : decode cX8_deletes 48 = .ok (.iload_n 3, 1) := by decide +kernel
theorem dX8_deletes_49 : decode cX8_deletes 49 = .ok (.iadd, 1) := by decide +kernel
theorem dX8_deletes_50 : decode cX8_deletes 50 = .ok (.iload_n 2, 1) := by decide +kernel
theorem dX8_deletes_51 : decode cX8_deletes 51 = .ok (.iadd, 1) := by decide +kernel
theorem dX8_deletes_52 : decode cX8_deletes 52 = .ok (.iaload, 1) := by decide +kernel
theorem dX8_deletes_53 : decode cX8_deletes 53 = .ok (.iastore, 1) := by decide +kernel
theorem dX8_deletes_54 : decode cX8_deletes 54 = .ok (.iinc 3 1, 3) := by decide +kernel
theorem dX8_deletes_57 : decode cX8_deletes 57 = .ok (.goto (-35), 3) := by decide +kernel
theorem dX8_deletes_60 : decode cX8_deletes 60 = .ok (.aload_n 0, 1) := by decide +kernel
theorem dX8_deletes_61 : decode cX8_deletes 61 = .ok (.getfield 7, 3) := by decide +kernel
theorem dX8_deletes_64 : decode cX8_deletes 64 = .ok (.iconst 0, 1) := by decide +kernel
theorem dX8_deletes_65 : decode cX8_deletes 65 = .ok (.dup2, 1) := by decide +kernel
theorem dX8_deletes_66 : decode cX8_deletes 66 = .ok (.iaload, 1) := by decide +kernel
theorem dX8_deletes_67 : decode cX8_deletes 67 = .ok (.iload_n 2, 1) := by decide +kernel
theorem dX8_deletes_68 : decode cX8_deletes 68 = .ok (.isub, 1) := by decide +kernel
theorem dX8_deletes_69 : decode cX8_deletes 69 = .ok (.iastore, 1) := by decide +kernel
theorem dX8_deletes_70 : decode cX8_deletes 70 = .ok (.aload_n 0, 1) := by decide +kernel
theorem dX8_deletes_71 : decode cX8_deletes 71 = .ok (.getfield 7, 3) := by decide +kernel
theorem dX8_deletes_74 : decode cX8_deletes 74 = .ok (.iconst 0, 1) := by decide +kernel
theorem dX8_deletes_75 : decode cX8_deletes 75 = .ok (.iaload, 1) := by decide +kernel
theorem dX8_deletes_76 : decode cX8_deletes 76 = .ok (.istore_n 3, 1) := by decide +kernel
theorem dX8_deletes_77 : decode cX8_deletes 77 = .ok (.iload_n 3, 1) := by decide +kernel
theorem dX8_deletes_78 : decode cX8_deletes 78 = .ok (.aload_n 0, 1) := by decide +kernel
theorem dX8_deletes_79 : decode cX8_deletes 79 = .ok (.getfield 7, 3) := by decide +kernel
theorem dX8_deletes_82 : decode cX8_deletes 82 = .ok (.iconst 0, 1) := by decide +kernel
theorem dX8_deletes_83 : decode cX8_deletes 83 = .ok (.iaload, 1) := by decide +kernel
theorem dX8_deletes_84 : decode cX8_deletes 84 = .ok (.iload_n 2, 1) := by decide +kernel
theorem dX8_deletes_85 : decode cX8_deletes 85 = .ok (.iadd, 1) := by decide +kernel
theorem dX8_deletes_86 : decode cX8_deletes 86 = .ok (.if_icmp .ge 19, 3) := by decide +kernel
theorem dX8_deletes_89 : decode cX8_deletes 89 = .ok (.aload_n 0, 1) := by decide +kernel
theorem dX8_deletes_90 : decode cX8_deletes 90 = .ok (.getfield 7, 3) := by decide +kernel
theorem dX8_deletes_93 : decode cX8_deletes 93 = .ok (.bipush 80, 2) := by decide +kernel
theorem dX8_deletes_95 : decode cX8_deletes 95 = .ok (.iload_n 3, 1) := by decide +kernel
theorem dX8_deletes_96 : decode cX8_deletes 96 = .ok (.iadd, 1) := by decide +kernel
theorem dX8_deletes_97 : decode cX8_deletes 97 = .ok (.iconst 0, 1) := by decide +kernel
theorem dX8_deletes_98 : decode cX8_deletes 98 = .ok (.iastore, 1) := by decide +kernel
theorem dX8_deletes_99 : decode cX8_deletes 99 = .ok (.iinc 3 1, 3) := by decide +kernel
theorem dX8_deletes_102 : decode cX8_deletes 102 = .ok (.goto (-25), 3) := by decide +kernel
theorem dX8_deletes_105 : decode cX8_deletes 105 = .ok (.iconst 0, 1) := by decide +kernel
theorem dX8_deletes_106 : decode cX8_deletes 106 = .ok (.istore_n 3, 1) := by decide +kernel
theorem dX8_deletes_107 : decode cX8_deletes 107 = .ok (.iload_n 3, 1) := by decide +kernel
theorem dX8_deletes_108 : decode cX8_deletes 108 = .ok (.iconst 4, 1) := by decide +kernel
theorem dX8_deletes_109 : decode cX8_deletes 109 = .ok (.if_icmp .ge 60, 3) := by decide +kernel
theorem dX8_deletes_112 : decode cX8_deletes 112 = .ok (.aload_n 0, 1) := by decide +kernel
theorem dX8_deletes_113 : decode cX8_deletes 113 = .ok (.getfield 7, 3) := by decide +kernel
theorem dX8_deletes_116 : decode cX8_deletes 116 = .ok (.bipush 12, 2) := by decide +kernel
theorem dX8_deletes_118 : decode cX8_deletes 118 = .ok (.iload_n 3, 1) := by decide +kernel
theorem dX8_deletes_119 : decode cX8_deletes 119 = .ok (.iadd, 1) := by decide +kernel
theorem dX8_deletes_120 : decode cX8_deletes 120 = .ok (.iaload, 1) := by decide +kernel
theorem dX8_deletes_121 : decode cX8_deletes 121 = .ok (.istore 4, 2) := by decide +kernel
theorem dX8_deletes_123 : decode cX8_deletes 123 = .ok (.iload 4, 2) := by decide +kernel
theorem dX8_deletes_125 : decode cX8_deletes 125 = .ok (.iload_n 2, 1) := by decide +kernel
theorem dX8_deletes_126 : decode cX8_deletes 126 = .ok (.isub, 1) := by decide +kernel
theorem dX8_deletes_127 : decode cX8_deletes 127 = .ok (.iload_n 1, 1) := by decide +kernel
theorem dX8_deletes_128 : decode cX8_deletes 128 = .ok (.if_icmp .le 10, 3) := by decide +kernel
theorem dX8_deletes_131 : decode cX8_deletes 131 = .ok (.iload 4, 2) := by decide +kernel
theorem dX8_deletes_133 : decode cX8_deletes 133 = .ok (.iload_n 2, 1) := by decide +kernel
theorem dX8_deletes_134 : decode cX8_deletes 134 = .ok (.isub, 1) := by decide +kernel
theorem dX8_deletes_135 : decode cX8_deletes 135 = .ok (.goto 4, 3) := by decide +kernel
theorem dX8_deletes_138 : decode cX8_deletes 138 = .ok (.iload_n 1, 1) := by decide +kernel
theorem dX8_deletes_139 : decode cX8_deletes 139 = .ok (.istore 5, 2) := by decide +kernel
theorem dX8_deletes_141 : decode cX8_deletes 141 = .ok (.aload_n 0, 1) := by decide +kernel
theorem dX8_deletes_142 : decode cX8_deletes 142 = .ok (.getfield 7, 3) := by decide +kernel
theorem dX8_deletes_145 : decode cX8_deletes 145 = .ok (.bipush 12, 2) := by decide +kernel
theorem dX8_deletes_147 : decode cX8_deletes 147 = .ok (.iload_n 3, 1) := by decide +kernel
theorem dX8_deletes_148 : decode cX8_deletes 148 = .ok (.iadd, 1) := by decide +kernel
theorem dX8_deletes_149 : decode cX8_deletes 149 = .ok (.iload 4, 2) := by decide +kernel
theorem dX8_deletes_151 : decode cX8_deletes 151 = .ok (.iload_n 1, 1) := by decide +kernel
theorem dX8_deletes_152 : decode cX8_deletes 152 = .ok (.if_icmp .le 8, 3) := by decide +kernel
theorem dX8_deletes_155 : decode cX8_deletes 155 = .ok (.iload 5, 2) := by decide +kernel
theorem dX8_deletes_157 : decode cX8_deletes 157 = .ok (.goto 5, 3) := by decide +kernel
theorem dX8_deletes_160 : decode cX8_deletes 160 = .ok (.iload 4, 2) := by decide +kernel
theorem dX8_deletes_162 : decode cX8_deletes 162 = .ok (.iastore, 1) := by decide +kernel
theorem dX8_deletes_163 : decode cX8_deletes 163 = .ok (.iinc 3 1, 3) := by decide +kernel
theorem dX8_deletes_166 : decode cX8_deletes 166 = .ok (.goto (-59), 3) := by decide +kernel
theorem dX8_deletes_169 : decode cX8_deletes 169 = .ok (.aload_n 0, 1) := by decide +kernel
theorem dX8_deletes_170 : decode cX8_deletes 170 = .ok (.getfield 7, 3) := by decide +kernel
theorem dX8_deletes_173 : decode cX8_deletes 173 = .ok (.iconst 1, 1) := by decide +kernel
theorem dX8_deletes_174 : decode cX8_deletes 174 = .ok (.iload_n 1, 1) := by decide +kernel
theorem dX8_deletes_175 : decode cX8_deletes 175 = .ok (.iastore, 1) := by decide +kernel
theorem dX8_deletes_176 : decode cX8_deletes 176 = .ok (.aload_n 0, 1) := by decide +kernel
theorem dX8_deletes_177 : decode cX8_deletes 177 = .ok (.getfield 7, 3) := by decide +kernel
theorem dX8_deletes_180 : decode cX8_deletes 180 = .ok (.iconst 2, 1) := by decide +kernel
theorem dX8_deletes_181 : decode cX8_deletes 181 = .ok (.iload_n 1, 1) := by decide +kernel
theorem dX8_deletes_182 : decode cX8_deletes 182 = .ok (.iastore, 1) := by decide +kernel
theorem dX8_deletes_183 : decode cX8_deletes 183 = .ok (.aload_n 0, 1) := by decide +kernel
theorem dX8_deletes_184 : decode cX8_deletes 184 = .ok (.getfield 7, 3) := by decide +kernel
theorem dX8_deletes_187 : decode cX8_deletes 187 = .ok (.iconst 3, 1) := by decide +kernel
theorem dX8_deletes_188 : decode cX8_deletes 188 = .ok (.iaload, 1) := by decide +kernel
theorem dX8_deletes_189 : decode cX8_deletes 189 = .ok (.bipush 8, 2) := by decide +kernel
theorem dX8_deletes_191 : decode cX8_deletes 191 = .ok (.if_icmp .le 59, 3) := by decide +kernel
theorem dX8_deletes_194 : decode cX8_deletes 194 = .ok (.iconst 4, 1) := by decide +kernel
theorem dX8_deletes_195 : decode cX8_deletes 195 = .ok (.aload_n 0, 1) := by decide +kernel
theorem dX8_deletes_196 : decode cX8_deletes 196 = .ok (.getfield 7, 3) := by decide +kernel
theorem dX8_deletes_199 : decode cX8_deletes 199 = .ok (.iconst 0, 1) := by decide +kernel
theorem dX8_deletes_200 : decode cX8_deletes 200 = .ok (.iaload, 1) := by decide +kernel
theorem dX8_deletes_201 : decode cX8_deletes 201 = .ok (.imul, 1) := by decide +kernel
theorem dX8_deletes_202 : decode cX8_deletes 202 = .ok (.aload_n 0, 1) := by decide +kernel
theorem dX8_deletes_203 : decode cX8_deletes 203 = .ok (.getfield 7, 3) := by decide +kernel
theorem dX8_deletes_206 : decode cX8_deletes 206 = .ok (.iconst 3, 1) := by decide +kernel
theorem dX8_deletes_207 : decode cX8_deletes 207 = .ok (.iaload, 1) := by decide +kernel
theorem dX8_deletes_208 : decode cX8_deletes 208 = .ok (.if_icmp .gt 42, 3) := by decide +kernel
theorem dX8_deletes_211 : decode cX8_deletes 211 = .ok (.aload_n 0, 1) := by decide +kernel
theorem dX8_deletes_212 : decode cX8_deletes 212 = .ok (.getfield 7, 3) := by decide +kernel
theorem dX8_deletes_215 : decode cX8_deletes 215 = .ok (.iconst 3, 1) := by decide +kernel
theorem dX8_deletes_216 : decode cX8_deletes 216 = .ok (.dup2, 1) := by decide +kernel
theorem dX8_deletes_217 : decode cX8_deletes 217 = .ok (.iaload, 1) := by decide +kernel
theorem dX8_deletes_218 : decode cX8_deletes 218 = .ok (.iconst 2, 1) := by decide +kernel
theorem dX8_deletes_219 : decode cX8_deletes 219 = .ok (.idiv, 1) := by decide +kernel
theorem dX8_deletes_220 : decode cX8_deletes 220 = .ok (.iastore, 1) := by decide +kernel
theorem dX8_deletes_221 : decode cX8_deletes 221 = .ok (.aload_n 0, 1) := by decide +kernel
theorem dX8_deletes_222 : decode cX8_deletes 222 = .ok (.getfield 7, 3) := by decide +kernel
theorem dX8_deletes_225 : decode cX8_deletes 225 = .ok (.iconst 5, 1) := by decide +kernel
theorem dX8_deletes_226 : decode cX8_deletes 226 = .ok (.dup2, 1) := by decide +kernel
theorem dX8_deletes_227 : decode cX8_deletes 227 = .ok (.iaload, 1) := by decide +kernel
theorem dX8_deletes_228 : decode cX8_deletes 228 = .ok (.aload_n 0, 1) := by decide +kernel
theorem dX8_deletes_229 : decode cX8_deletes 229 = .ok (.getfield 7, 3) := by decide +kernel
theorem dX8_deletes_232 : decode cX8_deletes 232 = .ok (.iconst 0, 1) := by decide +kernel
theorem dX8_deletes_233 : decode cX8_deletes 233 = .ok (.iaload, 1) := by decide +kernel
theorem dX8_deletes_234 : decode cX8_deletes 234 = .ok (.iadd, 1) := by decide +kernel
theorem dX8_deletes_235 : decode cX8_deletes 235 = .ok (.iastore, 1) := by decide +kernel
theorem dX8_deletes_236 : decode cX8_deletes 236 = .ok (.aload_n 0, 1) := by decide +kernel
theorem dX8_deletes_237 : decode cX8_deletes 237 = .ok (.getfield 7, 3) := by decide +kernel
theorem dX8_deletes_240 : decode cX8_deletes 240 = .ok (.bipush 7, 2) := by decide +kernel
theorem dX8_deletes_242 : decode cX8_deletes 242 = .ok (.dup2, 1) := by decide +kernel
theorem dX8_deletes_243 : decode cX8_deletes 243 = .ok (.iaload, 1) := by decide +kernel
theorem dX8_deletes_244 : decode cX8_deletes 244 = .ok (.iconst 1, 1) := by decide +kernel
theorem dX8_deletes_245 : decode cX8_deletes 245 = .ok (.iadd, 1) := by decide +kernel
theorem dX8_deletes_246 : decode cX8_deletes 246 = .ok (.iastore, 1) := by decide +kernel
theorem dX8_deletes_247 : decode cX8_deletes 247 = .ok (.goto (-64), 3) := by decide +kernel
theorem dX8_deletes_250 : decode cX8_deletes 250 = .ok (.aload_n 0, 1) := by decide +kernel
theorem dX8_deletes_251 : decode cX8_deletes 251 = .ok (.invokevirtual 56, 3) := by decide +kernel
theorem dX8_deletes_254 : decode cX8_deletes 254 = .ok (.return_, 1) := by decide +kernel
theorem dX8_erases_0 : decode cX8_erases 0 = .ok (.aload_n 0, 1) := by decide +kernel
theorem dX8_erases_1 : decode cX8_erases 1 = .ok (.getfield 7, 3) := by decide +kernel
theorem dX8_erases_4 : decode cX8_erases 4 = .ok (.iconst 0, 1) := by decide +kernel
theorem dX8_erases_5 : decode cX8_erases 5 = .ok (.iaload, 1) := by decide +kernel
theorem dX8_erases_6 : decode cX8_erases 6 = .ok (.aload_n 0, 1) := by decide +kernel
theorem dX8_erases_7 : decode cX8_erases 7 = .ok (.getfield 7, 3) := by decide +kernel
theorem dX8_erases_10 : decode cX8_erases 10 = .ok (.iconst 1, 1) := by decide +kernel
theorem dX8_erases_11 : decode cX8_erases 11 = .ok (.iaload, 1) := by decide +kernel
theorem dX8_erases_12 : decode cX8_erases 12 = .ok (.isub, 1) := by decide +kernel
theorem dX8_erases_13 : decode cX8_erases 13 = .ok (.istore_n 2, 1) := by decide +kernel
theorem dX8_erases_14 : decode cX8_erases 14 = .ok (.iload_n 1, 1) := by decide +kernel
theorem dX8_erases_15 : decode cX8_erases 15 = .ok (.iload_n 2, 1) := by decide +kernel
theorem dX8_erases_16 : decode cX8_erases 16 = .ok (.if_icmp .ge 7, 3) := by decide +kernel
theorem dX8_erases_19 : decode cX8_erases 19 = .ok (.iload_n 1, 1) := by decide +kernel
theorem dX8_erases_20 : decode cX8_erases 20 = .ok (.goto 4, 3) := by decide +kernel
theorem dX8_erases_23 : decode cX8_erases 23 = .ok (.iload_n 2, 1) := by decide +kernel
theorem dX8_erases_24 : decode cX8_erases 24 = .ok (.istore_n 3, 1) := by decide +kernel
theorem dX8_erases_25 : decode cX8_erases 25 = .ok (.aload_n 0, 1) := by decide +kernel
theorem dX8_erases_26 : decode cX8_erases 26 = .ok (.aload_n 0, 1) := by decide +kernel
theorem dX8_erases_27 : decode cX8_erases 27 = .ok (.getfield 7, 3) := by decide +kernel
theorem dX8_erases_30 : decode cX8_erases 30 = .ok (.iconst 1, 1) := by decide +kernel
theorem dX8_erases_31 : decode cX8_erases 31 = .ok (.iaload, 1) := by decide +kernel
theorem dX8_erases_32 : decode cX8_erases 32 = .ok (.iload_n 3, 1) := by decide +kernel
theorem dX8_erases_33 : decode cX8_erases 33 = .ok (.invokevirtual 59, 3) := by decide +kernel
theorem dX8_erases_36 : decode cX8_erases 36 = .ok (.iload_n 3, 1) := by decide +kernel
theorem dX8_erases_37 : decode cX8_erases 37 = .ok (.ireturn, 1) := by decide +kernel
theorem dX8_backs_0 : decode cX8_backs 0 = .ok (.iload_n 1, 1) := by decide +kernel
theorem dX8_backs_1 : decode cX8_backs 1 = .ok (.aload_n 0, 1) := by decide +kernel
theorem dX8_backs_2 : decode cX8_backs 2 = .ok (.getfield 7, 3) := by decide +kernel
theorem dX8_backs_5 : decode cX8_backs 5 = .ok (.iconst 1, 1) := by decide +kernel
theorem dX8_backs_6 : decode cX8_backs 6 = .ok (.iaload, 1) := by decide +kernel
theorem dX8_backs_7 : decode cX8_backs 7 = .ok (.if_icmp .ge 7, 3) := by decide +kernel
theorem dX8_backs_10 : decode cX8_backs 10 = .ok (.iload_n 1, 1) := by decide +kernel
theorem dX8_backs_11 : decode cX8_backs 11 = .ok (.goto 9, 3) := by decide +kernel
theorem dX8_backs_14 : decode cX8_backs 14 = .ok (.aload_n 0, 1) := by decide +kernel
theorem dX8_backs_15 : decode cX8_backs 15 = .ok (.getfield 7, 3) := by decide +kernel
theorem dX8_backs_18 : decode cX8_backs 18 = .ok (.iconst 1, 1) := by decide +kernel
theorem dX8_backs_19 : decode cX8_backs 19 = .ok (.iaload, 1) := by decide +kernel
theorem dX8_backs_20 : decode cX8_backs 20 = .ok (.istore_n 2, 1) := by decide +kernel
theorem dX8_backs_21 : decode cX8_backs 21 = .ok (.aload_n 0, 1) := by decide +kernel
theorem dX8_backs_22 : decode cX8_backs 22 = .ok (.aload_n 0, 1) := by decide +kernel
theorem dX8_backs_23 : decode cX8_backs 23 = .ok (.getfield 7, 3) := by decide +kernel
theorem dX8_backs_26 : decode cX8_backs 26 = .ok (.iconst 1, 1) := by decide +kernel
theorem dX8_backs_27 : decode cX8_backs 27 = .ok (.iaload, 1) := by decide +kernel
theorem dX8_backs_28 : decode cX8_backs 28 = .ok (.iload_n 2, 1) := by decide +kernel
theorem dX8_backs_29 : decode cX8_backs 29 = .ok (.isub, 1) := by decide +kernel
theorem dX8_backs_30 : decode cX8_backs 30 = .ok (.iload_n 2, 1) := by decide +kernel
theorem dX8_backs_31 : decode cX8_backs 31 = .ok (.invokevirtual 59, 3) := by decide +kernel
theorem dX8_backs_34 : decode cX8_backs 34 = .ok (.iload_n 2, 1) := by decide +kernel
theorem dX8_backs_35 : decode cX8_backs 35 = .ok (.ireturn, 1) := by decide +kernel
theorem dX8_fillsBytes_0 : decode cX8_fillsBytes 0 = .ok (.aload_n 0, 1) := by decide +kernel
theorem dX8_fillsBytes_1 : decode cX8_fillsBytes 1 = .ok (.iload_n 2, 1) := by decide +kernel
theorem dX8_fillsBytes_2 : decode cX8_fillsBytes 2 = .ok (.putfield 49, 3) := by decide +kernel
theorem dX8_fillsBytes_5 : decode cX8_fillsBytes 5 = .ok (.iconst 0, 1) := by decide +kernel
theorem dX8_fillsBytes_6 : decode cX8_fillsBytes 6 = .ok (.istore_n 3, 1) := by decide +kernel
theorem dX8_fillsBytes_7 : decode cX8_fillsBytes 7 = .ok (.iload_n 3, 1) := by decide +kernel
theorem dX8_fillsBytes_8 : decode cX8_fillsBytes 8 = .ok (.iload_n 2, 1) := by decide +kernel
theorem dX8_fillsBytes_9 : decode cX8_fillsBytes 9 = .ok (.if_icmp .ge 16, 3) := by decide +kernel
theorem dX8_fillsBytes_12 : decode cX8_fillsBytes 12 = .ok (.aload_n 0, 1) := by decide +kernel
theorem dX8_fillsBytes_13 : decode cX8_fillsBytes 13 = .ok (.getfield 22, 3) := by decide +kernel
theorem dX8_fillsBytes_16 : decode cX8_fillsBytes 16 = .ok (.iload_n 3, 1) := by decide +kernel
theorem dX8_fillsBytes_17 : decode cX8_fillsBytes 17 = .ok (.iload_n 1, 1) := by decide +kernel
theorem dX8_fillsBytes_18 : decode cX8_fillsBytes 18 = .ok (.iastore, 1) := by decide +kernel
theorem dX8_fillsBytes_19 : decode cX8_fillsBytes 19 = .ok (.iinc 3 1, 3) := by decide +kernel
theorem dX8_fillsBytes_22 : decode cX8_fillsBytes 22 = .ok (.goto (-15), 3) := by decide +kernel
theorem dX8_fillsBytes_25 : decode cX8_fillsBytes 25 = .ok (.return_, 1) := by decide +kernel
theorem dX8_hasRoom_0 : decode cX8_hasRoom 0 = .ok (.aload_n 0, 1) := by decide +kernel
theorem dX8_hasRoom_1 : decode cX8_hasRoom 1 = .ok (.getfield 7, 3) := by decide +kernel
theorem dX8_hasRoom_4 : decode cX8_hasRoom 4 = .ok (.iconst 0, 1) := by decide +kernel
theorem dX8_hasRoom_5 : decode cX8_hasRoom 5 = .ok (.iaload, 1) := by decide +kernel
theorem dX8_hasRoom_6 : decode cX8_hasRoom 6 = .ok (.iload_n 1, 1) := by decide +kernel
theorem dX8_hasRoom_7 : decode cX8_hasRoom 7 = .ok (.iadd, 1) := by decide +kernel
theorem dX8_hasRoom_8 : decode cX8_hasRoom 8 = .ok (.sipush 256, 3) := by decide +kernel
theorem dX8_hasRoom_11 : decode cX8_hasRoom 11 = .ok (.if_icmp .gt 7, 3) := by decide +kernel
theorem dX8_hasRoom_14 : decode cX8_hasRoom 14 = .ok (.iconst 1, 1) := by decide +kernel
theorem dX8_hasRoom_15 : decode cX8_hasRoom 15 = .ok (.goto 4, 3) := by decide +kernel
theorem dX8_hasRoom_18 : decode cX8_hasRoom 18 = .ok (.iconst 0, 1) := by decide +kernel
theorem dX8_hasRoom_19 : decode cX8_hasRoom 19 = .ok (.ireturn, 1) := by decide +kernel
theorem dX8_type_0 : decode cX8_type 0 = .ok (.aload_n 0, 1) := by decide +kernel
theorem dX8_type_1 : decode cX8_type 1 = .ok (.iconst 0, 1) := by decide +kernel
theorem dX8_type_2 : decode cX8_type 2 = .ok (.putfield 25, 3) := by decide +kernel
theorem dX8_type_5 : decode cX8_type 5 = .ok (.iload_n 1, 1) := by decide +kernel
theorem dX8_type_6 : decode cX8_type 6 = .ok (.invokestatic 62, 3) := by decide +kernel
theorem dX8_type_9 : decode cX8_type 9 = .ok (.ifCond .ne 9, 3) := by decide +kernel
theorem dX8_type_12 : decode cX8_type 12 = .ok (.aload_n 0, 1) := by decide +kernel
theorem dX8_type_13 : decode cX8_type 13 = .ok (.iconst 1, 1) := by decide +kernel
theorem dX8_type_14 : decode cX8_type 14 = .ok (.invokevirtual 66, 3) := by decide +kernel
theorem dX8_type_17 : decode cX8_type 17 = .ok (.ireturn, 1) := by decide +kernel
theorem dX8_type_18 : decode cX8_type 18 = .ok (.aload_n 0, 1) := by decide +kernel
theorem dX8_type_19 : decode cX8_type 19 = .ok (.iconst 1, 1) := by decide +kernel
theorem dX8_type_20 : decode cX8_type 20 = .ok (.invokevirtual 69, 3) := by decide +kernel
theorem dX8_type_23 : decode cX8_type 23 = .ok (.ifCond .ne 9, 3) := by decide +kernel
theorem dX8_type_26 : decode cX8_type 26 = .ok (.aload_n 0, 1) := by decide +kernel
theorem dX8_type_27 : decode cX8_type 27 = .ok (.iconst 2, 1) := by decide +kernel
theorem dX8_type_28 : decode cX8_type 28 = .ok (.invokevirtual 66, 3) := by decide +kernel
theorem dX8_type_31 : decode cX8_type 31 = .ok (.ireturn, 1) := by decide +kernel
theorem dX8_type_32 : decode cX8_type 32 = .ok (.aload_n 0, 1) := by decide +kernel
theorem dX8_type_33 : decode cX8_type 33 = .ok (.invokevirtual 72, 3) := by decide +kernel
theorem dX8_type_36 : decode cX8_type 36 = .ok (.aload_n 0, 1) := by decide +kernel
theorem dX8_type_37 : decode cX8_type 37 = .ok (.iload_n 1, 1) := by decide +kernel
theorem dX8_type_38 : decode cX8_type 38 = .ok (.iconst 1, 1) := by decide +kernel
theorem dX8_type_39 : decode cX8_type 39 = .ok (.invokevirtual 75, 3) := by decide +kernel
theorem dX8_type_42 : decode cX8_type 42 = .ok (.aload_n 0, 1) := by decide +kernel
theorem dX8_type_43 : decode cX8_type 43 = .ok (.invokevirtual 78, 3) := by decide +kernel
theorem dX8_type_46 : decode cX8_type 46 = .ok (.aload_n 0, 1) := by decide +kernel
theorem dX8_type_47 : decode cX8_type 47 = .ok (.getfield 7, 3) := by decide +kernel
theorem dX8_type_50 : decode cX8_type 50 = .ok (.iconst 0, 1) := by decide +kernel
theorem dX8_type_51 : decode cX8_type 51 = .ok (.iaload, 1) := by decide +kernel
theorem dX8_type_52 : decode cX8_type 52 = .ok (.ireturn, 1) := by decide +kernel
theorem dX8_fill_0 : decode cX8_fill 0 = .ok (.aload_n 0, 1) := by decide +kernel
theorem dX8_fill_1 : decode cX8_fill 1 = .ok (.iconst 0, 1) := by decide +kernel
theorem dX8_fill_2 : decode cX8_fill 2 = .ok (.putfield 25, 3) := by decide +kernel
theorem dX8_fill_5 : decode cX8_fill 5 = .ok (.iload_n 1, 1) := by decide +kernel
theorem dX8_fill_6 : decode cX8_fill 6 = .ok (.invokestatic 62, 3) := by decide +kernel
theorem dX8_fill_9 : decode cX8_fill 9 = .ok (.ifCond .eq 13, 3) := by decide +kernel
theorem dX8_fill_12 : decode cX8_fill 12 = .ok (.iload_n 2, 1) := by decide +kernel
theorem dX8_fill_13 : decode cX8_fill 13 = .ok (.iconst 1, 1) := by decide +kernel
theorem dX8_fill_14 : decode cX8_fill 14 = .ok (.bipush 100, 2) := by decide +kernel
theorem dX8_fill_16 : decode cX8_fill 16 = .ok (.invokestatic 29, 3) := by decide +kernel
theorem dX8_fill_19 : decode cX8_fill 19 = .ok (.ifCond .ne 9, 3) := by decide +kernel
theorem dX8_fill_22 : decode cX8_fill 22 = .ok (.aload_n 0, 1) := by decide +kernel
theorem dX8_fill_23 : decode cX8_fill 23 = .ok (.iconst 1, 1) := by decide +kernel
theorem dX8_fill_24 : decode cX8_fill 24 = .ok (.invokevirtual 66, 3) := by decide +kernel
theorem dX8_fill_27 : decode cX8_fill 27 = .ok (.ireturn, 1) := by decide +kernel
theorem dX8_fill_28 : decode cX8_fill 28 = .ok (.aload_n 0, 1) := by decide +kernel
theorem dX8_fill_29 : decode cX8_fill 29 = .ok (.iload_n 2, 1) := by decide +kernel
theorem dX8_fill_30 : decode cX8_fill 30 = .ok (.invokevirtual 69, 3) := by decide +kernel
theorem dX8_fill_33 : decode cX8_fill 33 = .ok (.ifCond .ne 9, 3) := by decide +kernel
theorem dX8_fill_36 : decode cX8_fill 36 = .ok (.aload_n 0, 1) := by decide +kernel
theorem dX8_fill_37 : decode cX8_fill 37 = .ok (.iconst 2, 1) := by decide +kernel
theorem dX8_fill_38 : decode cX8_fill 38 = .ok (.invokevirtual 66, 3) := by decide +kernel
theorem dX8_fill_41 : decode cX8_fill 41 = .ok (.ireturn, 1) := by decide +kernel
theorem dX8_fill_42 : decode cX8_fill 42 = .ok (.aload_n 0, 1) := by decide +kernel
theorem dX8_fill_43 : decode cX8_fill 43 = .ok (.invokevirtual 72, 3) := by decide +kernel
theorem dX8_fill_46 : decode cX8_fill 46 = .ok (.aload_n 0, 1) := by decide +kernel
theorem dX8_fill_47 : decode cX8_fill 47 = .ok (.iload_n 1, 1) := by decide +kernel
theorem dX8_fill_48 : decode cX8_fill 48 = .ok (.iload_n 2, 1) := by decide +kernel
theorem dX8_fill_49 : decode cX8_fill 49 = .ok (.invokevirtual 75, 3) := by decide +kernel
theorem dX8_fill_52 : decode cX8_fill 52 = .ok (.aload_n 0, 1) := by decide +kernel
theorem dX8_fill_53 : decode cX8_fill 53 = .ok (.invokevirtual 78, 3) := by decide +kernel
theorem dX8_fill_56 : decode cX8_fill 56 = .ok (.aload_n 0, 1) := by decide +kernel
theorem dX8_fill_57 : decode cX8_fill 57 = .ok (.getfield 7, 3) := by decide +kernel
theorem dX8_fill_60 : decode cX8_fill 60 = .ok (.iconst 0, 1) := by decide +kernel
theorem dX8_fill_61 : decode cX8_fill 61 = .ok (.iaload, 1) := by decide +kernel
theorem dX8_fill_62 : decode cX8_fill 62 = .ok (.ireturn, 1) := by decide +kernel
theorem dX8_erase_0 : decode cX8_erase 0 = .ok (.aload_n 0, 1) := by decide +kernel
theorem dX8_erase_1 : decode cX8_erase 1 = .ok (.iconst 0, 1) := by decide +kernel
theorem dX8_erase_2 : decode cX8_erase 2 = .ok (.putfield 25, 3) := by decide +kernel
theorem dX8_erase_5 : decode cX8_erase 5 = .ok (.iload_n 1, 1) := by decide +kernel
theorem dX8_erase_6 : decode cX8_erase 6 = .ok (.iconst 1, 1) := by decide +kernel
theorem dX8_erase_7 : decode cX8_erase 7 = .ok (.bipush 100, 2) := by decide +kernel
theorem dX8_erase_9 : decode cX8_erase 9 = .ok (.invokestatic 29, 3) := by decide +kernel
theorem dX8_erase_12 : decode cX8_erase 12 = .ok (.ifCond .ne 9, 3) := by decide +kernel
theorem dX8_erase_15 : decode cX8_erase 15 = .ok (.aload_n 0, 1) := by decide +kernel
theorem dX8_erase_16 : decode cX8_erase 16 = .ok (.iconst 1, 1) := by decide +kernel
theorem dX8_erase_17 : decode cX8_erase 17 = .ok (.invokevirtual 66, 3) := by decide +kernel
theorem dX8_erase_20 : decode cX8_erase 20 = .ok (.ireturn, 1) := by decide +kernel
theorem dX8_erase_21 : decode cX8_erase 21 = .ok (.aload_n 0, 1) := by decide +kernel
theorem dX8_erase_22 : decode cX8_erase 22 = .ok (.invokevirtual 72, 3) := by decide +kernel
theorem dX8_erase_25 : decode cX8_erase 25 = .ok (.aload_n 0, 1) := by decide +kernel
theorem dX8_erase_26 : decode cX8_erase 26 = .ok (.iload_n 1, 1) := by decide +kernel
theorem dX8_erase_27 : decode cX8_erase 27 = .ok (.invokevirtual 81, 3) := by decide +kernel
theorem dX8_erase_30 : decode cX8_erase 30 = .ok (.ireturn, 1) := by decide +kernel
theorem dX8_backspace_0 : decode cX8_backspace 0 = .ok (.aload_n 0, 1) := by decide +kernel
theorem dX8_backspace_1 : decode cX8_backspace 1 = .ok (.iconst 0, 1) := by decide +kernel
theorem dX8_backspace_2 : decode cX8_backspace 2 = .ok (.putfield 25, 3) := by decide +kernel
theorem dX8_backspace_5 : decode cX8_backspace 5 = .ok (.iload_n 1, 1) := by decide +kernel
theorem dX8_backspace_6 : decode cX8_backspace 6 = .ok (.iconst 1, 1) := by decide +kernel
theorem dX8_backspace_7 : decode cX8_backspace 7 = .ok (.bipush 100, 2) := by decide +kernel
theorem dX8_backspace_9 : decode cX8_backspace 9 = .ok (.invokestatic 29, 3) := by decide +kernel
theorem dX8_backspace_12 : decode cX8_backspace 12 = .ok (.ifCond .ne 9, 3) := by decide +kernel
theorem dX8_backspace_15 : decode cX8_backspace 15 = .ok (.aload_n 0, 1) := by decide +kernel
theorem dX8_backspace_16 : decode cX8_backspace 16 = .ok (.iconst 1, 1) := by decide +kernel
theorem dX8_backspace_17 : decode cX8_backspace 17 = .ok (.invokevirtual 66, 3) := by decide +kernel
theorem dX8_backspace_20 : decode cX8_backspace 20 = .ok (.ireturn, 1) := by decide +kernel
theorem dX8_backspace_21 : decode cX8_backspace 21 = .ok (.aload_n 0, 1) := by decide +kernel
theorem dX8_backspace_22 : decode cX8_backspace 22 = .ok (.invokevirtual 72, 3) := by decide +kernel
theorem dX8_backspace_25 : decode cX8_backspace 25 = .ok (.aload_n 0, 1) := by decide +kernel
theorem dX8_backspace_26 : decode cX8_backspace 26 = .ok (.iload_n 1, 1) := by decide +kernel
theorem dX8_backspace_27 : decode cX8_backspace 27 = .ok (.invokevirtual 84, 3) := by decide +kernel
theorem dX8_backspace_30 : decode cX8_backspace 30 = .ok (.ireturn, 1) := by decide +kernel
theorem dX8_moves_0 : decode cX8_moves 0 = .ok (.aload_n 0, 1) := by decide +kernel
theorem dX8_moves_1 : decode cX8_moves 1 = .ok (.getfield 7, 3) := by decide +kernel
theorem dX8_moves_4 : decode cX8_moves 4 = .ok (.iconst 1, 1) := by decide +kernel
theorem dX8_moves_5 : decode cX8_moves 5 = .ok (.iload_n 1, 1) := by decide +kernel
theorem dX8_moves_6 : decode cX8_moves 6 = .ok (.iastore, 1) := by decide +kernel
theorem dX8_moves_7 : decode cX8_moves 7 = .ok (.aload_n 0, 1) := by decide +kernel
theorem dX8_moves_8 : decode cX8_moves 8 = .ok (.getfield 7, 3) := by decide +kernel
theorem dX8_moves_11 : decode cX8_moves 11 = .ok (.bipush 9, 2) := by decide +kernel
theorem dX8_moves_13 : decode cX8_moves 13 = .ok (.iaload, 1) := by decide +kernel
theorem dX8_moves_14 : decode cX8_moves 14 = .ok (.iconst 1, 1) := by decide +kernel
theorem dX8_moves_15 : decode cX8_moves 15 = .ok (.if_icmp .ne 11, 3) := by decide +kernel
theorem dX8_moves_18 : decode cX8_moves 18 = .ok (.aload_n 0, 1) := by decide +kernel
theorem dX8_moves_19 : decode cX8_moves 19 = .ok (.iload_n 1, 1) := by decide +kernel
theorem dX8_moves_20 : decode cX8_moves 20 = .ok (.invokevirtual 46, 3) := by decide +kernel
theorem dX8_moves_23 : decode cX8_moves 23 = .ok (.goto 4, 3) := by decide +kernel
theorem dX8_moves_26 : decode cX8_moves 26 = .ok (.iconst 0, 1) := by decide +kernel
theorem dX8_moves_27 : decode cX8_moves 27 = .ok (.ireturn, 1) := by decide +kernel
theorem dX8_movesAnew_0 : decode cX8_movesAnew 0 = .ok (.aload_n 0, 1) := by decide +kernel
theorem dX8_movesAnew_1 : decode cX8_movesAnew 1 = .ok (.iload_n 1, 1) := by decide +kernel
theorem dX8_movesAnew_2 : decode cX8_movesAnew 2 = .ok (.invokevirtual 87, 3) := by decide +kernel
theorem dX8_movesAnew_5 : decode cX8_movesAnew 5 = .ok (.istore_n 2, 1) := by decide +kernel
theorem dX8_movesAnew_6 : decode cX8_movesAnew 6 = .ok (.aload_n 0, 1) := by decide +kernel
theorem dX8_movesAnew_7 : decode cX8_movesAnew 7 = .ok (.invokevirtual 56, 3) := by decide +kernel
theorem dX8_movesAnew_10 : decode cX8_movesAnew 10 = .ok (.iload_n 2, 1) := by decide +kernel
theorem dX8_movesAnew_11 : decode cX8_movesAnew 11 = .ok (.ireturn, 1) := by decide +kernel
theorem dX8_moveTo_0 : decode cX8_moveTo 0 = .ok (.aload_n 0, 1) := by decide +kernel
theorem dX8_moveTo_1 : decode cX8_moveTo 1 = .ok (.iconst 0, 1) := by decide +kernel
theorem dX8_moveTo_2 : decode cX8_moveTo 2 = .ok (.putfield 25, 3) := by decide +kernel
theorem dX8_moveTo_5 : decode cX8_moveTo 5 = .ok (.aload_n 0, 1) := by decide +kernel
theorem dX8_moveTo_6 : decode cX8_moveTo 6 = .ok (.iload_n 1, 1) := by decide +kernel
theorem dX8_moveTo_7 : decode cX8_moveTo 7 = .ok (.invokevirtual 90, 3) := by decide +kernel
theorem dX8_moveTo_10 : decode cX8_moveTo 10 = .ok (.ifCond .ne 9, 3) := by decide +kernel
theorem dX8_moveTo_13 : decode cX8_moveTo 13 = .ok (.aload_n 0, 1) := by decide +kernel
theorem dX8_moveTo_14 : decode cX8_moveTo 14 = .ok (.iconst 1, 1) := by decide +kernel
theorem dX8_moveTo_15 : decode cX8_moveTo 15 = .ok (.invokevirtual 66, 3) := by decide +kernel
theorem dX8_moveTo_18 : decode cX8_moveTo 18 = .ok (.ireturn, 1) := by decide +kernel
theorem dX8_moveTo_19 : decode cX8_moveTo 19 = .ok (.aload_n 0, 1) := by decide +kernel
theorem dX8_moveTo_20 : decode cX8_moveTo 20 = .ok (.invokevirtual 72, 3) := by decide +kernel
theorem dX8_moveTo_23 : decode cX8_moveTo 23 = .ok (.aload_n 0, 1) := by decide +kernel
theorem dX8_moveTo_24 : decode cX8_moveTo 24 = .ok (.iload_n 1, 1) := by decide +kernel
theorem dX8_moveTo_25 : decode cX8_moveTo 25 = .ok (.invokevirtual 93, 3) := by decide +kernel
theorem dX8_moveTo_28 : decode cX8_moveTo 28 = .ok (.ireturn, 1) := by decide +kernel
theorem dX8_moveBy_0 : decode cX8_moveBy 0 = .ok (.aload_n 0, 1) := by decide +kernel
theorem dX8_moveBy_1 : decode cX8_moveBy 1 = .ok (.iconst 0, 1) := by decide +kernel
theorem dX8_moveBy_2 : decode cX8_moveBy 2 = .ok (.putfield 25, 3) := by decide +kernel
theorem dX8_moveBy_5 : decode cX8_moveBy 5 = .ok (.iload_n 1, 1) := by decide +kernel
theorem dX8_moveBy_6 : decode cX8_moveBy 6 = .ok (.bipush (-100), 2) := by decide +kernel
theorem dX8_moveBy_8 : decode cX8_moveBy 8 = .ok (.bipush 100, 2) := by decide +kernel
theorem dX8_moveBy_10 : decode cX8_moveBy 10 = .ok (.invokestatic 29, 3) := by decide +kernel
theorem dX8_moveBy_13 : decode cX8_moveBy 13 = .ok (.ifCond .ne 9, 3) := by decide +kernel
theorem dX8_moveBy_16 : decode cX8_moveBy 16 = .ok (.aload_n 0, 1) := by decide +kernel
theorem dX8_moveBy_17 : decode cX8_moveBy 17 = .ok (.iconst 1, 1) := by decide +kernel
theorem dX8_moveBy_18 : decode cX8_moveBy 18 = .ok (.invokevirtual 66, 3) := by decide +kernel
theorem dX8_moveBy_21 : decode cX8_moveBy 21 = .ok (.ireturn, 1) := by decide +kernel
theorem dX8_moveBy_22 : decode cX8_moveBy 22 = .ok (.aload_n 0, 1) := by decide +kernel
theorem dX8_moveBy_23 : decode cX8_moveBy 23 = .ok (.invokevirtual 72, 3) := by decide +kernel
theorem dX8_moveBy_26 : decode cX8_moveBy 26 = .ok (.aload_n 0, 1) := by decide +kernel
theorem dX8_moveBy_27 : decode cX8_moveBy 27 = .ok (.getfield 7, 3) := by decide +kernel
theorem dX8_moveBy_30 : decode cX8_moveBy 30 = .ok (.iconst 1, 1) := by decide +kernel
theorem dX8_moveBy_31 : decode cX8_moveBy 31 = .ok (.iaload, 1) := by decide +kernel
theorem dX8_moveBy_32 : decode cX8_moveBy 32 = .ok (.iload_n 1, 1) := by decide +kernel
theorem dX8_moveBy_33 : decode cX8_moveBy 33 = .ok (.iadd, 1) := by decide +kernel
theorem dX8_moveBy_34 : decode cX8_moveBy 34 = .ok (.istore_n 2, 1) := by decide +kernel
theorem dX8_moveBy_35 : decode cX8_moveBy 35 = .ok (.aload_n 0, 1) := by decide +kernel
theorem dX8_moveBy_36 : decode cX8_moveBy 36 = .ok (.iload_n 2, 1) := by decide +kernel
theorem dX8_moveBy_37 : decode cX8_moveBy 37 = .ok (.ifCond .ge 7, 3) := by decide +kernel
theorem dX8_moveBy_40 : decode cX8_moveBy 40 = .ok (.iconst 0, 1) := by decide +kernel
theorem dX8_moveBy_41 : decode cX8_moveBy 41 = .ok (.goto 23, 3) := by decide +kernel
theorem dX8_moveBy_44 : decode cX8_moveBy 44 = .ok (.iload_n 2, 1) := by decide +kernel
theorem dX8_moveBy_45 : decode cX8_moveBy 45 = .ok (.aload_n 0, 1) := by decide +kernel
theorem dX8_moveBy_46 : decode cX8_moveBy 46 = .ok (.getfield 7, 3) := by decide +kernel
theorem dX8_moveBy_49 : decode cX8_moveBy 49 = .ok (.iconst 0, 1) := by decide +kernel
theorem dX8_moveBy_50 : decode cX8_moveBy 50 = .ok (.iaload, 1) := by decide +kernel
theorem dX8_moveBy_51 : decode cX8_moveBy 51 = .ok (.if_icmp .le 12, 3) := by decide +kernel
theorem dX8_moveBy_54 : decode cX8_moveBy 54 = .ok (.aload_n 0, 1) := by decide +kernel
theorem dX8_moveBy_55 : decode cX8_moveBy 55 = .ok (.getfield 7, 3) := by decide +kernel
theorem dX8_moveBy_58 : decode cX8_moveBy 58 = .ok (.iconst 0, 1) := by decide +kernel
theorem dX8_moveBy_59 : decode cX8_moveBy 59 = .ok (.iaload, 1) := by decide +kernel
theorem dX8_moveBy_60 : decode cX8_moveBy 60 = .ok (.goto 4, 3) := by decide +kernel
theorem dX8_moveBy_63 : decode cX8_moveBy 63 = .ok (.iload_n 2, 1) := by decide +kernel
theorem dX8_moveBy_64 : decode cX8_moveBy 64 = .ok (.invokevirtual 93, 3) := by decide +kernel
theorem dX8_moveBy_67 : decode cX8_moveBy 67 = .ok (.pop, 1) := by decide +kernel
theorem dX8_moveBy_68 : decode cX8_moveBy 68 = .ok (.aload_n 0, 1) := by decide +kernel
theorem dX8_moveBy_69 : decode cX8_moveBy 69 = .ok (.getfield 7, 3) := by decide +kernel
theorem dX8_moveBy_72 : decode cX8_moveBy 72 = .ok (.iconst 1, 1) := by decide +kernel
theorem dX8_moveBy_73 : decode cX8_moveBy 73 = .ok (.iaload, 1) := by decide +kernel
theorem dX8_moveBy_74 : decode cX8_moveBy 74 = .ok (.ireturn, 1) := by decide +kernel
theorem dX8_goalFrom_0 : decode cX8_goalFrom 0 = .ok (.aload_n 0, 1) := by decide +kernel
theorem dX8_goalFrom_1 : decode cX8_goalFrom 1 = .ok (.iload_n 1, 1) := by decide +kernel
theorem dX8_goalFrom_2 : decode cX8_goalFrom 2 = .ok (.invokevirtual 96, 3) := by decide +kernel
theorem dX8_goalFrom_5 : decode cX8_goalFrom 5 = .ok (.istore_n 2, 1) := by decide +kernel
theorem dX8_goalFrom_6 : decode cX8_goalFrom 6 = .ok (.iload_n 1, 1) := by decide +kernel
theorem dX8_goalFrom_7 : decode cX8_goalFrom 7 = .ok (.aload_n 0, 1) := by decide +kernel
theorem dX8_goalFrom_8 : decode cX8_goalFrom 8 = .ok (.getfield 7, 3) := by decide +kernel
theorem dX8_goalFrom_11 : decode cX8_goalFrom 11 = .ok (.bipush 8, 2) := by decide +kernel
theorem dX8_goalFrom_13 : decode cX8_goalFrom 13 = .ok (.iaload, 1) := by decide +kernel
theorem dX8_goalFrom_14 : decode cX8_goalFrom 14 = .ok (.iadd, 1) := by decide +kernel
theorem dX8_goalFrom_15 : decode cX8_goalFrom 15 = .ok (.iload_n 2, 1) := by decide +kernel
theorem dX8_goalFrom_16 : decode cX8_goalFrom 16 = .ok (.if_icmp .ge 15, 3) := by decide +kernel
theorem dX8_goalFrom_19 : decode cX8_goalFrom 19 = .ok (.iload_n 1, 1) := by decide +kernel
theorem dX8_goalFrom_20 : decode cX8_goalFrom 20 = .ok (.aload_n 0, 1) := by decide +kernel
theorem dX8_goalFrom_21 : decode cX8_goalFrom 21 = .ok (.getfield 7, 3) := by decide +kernel
theorem dX8_goalFrom_24 : decode cX8_goalFrom 24 = .ok (.bipush 8, 2) := by decide +kernel
theorem dX8_goalFrom_26 : decode cX8_goalFrom 26 = .ok (.iaload, 1) := by decide +kernel
theorem dX8_goalFrom_27 : decode cX8_goalFrom 27 = .ok (.iadd, 1) := by decide +kernel
theorem dX8_goalFrom_28 : decode cX8_goalFrom 28 = .ok (.goto 4, 3) := by decide +kernel
theorem dX8_goalFrom_31 : decode cX8_goalFrom 31 = .ok (.iload_n 2, 1) := by decide +kernel
theorem dX8_goalFrom_32 : decode cX8_goalFrom 32 = .ok (.ireturn, 1) := by decide +kernel
theorem dX8_up_0 : decode cX8_up 0 = .ok (.aload_n 0, 1) := by decide +kernel
theorem dX8_up_1 : decode cX8_up 1 = .ok (.iconst 0, 1) := by decide +kernel
theorem dX8_up_2 : decode cX8_up 2 = .ok (.putfield 25, 3) := by decide +kernel
theorem dX8_up_5 : decode cX8_up 5 = .ok (.aload_n 0, 1) := by decide +kernel
theorem dX8_up_6 : decode cX8_up 6 = .ok (.invokevirtual 72, 3) := by decide +kernel
theorem dX8_up_9 : decode cX8_up 9 = .ok (.aload_n 0, 1) := by decide +kernel
theorem dX8_up_10 : decode cX8_up 10 = .ok (.aload_n 0, 1) := by decide +kernel
theorem dX8_up_11 : decode cX8_up 11 = .ok (.getfield 7, 3) := by decide +kernel
theorem dX8_up_14 : decode cX8_up 14 = .ok (.iconst 1, 1) := by decide +kernel
theorem dX8_up_15 : decode cX8_up 15 = .ok (.iaload, 1) := by decide +kernel
theorem dX8_up_16 : decode cX8_up 16 = .ok (.invokevirtual 36, 3) := by decide +kernel
theorem dX8_up_19 : decode cX8_up 19 = .ok (.istore_n 1, 1) := by decide +kernel
theorem dX8_up_20 : decode cX8_up 20 = .ok (.iload_n 1, 1) := by decide +kernel
theorem dX8_up_21 : decode cX8_up 21 = .ok (.ifCond .le 19, 3) := by decide +kernel
theorem dX8_up_24 : decode cX8_up 24 = .ok (.aload_n 0, 1) := by decide +kernel
theorem dX8_up_25 : decode cX8_up 25 = .ok (.aload_n 0, 1) := by decide +kernel
theorem dX8_up_26 : decode cX8_up 26 = .ok (.aload_n 0, 1) := by decide +kernel
theorem dX8_up_27 : decode cX8_up 27 = .ok (.iload_n 1, 1) := by decide +kernel
theorem dX8_up_28 : decode cX8_up 28 = .ok (.iconst 1, 1) := by decide +kernel
theorem dX8_up_29 : decode cX8_up 29 = .ok (.isub, 1) := by decide +kernel
theorem dX8_up_30 : decode cX8_up 30 = .ok (.invokevirtual 36, 3) := by decide +kernel
theorem dX8_up_33 : decode cX8_up 33 = .ok (.invokevirtual 99, 3) := by decide +kernel
theorem dX8_up_36 : decode cX8_up 36 = .ok (.invokevirtual 87, 3) := by decide +kernel
theorem dX8_up_39 : decode cX8_up 39 = .ok (.pop, 1) := by decide +kernel
theorem dX8_up_40 : decode cX8_up 40 = .ok (.aload_n 0, 1) := by decide +kernel
theorem dX8_up_41 : decode cX8_up 41 = .ok (.getfield 7, 3) := by decide +kernel
theorem dX8_up_44 : decode cX8_up 44 = .ok (.iconst 1, 1) := by decide +kernel
theorem dX8_up_45 : decode cX8_up 45 = .ok (.iaload, 1) := by decide +kernel
theorem dX8_up_46 : decode cX8_up 46 = .ok (.ireturn, 1) := by decide +kernel
theorem dX8_down_0 : decode cX8_down 0 = .ok (.aload_n 0, 1) := by decide +kernel
theorem dX8_down_1 : decode cX8_down 1 = .ok (.iconst 0, 1) := by decide +kernel
theorem dX8_down_2 : decode cX8_down 2 = .ok (.putfield 25, 3) := by decide +kernel
theorem dX8_down_5 : decode cX8_down 5 = .ok (.aload_n 0, 1) := by decide +kernel
theorem dX8_down_6 : decode cX8_down 6 = .ok (.invokevirtual 72, 3) := by decide +kernel
theorem dX8_down_9 : decode cX8_down 9 = .ok (.aload_n 0, 1) := by decide +kernel
theorem dX8_down_10 : decode cX8_down 10 = .ok (.aload_n 0, 1) := by decide +kernel
theorem dX8_down_11 : decode cX8_down 11 = .ok (.getfield 7, 3) := by decide +kernel
theorem dX8_down_14 : decode cX8_down 14 = .ok (.iconst 1, 1) := by decide +kernel
theorem dX8_down_15 : decode cX8_down 15 = .ok (.iaload, 1) := by decide +kernel
theorem dX8_down_16 : decode cX8_down 16 = .ok (.invokevirtual 96, 3) := by decide +kernel
theorem dX8_down_19 : decode cX8_down 19 = .ok (.istore_n 1, 1) := by decide +kernel
theorem dX8_down_20 : decode cX8_down 20 = .ok (.iload_n 1, 1) := by decide +kernel
theorem dX8_down_21 : decode cX8_down 21 = .ok (.aload_n 0, 1) := by decide +kernel
theorem dX8_down_22 : decode cX8_down 22 = .ok (.getfield 7, 3) := by decide +kernel
theorem dX8_down_25 : decode cX8_down 25 = .ok (.iconst 0, 1) := by decide +kernel
theorem dX8_down_26 : decode cX8_down 26 = .ok (.iaload, 1) := by decide +kernel
theorem dX8_down_27 : decode cX8_down 27 = .ok (.if_icmp .ge 15, 3) := by decide +kernel
theorem dX8_down_30 : decode cX8_down 30 = .ok (.aload_n 0, 1) := by decide +kernel
theorem dX8_down_31 : decode cX8_down 31 = .ok (.aload_n 0, 1) := by decide +kernel
theorem dX8_down_32 : decode cX8_down 32 = .ok (.iload_n 1, 1) := by decide +kernel
theorem dX8_down_33 : decode cX8_down 33 = .ok (.iconst 1, 1) := by decide +kernel
theorem dX8_down_34 : decode cX8_down 34 = .ok (.iadd, 1) := by decide +kernel
theorem dX8_down_35 : decode cX8_down 35 = .ok (.invokevirtual 99, 3) := by decide +kernel
theorem dX8_down_38 : decode cX8_down 38 = .ok (.invokevirtual 87, 3) := by decide +kernel
theorem dX8_down_41 : decode cX8_down 41 = .ok (.pop, 1) := by decide +kernel
theorem dX8_down_42 : decode cX8_down 42 = .ok (.aload_n 0, 1) := by decide +kernel
theorem dX8_down_43 : decode cX8_down 43 = .ok (.getfield 7, 3) := by decide +kernel
theorem dX8_down_46 : decode cX8_down 46 = .ok (.iconst 1, 1) := by decide +kernel
theorem dX8_down_47 : decode cX8_down 47 = .ok (.iaload, 1) := by decide +kernel
theorem dX8_down_48 : decode cX8_down 48 = .ok (.ireturn, 1) := by decide +kernel
theorem dX8_moveInLine_0 : decode cX8_moveInLine 0 = .ok (.aload_n 0, 1) := by decide +kernel
theorem dX8_moveInLine_1 : decode cX8_moveInLine 1 = .ok (.iconst 0, 1) := by decide +kernel
theorem dX8_moveInLine_2 : decode cX8_moveInLine 2 = .ok (.putfield 25, 3) := by decide +kernel
theorem dX8_moveInLine_5 : decode cX8_moveInLine 5 = .ok (.aload_n 0, 1) := by decide +kernel
theorem dX8_moveInLine_6 : decode cX8_moveInLine 6 = .ok (.invokevirtual 72, 3) := by decide +kernel
theorem dX8_moveInLine_9 : decode cX8_moveInLine 9 = .ok (.aload_n 0, 1) := by decide +kernel
theorem dX8_moveInLine_10 : decode cX8_moveInLine 10 = .ok (.iload_n 1, 1) := by decide +kernel
theorem dX8_moveInLine_11 : decode cX8_moveInLine 11 = .ok (.ifCond .eq 16, 3) := by decide +kernel
theorem dX8_moveInLine_14 : decode cX8_moveInLine 14 = .ok (.aload_n 0, 1) := by decide +kernel
theorem dX8_moveInLine_15 : decode cX8_moveInLine 15 = .ok (.aload_n 0, 1) := by decide +kernel
theorem dX8_moveInLine_16 : decode cX8_moveInLine 16 = .ok (.getfield 7, 3) := by decide +kernel
theorem dX8_moveInLine_19 : decode cX8_moveInLine 19 = .ok (.iconst 1, 1) := by decide +kernel
theorem dX8_moveInLine_20 : decode cX8_moveInLine 20 = .ok (.iaload, 1) := by decide +kernel
theorem dX8_moveInLine_21 : decode cX8_moveInLine 21 = .ok (.invokevirtual 96, 3) := by decide +kernel
theorem dX8_moveInLine_24 : decode cX8_moveInLine 24 = .ok (.goto 13, 3) := by decide +kernel
theorem dX8_moveInLine_27 : decode cX8_moveInLine 27 = .ok (.aload_n 0, 1) := by decide +kernel
theorem dX8_moveInLine_28 : decode cX8_moveInLine 28 = .ok (.aload_n 0, 1) := by decide +kernel
theorem dX8_moveInLine_29 : decode cX8_moveInLine 29 = .ok (.getfield 7, 3) := by decide +kernel
theorem dX8_moveInLine_32 : decode cX8_moveInLine 32 = .ok (.iconst 1, 1) := by decide +kernel
theorem dX8_moveInLine_33 : decode cX8_moveInLine 33 = .ok (.iaload, 1) := by decide +kernel
theorem dX8_moveInLine_34 : decode cX8_moveInLine 34 = .ok (.invokevirtual 36, 3) := by decide +kernel
theorem dX8_moveInLine_37 : decode cX8_moveInLine 37 = .ok (.invokevirtual 93, 3) := by decide +kernel
theorem dX8_moveInLine_40 : decode cX8_moveInLine 40 = .ok (.pop, 1) := by decide +kernel
theorem dX8_moveInLine_41 : decode cX8_moveInLine 41 = .ok (.aload_n 0, 1) := by decide +kernel
theorem dX8_moveInLine_42 : decode cX8_moveInLine 42 = .ok (.getfield 7, 3) := by decide +kernel
theorem dX8_moveInLine_45 : decode cX8_moveInLine 45 = .ok (.iconst 1, 1) := by decide +kernel
theorem dX8_moveInLine_46 : decode cX8_moveInLine 46 = .ok (.iaload, 1) := by decide +kernel
theorem dX8_moveInLine_47 : decode cX8_moveInLine 47 = .ok (.ireturn, 1) := by decide +kernel
theorem dX8_setEager_0 : decode cX8_setEager 0 = .ok (.aload_n 0, 1) := by decide +kernel
theorem dX8_setEager_1 : decode cX8_setEager 1 = .ok (.iconst 0, 1) := by decide +kernel
theorem dX8_setEager_2 : decode cX8_setEager 2 = .ok (.putfield 25, 3) := by decide +kernel
theorem dX8_setEager_5 : decode cX8_setEager 5 = .ok (.aload_n 0, 1) := by decide +kernel
theorem dX8_setEager_6 : decode cX8_setEager 6 = .ok (.invokevirtual 72, 3) := by decide +kernel
theorem dX8_setEager_9 : decode cX8_setEager 9 = .ok (.aload_n 0, 1) := by decide +kernel
theorem dX8_setEager_10 : decode cX8_setEager 10 = .ok (.getfield 7, 3) := by decide +kernel
theorem dX8_setEager_13 : decode cX8_setEager 13 = .ok (.bipush 9, 2) := by decide +kernel
theorem dX8_setEager_15 : decode cX8_setEager 15 = .ok (.iload_n 1, 1) := by decide +kernel
theorem dX8_setEager_16 : decode cX8_setEager 16 = .ok (.ifCond .eq 7, 3) := by decide +kernel
theorem dX8_setEager_19 : decode cX8_setEager 19 = .ok (.iconst 1, 1) := by decide +kernel
theorem dX8_setEager_20 : decode cX8_setEager 20 = .ok (.goto 4, 3) := by decide +kernel
theorem dX8_setEager_23 : decode cX8_setEager 23 = .ok (.iconst 0, 1) := by decide +kernel
theorem dX8_setEager_24 : decode cX8_setEager 24 = .ok (.iastore, 1) := by decide +kernel
theorem dX8_setEager_25 : decode cX8_setEager 25 = .ok (.iload_n 1, 1) := by decide +kernel
theorem dX8_setEager_26 : decode cX8_setEager 26 = .ok (.ifCond .eq 16, 3) := by decide +kernel
theorem dX8_setEager_29 : decode cX8_setEager 29 = .ok (.aload_n 0, 1) := by decide +kernel
theorem dX8_setEager_30 : decode cX8_setEager 30 = .ok (.aload_n 0, 1) := by decide +kernel
theorem dX8_setEager_31 : decode cX8_setEager 31 = .ok (.getfield 7, 3) := by decide +kernel
theorem dX8_setEager_34 : decode cX8_setEager 34 = .ok (.iconst 1, 1) := by decide +kernel
theorem dX8_setEager_35 : decode cX8_setEager 35 = .ok (.iaload, 1) := by decide +kernel
theorem dX8_setEager_36 : decode cX8_setEager 36 = .ok (.invokevirtual 46, 3) := by decide +kernel
theorem dX8_setEager_39 : decode cX8_setEager 39 = .ok (.goto 4, 3) := by decide +kernel
theorem dX8_setEager_42 : decode cX8_setEager 42 = .ok (.iconst 0, 1) := by decide +kernel
theorem dX8_setEager_43 : decode cX8_setEager 43 = .ok (.ireturn, 1) := by decide +kernel
theorem dX8_setMark_0 : decode cX8_setMark 0 = .ok (.aload_n 0, 1) := by decide +kernel
theorem dX8_setMark_1 : decode cX8_setMark 1 = .ok (.iconst 0, 1) := by decide +kernel
theorem dX8_setMark_2 : decode cX8_setMark 2 = .ok (.putfield 25, 3) := by decide +kernel
theorem dX8_setMark_5 : decode cX8_setMark 5 = .ok (.iload_n 1, 1) := by decide +kernel
theorem dX8_setMark_6 : decode cX8_setMark 6 = .ok (.invokestatic 102, 3) := by decide +kernel
theorem dX8_setMark_9 : decode cX8_setMark 9 = .ok (.ifCond .ne 9, 3) := by decide +kernel
theorem dX8_setMark_12 : decode cX8_setMark 12 = .ok (.aload_n 0, 1) := by decide +kernel
theorem dX8_setMark_13 : decode cX8_setMark 13 = .ok (.iconst 1, 1) := by decide +kernel
theorem dX8_setMark_14 : decode cX8_setMark 14 = .ok (.invokevirtual 66, 3) := by decide +kernel
theorem dX8_setMark_17 : decode cX8_setMark 17 = .ok (.ireturn, 1) := by decide +kernel
theorem dX8_setMark_18 : decode cX8_setMark 18 = .ok (.iload_n 2, 1) := by decide +kernel
theorem dX8_setMark_19 : decode cX8_setMark 19 = .ok (.iconst 0, 1) := by decide +kernel
theorem dX8_setMark_20 : decode cX8_setMark 20 = .ok (.iconst 1, 1) := by decide +kernel
theorem dX8_setMark_21 : decode cX8_setMark 21 = .ok (.invokestatic 29, 3) := by decide +kernel
theorem dX8_setMark_24 : decode cX8_setMark 24 = .ok (.ifCond .ne 9, 3) := by decide +kernel
theorem dX8_setMark_27 : decode cX8_setMark 27 = .ok (.aload_n 0, 1) := by decide +kernel
theorem dX8_setMark_28 : decode cX8_setMark 28 = .ok (.iconst 2, 1) := by decide +kernel
theorem dX8_setMark_29 : decode cX8_setMark 29 = .ok (.invokevirtual 66, 3) := by decide +kernel
theorem dX8_setMark_32 : decode cX8_setMark 32 = .ok (.ireturn, 1) := by decide +kernel
theorem dX8_setMark_33 : decode cX8_setMark 33 = .ok (.aload_n 0, 1) := by decide +kernel
theorem dX8_setMark_34 : decode cX8_setMark 34 = .ok (.invokevirtual 72, 3) := by decide +kernel
theorem dX8_setMark_37 : decode cX8_setMark 37 = .ok (.aload_n 0, 1) := by decide +kernel
theorem dX8_setMark_38 : decode cX8_setMark 38 = .ok (.getfield 7, 3) := by decide +kernel
theorem dX8_setMark_41 : decode cX8_setMark 41 = .ok (.bipush 12, 2) := by decide +kernel
theorem dX8_setMark_43 : decode cX8_setMark 43 = .ok (.iload_n 1, 1) := by decide +kernel
theorem dX8_setMark_44 : decode cX8_setMark 44 = .ok (.iadd, 1) := by decide +kernel
theorem dX8_setMark_45 : decode cX8_setMark 45 = .ok (.iaload, 1) := by decide +kernel
theorem dX8_setMark_46 : decode cX8_setMark 46 = .ok (.istore_n 3, 1) := by decide +kernel
theorem dX8_setMark_47 : decode cX8_setMark 47 = .ok (.aload_n 0, 1) := by decide +kernel
theorem dX8_setMark_48 : decode cX8_setMark 48 = .ok (.getfield 7, 3) := by decide +kernel
theorem dX8_setMark_51 : decode cX8_setMark 51 = .ok (.bipush 12, 2) := by decide +kernel
theorem dX8_setMark_53 : decode cX8_setMark 53 = .ok (.iload_n 1, 1) := by decide +kernel
theorem dX8_setMark_54 : decode cX8_setMark 54 = .ok (.iadd, 1) := by decide +kernel
theorem dX8_setMark_55 : decode cX8_setMark 55 = .ok (.aload_n 0, 1) := by decide +kernel
theorem dX8_setMark_56 : decode cX8_setMark 56 = .ok (.getfield 7, 3) := by decide +kernel
theorem dX8_setMark_59 : decode cX8_setMark 59 = .ok (.iconst 1, 1) := by decide +kernel
theorem dX8_setMark_60 : decode cX8_setMark 60 = .ok (.iaload, 1) := by decide +kernel
theorem dX8_setMark_61 : decode cX8_setMark 61 = .ok (.iastore, 1) := by decide +kernel
theorem dX8_setMark_62 : decode cX8_setMark 62 = .ok (.aload_n 0, 1) := by decide +kernel
theorem dX8_setMark_63 : decode cX8_setMark 63 = .ok (.getfield 7, 3) := by decide +kernel
theorem dX8_setMark_66 : decode cX8_setMark 66 = .ok (.bipush 16, 2) := by decide +kernel
theorem dX8_setMark_68 : decode cX8_setMark 68 = .ok (.iload_n 1, 1) := by decide +kernel
theorem dX8_setMark_69 : decode cX8_setMark 69 = .ok (.iadd, 1) := by decide +kernel
theorem dX8_setMark_70 : decode cX8_setMark 70 = .ok (.iload_n 2, 1) := by decide +kernel
theorem dX8_setMark_71 : decode cX8_setMark 71 = .ok (.iastore, 1) := by decide +kernel
theorem dX8_setMark_72 : decode cX8_setMark 72 = .ok (.iload_n 3, 1) := by decide +kernel
theorem dX8_setMark_73 : decode cX8_setMark 73 = .ok (.ireturn, 1) := by decide +kernel
theorem dX8_region_0 : decode cX8_region 0 = .ok (.aload_n 0, 1) := by decide +kernel
theorem dX8_region_1 : decode cX8_region 1 = .ok (.getfield 7, 3) := by decide +kernel
theorem dX8_region_4 : decode cX8_region 4 = .ok (.iconst 1, 1) := by decide +kernel
theorem dX8_region_5 : decode cX8_region 5 = .ok (.iaload, 1) := by decide +kernel
theorem dX8_region_6 : decode cX8_region 6 = .ok (.aload_n 0, 1) := by decide +kernel
theorem dX8_region_7 : decode cX8_region 7 = .ok (.getfield 7, 3) := by decide +kernel
theorem dX8_region_10 : decode cX8_region 10 = .ok (.bipush 12, 2) := by decide +kernel
theorem dX8_region_12 : decode cX8_region 12 = .ok (.iload_n 1, 1) := by decide +kernel
theorem dX8_region_13 : decode cX8_region 13 = .ok (.iadd, 1) := by decide +kernel
theorem dX8_region_14 : decode cX8_region 14 = .ok (.iaload, 1) := by decide +kernel
theorem dX8_region_15 : decode cX8_region 15 = .ok (.isub, 1) := by decide +kernel
theorem dX8_region_16 : decode cX8_region 16 = .ok (.invokestatic 40, 3) := by decide +kernel
theorem dX8_region_19 : decode cX8_region 19 = .ok (.ireturn, 1) := by decide +kernel
theorem dX8_noRegion_0 : decode cX8_noRegion 0 = .ok (.aload_n 0, 1) := by decide +kernel
theorem dX8_noRegion_1 : decode cX8_noRegion 1 = .ok (.getfield 7, 3) := by decide +kernel
theorem dX8_noRegion_4 : decode cX8_noRegion 4 = .ok (.bipush 12, 2) := by decide +kernel
theorem dX8_noRegion_6 : decode cX8_noRegion 6 = .ok (.iload_n 1, 1) := by decide +kernel
theorem dX8_noRegion_7 : decode cX8_noRegion 7 = .ok (.iadd, 1) := by decide +kernel
theorem dX8_noRegion_8 : decode cX8_noRegion 8 = .ok (.iaload, 1) := by decide +kernel
theorem dX8_noRegion_9 : decode cX8_noRegion 9 = .ok (.iconst (-1), 1) := by decide +kernel
theorem dX8_noRegion_10 : decode cX8_noRegion 10 = .ok (.if_icmp .ne 7, 3) := by decide +kernel
theorem dX8_noRegion_13 : decode cX8_noRegion 13 = .ok (.iconst 2, 1) := by decide +kernel
theorem dX8_noRegion_14 : decode cX8_noRegion 14 = .ok (.goto 18, 3) := by decide +kernel
theorem dX8_noRegion_17 : decode cX8_noRegion 17 = .ok (.aload_n 0, 1) := by decide +kernel
theorem dX8_noRegion_18 : decode cX8_noRegion 18 = .ok (.iload_n 1, 1) := by decide +kernel
theorem dX8_noRegion_19 : decode cX8_noRegion 19 = .ok (.invokevirtual 105, 3) := by decide +kernel
theorem dX8_noRegion_22 : decode cX8_noRegion 22 = .ok (.bipush 60, 2) := by decide +kernel
theorem dX8_noRegion_24 : decode cX8_noRegion 24 = .ok (.if_icmp .le 7, 3) := by decide +kernel
theorem dX8_noRegion_27 : decode cX8_noRegion 27 = .ok (.iconst 3, 1) := by decide +kernel
theorem dX8_noRegion_28 : decode cX8_noRegion 28 = .ok (.goto 4, 3) := by decide +kernel
theorem dX8_noRegion_31 : decode cX8_noRegion 31 = .ok (.iconst 0, 1) := by decide +kernel
theorem dX8_noRegion_32 : decode cX8_noRegion 32 = .ok (.ireturn, 1) := by decide +kernel
theorem dX8_clips_0 : decode cX8_clips 0 = .ok (.aload_n 0, 1) := by decide +kernel
theorem dX8_clips_1 : decode cX8_clips 1 = .ok (.getfield 7, 3) := by decide +kernel
theorem dX8_clips_4 : decode cX8_clips 4 = .ok (.bipush 12, 2) := by decide +kernel
theorem dX8_clips_6 : decode cX8_clips 6 = .ok (.iload_n 1, 1) := by decide +kernel
theorem dX8_clips_7 : decode cX8_clips 7 = .ok (.iadd, 1) := by decide +kernel
theorem dX8_clips_8 : decode cX8_clips 8 = .ok (.iaload, 1) := by decide +kernel
theorem dX8_clips_9 : decode cX8_clips 9 = .ok (.aload_n 0, 1) := by decide +kernel
theorem dX8_clips_10 : decode cX8_clips 10 = .ok (.getfield 7, 3) := by decide +kernel
theorem dX8_clips_13 : decode cX8_clips 13 = .ok (.iconst 1, 1) := by decide +kernel
theorem dX8_clips_14 : decode cX8_clips 14 = .ok (.iaload, 1) := by decide +kernel
theorem dX8_clips_15 : decode cX8_clips 15 = .ok (.if_icmp .ge 15, 3) := by decide +kernel
theorem dX8_clips_18 : decode cX8_clips 18 = .ok (.aload_n 0, 1) := by decide +kernel
theorem dX8_clips_19 : decode cX8_clips 19 = .ok (.getfield 7, 3) := by decide +kernel
theorem dX8_clips_22 : decode cX8_clips 22 = .ok (.bipush 12, 2) := by decide +kernel
theorem dX8_clips_24 : decode cX8_clips 24 = .ok (.iload_n 1, 1) := by decide +kernel
theorem dX8_clips_25 : decode cX8_clips 25 = .ok (.iadd, 1) := by decide +kernel
theorem dX8_clips_26 : decode cX8_clips 26 = .ok (.iaload, 1) := by decide +kernel
theorem dX8_clips_27 : decode cX8_clips 27 = .ok (.goto 9, 3) := by decide +kernel
theorem dX8_clips_30 : decode cX8_clips 30 = .ok (.aload_n 0, 1) := by decide +kernel
theorem dX8_clips_31 : decode cX8_clips 31 = .ok (.getfield 7, 3) := by decide +kernel
theorem dX8_clips_34 : decode cX8_clips 34 = .ok (.iconst 1, 1) := by decide +kernel
theorem dX8_clips_35 : decode cX8_clips 35 = .ok (.iaload, 1) := by decide +kernel
theorem dX8_clips_36 : decode cX8_clips 36 = .ok (.istore_n 2, 1) := by decide +kernel
theorem dX8_clips_37 : decode cX8_clips 37 = .ok (.aload_n 0, 1) := by decide +kernel
theorem dX8_clips_38 : decode cX8_clips 38 = .ok (.getfield 7, 3) := by decide +kernel
theorem dX8_clips_41 : decode cX8_clips 41 = .ok (.bipush 10, 2) := by decide +kernel
theorem dX8_clips_43 : decode cX8_clips 43 = .ok (.aload_n 0, 1) := by decide +kernel
theorem dX8_clips_44 : decode cX8_clips 44 = .ok (.iload_n 1, 1) := by decide +kernel
theorem dX8_clips_45 : decode cX8_clips 45 = .ok (.invokevirtual 105, 3) := by decide +kernel
theorem dX8_clips_48 : decode cX8_clips 48 = .ok (.iastore, 1) := by decide +kernel
theorem dX8_clips_49 : decode cX8_clips 49 = .ok (.iconst 0, 1) := by decide +kernel
theorem dX8_clips_50 : decode cX8_clips 50 = .ok (.istore_n 3, 1) := by decide +kernel
theorem dX8_clips_51 : decode cX8_clips 51 = .ok (.iload_n 3, 1) := by decide +kernel
theorem dX8_clips_52 : decode cX8_clips 52 = .ok (.bipush 60, 2) := by decide +kernel
theorem dX8_clips_54 : decode cX8_clips 54 = .ok (.if_icmp .ge 44, 3) := by decide +kernel
theorem dX8_clips_57 : decode cX8_clips 57 = .ok (.aload_n 0, 1) := by decide +kernel
theorem dX8_clips_58 : decode cX8_clips 58 = .ok (.getfield 7, 3) := by decide +kernel
theorem dX8_clips_61 : decode cX8_clips 61 = .ok (.bipush 20, 2) := by decide +kernel
theorem dX8_clips_63 : decode cX8_clips 63 = .ok (.iload_n 3, 1) := by decide +kernel
theorem dX8_clips_64 : decode cX8_clips 64 = .ok (.iadd, 1) := by decide +kernel
theorem dX8_clips_65 : decode cX8_clips 65 = .ok (.iload_n 3, 1) := by decide +kernel
theorem dX8_clips_66 : decode cX8_clips 66 = .ok (.aload_n 0, 1) := by decide +kernel
theorem dX8_clips_67 : decode cX8_clips 67 = .ok (.getfield 7, 3) := by decide +kernel
theorem dX8_clips_70 : decode cX8_clips 70 = .ok (.bipush 10, 2) := by decide +kernel
theorem dX8_clips_72 : decode cX8_clips 72 = .ok (.iaload, 1) := by decide +kernel
theorem dX8_clips_73 : decode cX8_clips 73 = .ok (.if_icmp .ge 17, 3) := by decide +kernel
theorem dX8_clips_76 : decode cX8_clips 76 = .ok (.aload_n 0, 1) := by decide +kernel
theorem dX8_clips_77 : decode cX8_clips 77 = .ok (.getfield 7, 3) := by decide +kernel
theorem dX8_clips_80 : decode cX8_clips 80 = .ok (.bipush 80, 2) := by decide +kernel
theorem dX8_clips_82 : decode cX8_clips 82 = .ok (.iload_n 2, 1) := by decide +kernel
theorem dX8_clips_83 : decode cX8_clips 83 = .ok (.iadd, 1) := by decide +kernel
theorem dX8_clips_84 : decode cX8_clips 84 = .ok (.iload_n 3, 1) := by decide +kernel
theorem dX8_clips_85 : decode cX8_clips 85 = .ok (.iadd, 1) := by decide +kernel
theorem dX8_clips_86 : decode cX8_clips 86 = .ok (.iaload, 1) := by decide +kernel
theorem dX8_clips_87 : decode cX8_clips 87 = .ok (.goto 4, 3) := by decide +kernel
theorem dX8_clips_90 : decode cX8_clips 90 = .ok (.iconst 0, 1) := by decide +kernel
theorem dX8_clips_91 : decode cX8_clips 91 = .ok (.iastore, 1) := by decide +kernel
theorem dX8_clips_92 : decode cX8_clips 92 = .ok (.iinc 3 1, 3) := by decide +kernel
theorem dX8_clips_95 : decode cX8_clips 95 = .ok (.goto (-44), 3) := by decide +kernel
theorem dX8_clips_98 : decode cX8_clips 98 = .ok (.return_, 1) := by decide +kernel
theorem dX8_cuts_0 : decode cX8_cuts 0 = .ok (.aload_n 0, 1) := by decide +kernel
theorem dX8_cuts_1 : decode cX8_cuts 1 = .ok (.iload_n 1, 1) := by decide +kernel
theorem dX8_cuts_2 : decode cX8_cuts 2 = .ok (.invokevirtual 108, 3) := by decide +kernel
theorem dX8_cuts_5 : decode cX8_cuts 5 = .ok (.aload_n 0, 1) := by decide +kernel
theorem dX8_cuts_6 : decode cX8_cuts 6 = .ok (.aload_n 0, 1) := by decide +kernel
theorem dX8_cuts_7 : decode cX8_cuts 7 = .ok (.getfield 7, 3) := by decide +kernel
theorem dX8_cuts_10 : decode cX8_cuts 10 = .ok (.bipush 12, 2) := by decide +kernel
theorem dX8_cuts_12 : decode cX8_cuts 12 = .ok (.iload_n 1, 1) := by decide +kernel
theorem dX8_cuts_13 : decode cX8_cuts 13 = .ok (.iadd, 1) := by decide +kernel
theorem dX8_cuts_14 : decode cX8_cuts 14 = .ok (.iaload, 1) := by decide +kernel
theorem dX8_cuts_15 : decode cX8_cuts 15 = .ok (.aload_n 0, 1) := by decide +kernel
theorem dX8_cuts_16 : decode cX8_cuts 16 = .ok (.getfield 7, 3) := by decide +kernel
theorem dX8_cuts_19 : decode cX8_cuts 19 = .ok (.iconst 1, 1) := by decide +kernel
theorem dX8_cuts_20 : decode cX8_cuts 20 = .ok (.iaload, 1) := by decide +kernel
theorem dX8_cuts_21 : decode cX8_cuts 21 = .ok (.if_icmp .ge 15, 3) := by decide +kernel
theorem dX8_cuts_24 : decode cX8_cuts 24 = .ok (.aload_n 0, 1) := by decide +kernel
theorem dX8_cuts_25 : decode cX8_cuts 25 = .ok (.getfield 7, 3) := by decide +kernel
theorem dX8_cuts_28 : decode cX8_cuts 28 = .ok (.bipush 12, 2) := by decide +kernel
theorem dX8_cuts_30 : decode cX8_cuts 30 = .ok (.iload_n 1, 1) := by decide +kernel
theorem dX8_cuts_31 : decode cX8_cuts 31 = .ok (.iadd, 1) := by decide +kernel
theorem dX8_cuts_32 : decode cX8_cuts 32 = .ok (.iaload, 1) := by decide +kernel
theorem dX8_cuts_33 : decode cX8_cuts 33 = .ok (.goto 9, 3) := by decide +kernel
theorem dX8_cuts_36 : decode cX8_cuts 36 = .ok (.aload_n 0, 1) := by decide +kernel
theorem dX8_cuts_37 : decode cX8_cuts 37 = .ok (.getfield 7, 3) := by decide +kernel
theorem dX8_cuts_40 : decode cX8_cuts 40 = .ok (.iconst 1, 1) := by decide +kernel
theorem dX8_cuts_41 : decode cX8_cuts 41 = .ok (.iaload, 1) := by decide +kernel
theorem dX8_cuts_42 : decode cX8_cuts 42 = .ok (.aload_n 0, 1) := by decide +kernel
theorem dX8_cuts_43 : decode cX8_cuts 43 = .ok (.getfield 7, 3) := by decide +kernel
theorem dX8_cuts_46 : decode cX8_cuts 46 = .ok (.bipush 10, 2) := by decide +kernel
theorem dX8_cuts_48 : decode cX8_cuts 48 = .ok (.iaload, 1) := by decide +kernel
theorem dX8_cuts_49 : decode cX8_cuts 49 = .ok (.invokevirtual 59, 3) := by decide +kernel
theorem dX8_cuts_52 : decode cX8_cuts 52 = .ok (.return_, 1) := by decide +kernel
theorem dX8_copy_0 : decode cX8_copy 0 = .ok (.aload_n 0, 1) := by decide +kernel
theorem dX8_copy_1 : decode cX8_copy 1 = .ok (.iconst 0, 1) := by decide +kernel
theorem dX8_copy_2 : decode cX8_copy 2 = .ok (.putfield 25, 3) := by decide +kernel
theorem dX8_copy_5 : decode cX8_copy 5 = .ok (.iload_n 1, 1) := by decide +kernel
theorem dX8_copy_6 : decode cX8_copy 6 = .ok (.invokestatic 102, 3) := by decide +kernel
theorem dX8_copy_9 : decode cX8_copy 9 = .ok (.ifCond .ne 9, 3) := by decide +kernel
theorem dX8_copy_12 : decode cX8_copy 12 = .ok (.aload_n 0, 1) := by decide +kernel
theorem dX8_copy_13 : decode cX8_copy 13 = .ok (.iconst 1, 1) := by decide +kernel
theorem dX8_copy_14 : decode cX8_copy 14 = .ok (.invokevirtual 66, 3) := by decide +kernel
theorem dX8_copy_17 : decode cX8_copy 17 = .ok (.ireturn, 1) := by decide +kernel
theorem dX8_copy_18 : decode cX8_copy 18 = .ok (.aload_n 0, 1) := by decide +kernel
theorem dX8_copy_19 : decode cX8_copy 19 = .ok (.iload_n 1, 1) := by decide +kernel
theorem dX8_copy_20 : decode cX8_copy 20 = .ok (.invokevirtual 112, 3) := by decide +kernel
theorem dX8_copy_23 : decode cX8_copy 23 = .ok (.ifCond .eq 9, 3) := by decide +kernel
theorem dX8_copy_26 : decode cX8_copy 26 = .ok (.aload_n 0, 1) := by decide +kernel
theorem dX8_copy_27 : decode cX8_copy 27 = .ok (.iconst 2, 1) := by decide +kernel
theorem dX8_copy_28 : decode cX8_copy 28 = .ok (.invokevirtual 66, 3) := by decide +kernel
theorem dX8_copy_31 : decode cX8_copy 31 = .ok (.ireturn, 1) := by decide +kernel
theorem dX8_copy_32 : decode cX8_copy 32 = .ok (.aload_n 0, 1) := by decide +kernel
theorem dX8_copy_33 : decode cX8_copy 33 = .ok (.invokevirtual 72, 3) := by decide +kernel
theorem dX8_copy_36 : decode cX8_copy 36 = .ok (.aload_n 0, 1) := by decide +kernel
theorem dX8_copy_37 : decode cX8_copy 37 = .ok (.iload_n 1, 1) := by decide +kernel
theorem dX8_copy_38 : decode cX8_copy 38 = .ok (.invokevirtual 108, 3) := by decide +kernel
theorem dX8_copy_41 : decode cX8_copy 41 = .ok (.aload_n 0, 1) := by decide +kernel
theorem dX8_copy_42 : decode cX8_copy 42 = .ok (.getfield 7, 3) := by decide +kernel
theorem dX8_copy_45 : decode cX8_copy 45 = .ok (.bipush 10, 2) := by decide +kernel
theorem dX8_copy_47 : decode cX8_copy 47 = .ok (.iaload, 1) := by decide +kernel
theorem dX8_copy_48 : decode cX8_copy 48 = .ok (.ireturn, 1) := by decide +kernel
theorem dX8_cut_0 : decode cX8_cut 0 = .ok (.aload_n 0, 1) := by decide +kernel
theorem dX8_cut_1 : decode cX8_cut 1 = .ok (.iconst 0, 1) := by decide +kernel
theorem dX8_cut_2 : decode cX8_cut 2 = .ok (.putfield 25, 3) := by decide +kernel
theorem dX8_cut_5 : decode cX8_cut 5 = .ok (.iload_n 1, 1) := by decide +kernel
theorem dX8_cut_6 : decode cX8_cut 6 = .ok (.invokestatic 102, 3) := by decide +kernel
theorem dX8_cut_9 : decode cX8_cut 9 = .ok (.ifCond .ne 9, 3) := by decide +kernel
theorem dX8_cut_12 : decode cX8_cut 12 = .ok (.aload_n 0, 1) := by decide +kernel
theorem dX8_cut_13 : decode cX8_cut 13 = .ok (.iconst 1, 1) := by decide +kernel
theorem dX8_cut_14 : decode cX8_cut 14 = .ok (.invokevirtual 66, 3) := by decide +kernel
theorem dX8_cut_17 : decode cX8_cut 17 = .ok (.ireturn, 1) := by decide +kernel
theorem dX8_cut_18 : decode cX8_cut 18 = .ok (.aload_n 0, 1) := by decide +kernel
theorem dX8_cut_19 : decode cX8_cut 19 = .ok (.iload_n 1, 1) := by decide +kernel
theorem dX8_cut_20 : decode cX8_cut 20 = .ok (.invokevirtual 112, 3) := by decide +kernel
theorem dX8_cut_23 : decode cX8_cut 23 = .ok (.ifCond .eq 9, 3) := by decide +kernel
theorem dX8_cut_26 : decode cX8_cut 26 = .ok (.aload_n 0, 1) := by decide +kernel
theorem dX8_cut_27 : decode cX8_cut 27 = .ok (.iconst 2, 1) := by decide +kernel
theorem dX8_cut_28 : decode cX8_cut 28 = .ok (.invokevirtual 66, 3) := by decide +kernel
theorem dX8_cut_31 : decode cX8_cut 31 = .ok (.ireturn, 1) := by decide +kernel
theorem dX8_cut_32 : decode cX8_cut 32 = .ok (.aload_n 0, 1) := by decide +kernel
theorem dX8_cut_33 : decode cX8_cut 33 = .ok (.invokevirtual 72, 3) := by decide +kernel
theorem dX8_cut_36 : decode cX8_cut 36 = .ok (.aload_n 0, 1) := by decide +kernel
theorem dX8_cut_37 : decode cX8_cut 37 = .ok (.iload_n 1, 1) := by decide +kernel
theorem dX8_cut_38 : decode cX8_cut 38 = .ok (.invokevirtual 115, 3) := by decide +kernel
theorem dX8_cut_41 : decode cX8_cut 41 = .ok (.aload_n 0, 1) := by decide +kernel
theorem dX8_cut_42 : decode cX8_cut 42 = .ok (.getfield 7, 3) := by decide +kernel
theorem dX8_cut_45 : decode cX8_cut 45 = .ok (.bipush 10, 2) := by decide +kernel
theorem dX8_cut_47 : decode cX8_cut 47 = .ok (.iaload, 1) := by decide +kernel
theorem dX8_cut_48 : decode cX8_cut 48 = .ok (.ireturn, 1) := by decide +kernel
theorem dX8_pastes_0 : decode cX8_pastes 0 = .ok (.aload_n 0, 1) := by decide +kernel
theorem dX8_pastes_1 : decode cX8_pastes 1 = .ok (.aload_n 0, 1) := by decide +kernel
theorem dX8_pastes_2 : decode cX8_pastes 2 = .ok (.getfield 7, 3) := by decide +kernel
theorem dX8_pastes_5 : decode cX8_pastes 5 = .ok (.bipush 10, 2) := by decide +kernel
theorem dX8_pastes_7 : decode cX8_pastes 7 = .ok (.iaload, 1) := by decide +kernel
theorem dX8_pastes_8 : decode cX8_pastes 8 = .ok (.putfield 49, 3) := by decide +kernel
theorem dX8_pastes_11 : decode cX8_pastes 11 = .ok (.iconst 0, 1) := by decide +kernel
theorem dX8_pastes_12 : decode cX8_pastes 12 = .ok (.istore_n 1, 1) := by decide +kernel
theorem dX8_pastes_13 : decode cX8_pastes 13 = .ok (.iload_n 1, 1) := by decide +kernel
theorem dX8_pastes_14 : decode cX8_pastes 14 = .ok (.aload_n 0, 1) := by decide +kernel
theorem dX8_pastes_15 : decode cX8_pastes 15 = .ok (.getfield 49, 3) := by decide +kernel
theorem dX8_pastes_18 : decode cX8_pastes 18 = .ok (.if_icmp .ge 24, 3) := by decide +kernel
theorem dX8_pastes_21 : decode cX8_pastes 21 = .ok (.aload_n 0, 1) := by decide +kernel
theorem dX8_pastes_22 : decode cX8_pastes 22 = .ok (.getfield 22, 3) := by decide +kernel
theorem dX8_pastes_25 : decode cX8_pastes 25 = .ok (.iload_n 1, 1) := by decide +kernel
theorem dX8_pastes_26 : decode cX8_pastes 26 = .ok (.aload_n 0, 1) := by decide +kernel
theorem dX8_pastes_27 : decode cX8_pastes 27 = .ok (.getfield 7, 3) := by decide +kernel
theorem dX8_pastes_30 : decode cX8_pastes 30 = .ok (.bipush 20, 2) := by decide +kernel
theorem dX8_pastes_32 : decode cX8_pastes 32 = .ok (.iload_n 1, 1) := by decide +kernel
theorem dX8_pastes_33 : decode cX8_pastes 33 = .ok (.iadd, 1) := by decide +kernel
theorem dX8_pastes_34 : decode cX8_pastes 34 = .ok (.iaload, 1) := by decide +kernel
theorem dX8_pastes_35 : decode cX8_pastes 35 = .ok (.iastore, 1) := by decide +kernel
theorem dX8_pastes_36 : decode cX8_pastes 36 = .ok (.iinc 1 1, 3) := by decide +kernel
theorem dX8_pastes_39 : decode cX8_pastes 39 = .ok (.goto (-26), 3) := by decide +kernel
theorem dX8_pastes_42 : decode cX8_pastes 42 = .ok (.aload_n 0, 1) := by decide +kernel
theorem dX8_pastes_43 : decode cX8_pastes 43 = .ok (.invokevirtual 78, 3) := by decide +kernel
theorem dX8_pastes_46 : decode cX8_pastes 46 = .ok (.return_, 1) := by decide +kernel
theorem dX8_paste_0 : decode cX8_paste 0 = .ok (.aload_n 0, 1) := by decide +kernel
theorem dX8_paste_1 : decode cX8_paste 1 = .ok (.iconst 0, 1) := by decide +kernel
theorem dX8_paste_2 : decode cX8_paste 2 = .ok (.putfield 25, 3) := by decide +kernel
theorem dX8_paste_5 : decode cX8_paste 5 = .ok (.aload_n 0, 1) := by decide +kernel
theorem dX8_paste_6 : decode cX8_paste 6 = .ok (.getfield 7, 3) := by decide +kernel
theorem dX8_paste_9 : decode cX8_paste 9 = .ok (.bipush 10, 2) := by decide +kernel
theorem dX8_paste_11 : decode cX8_paste 11 = .ok (.iaload, 1) := by decide +kernel
theorem dX8_paste_12 : decode cX8_paste 12 = .ok (.ifCond .eq 17, 3) := by decide +kernel
theorem dX8_paste_15 : decode cX8_paste 15 = .ok (.aload_n 0, 1) := by decide +kernel
theorem dX8_paste_16 : decode cX8_paste 16 = .ok (.aload_n 0, 1) := by decide +kernel
theorem dX8_paste_17 : decode cX8_paste 17 = .ok (.getfield 7, 3) := by decide +kernel
theorem dX8_paste_20 : decode cX8_paste 20 = .ok (.bipush 10, 2) := by decide +kernel
theorem dX8_paste_22 : decode cX8_paste 22 = .ok (.iaload, 1) := by decide +kernel
theorem dX8_paste_23 : decode cX8_paste 23 = .ok (.invokevirtual 69, 3) := by decide +kernel
theorem dX8_paste_26 : decode cX8_paste 26 = .ok (.ifCond .ne 9, 3) := by decide +kernel
theorem dX8_paste_29 : decode cX8_paste 29 = .ok (.aload_n 0, 1) := by decide +kernel
theorem dX8_paste_30 : decode cX8_paste 30 = .ok (.iconst 1, 1) := by decide +kernel
theorem dX8_paste_31 : decode cX8_paste 31 = .ok (.invokevirtual 66, 3) := by decide +kernel
theorem dX8_paste_34 : decode cX8_paste 34 = .ok (.ireturn, 1) := by decide +kernel
theorem dX8_paste_35 : decode cX8_paste 35 = .ok (.aload_n 0, 1) := by decide +kernel
theorem dX8_paste_36 : decode cX8_paste 36 = .ok (.invokevirtual 72, 3) := by decide +kernel
theorem dX8_paste_39 : decode cX8_paste 39 = .ok (.aload_n 0, 1) := by decide +kernel
theorem dX8_paste_40 : decode cX8_paste 40 = .ok (.invokevirtual 118, 3) := by decide +kernel
theorem dX8_paste_43 : decode cX8_paste 43 = .ok (.aload_n 0, 1) := by decide +kernel
theorem dX8_paste_44 : decode cX8_paste 44 = .ok (.getfield 7, 3) := by decide +kernel
theorem dX8_paste_47 : decode cX8_paste 47 = .ok (.iconst 0, 1) := by decide +kernel
theorem dX8_paste_48 : decode cX8_paste 48 = .ok (.iaload, 1) := by decide +kernel
theorem dX8_paste_49 : decode cX8_paste 49 = .ok (.ireturn, 1) := by decide +kernel
theorem dX8_mark_0 : decode cX8_mark 0 = .ok (.aload_n 0, 1) := by decide +kernel
theorem dX8_mark_1 : decode cX8_mark 1 = .ok (.iconst 0, 1) := by decide +kernel
theorem dX8_mark_2 : decode cX8_mark 2 = .ok (.putfield 25, 3) := by decide +kernel
theorem dX8_mark_5 : decode cX8_mark 5 = .ok (.iload_n 1, 1) := by decide +kernel
theorem dX8_mark_6 : decode cX8_mark 6 = .ok (.invokestatic 102, 3) := by decide +kernel
theorem dX8_mark_9 : decode cX8_mark 9 = .ok (.ifCond .eq 15, 3) := by decide +kernel
theorem dX8_mark_12 : decode cX8_mark 12 = .ok (.aload_n 0, 1) := by decide +kernel
theorem dX8_mark_13 : decode cX8_mark 13 = .ok (.getfield 7, 3) := by decide +kernel
theorem dX8_mark_16 : decode cX8_mark 16 = .ok (.bipush 12, 2) := by decide +kernel
theorem dX8_mark_18 : decode cX8_mark 18 = .ok (.iload_n 1, 1) := by decide +kernel
theorem dX8_mark_19 : decode cX8_mark 19 = .ok (.iadd, 1) := by decide +kernel
theorem dX8_mark_20 : decode cX8_mark 20 = .ok (.iaload, 1) := by decide +kernel
theorem dX8_mark_21 : decode cX8_mark 21 = .ok (.goto 8, 3) := by decide +kernel
theorem dX8_mark_24 : decode cX8_mark 24 = .ok (.aload_n 0, 1) := by decide +kernel
theorem dX8_mark_25 : decode cX8_mark 25 = .ok (.iconst 1, 1) := by decide +kernel
theorem dX8_mark_26 : decode cX8_mark 26 = .ok (.invokevirtual 66, 3) := by decide +kernel
theorem dX8_mark_29 : decode cX8_mark 29 = .ok (.ireturn, 1) := by decide +kernel
theorem dX8_clip_0 : decode cX8_clip 0 = .ok (.aload_n 0, 1) := by decide +kernel
theorem dX8_clip_1 : decode cX8_clip 1 = .ok (.iconst 0, 1) := by decide +kernel
theorem dX8_clip_2 : decode cX8_clip 2 = .ok (.putfield 25, 3) := by decide +kernel
theorem dX8_clip_5 : decode cX8_clip 5 = .ok (.iload_n 1, 1) := by decide +kernel
theorem dX8_clip_6 : decode cX8_clip 6 = .ok (.ifCond .ge 9, 3) := by decide +kernel
theorem dX8_clip_9 : decode cX8_clip 9 = .ok (.aload_n 0, 1) := by decide +kernel
theorem dX8_clip_10 : decode cX8_clip 10 = .ok (.iconst 1, 1) := by decide +kernel
theorem dX8_clip_11 : decode cX8_clip 11 = .ok (.invokevirtual 66, 3) := by decide +kernel
theorem dX8_clip_14 : decode cX8_clip 14 = .ok (.ireturn, 1) := by decide +kernel
theorem dX8_clip_15 : decode cX8_clip 15 = .ok (.iload_n 1, 1) := by decide +kernel
theorem dX8_clip_16 : decode cX8_clip 16 = .ok (.aload_n 0, 1) := by decide +kernel
theorem dX8_clip_17 : decode cX8_clip 17 = .ok (.getfield 7, 3) := by decide +kernel
theorem dX8_clip_20 : decode cX8_clip 20 = .ok (.bipush 10, 2) := by decide +kernel
theorem dX8_clip_22 : decode cX8_clip 22 = .ok (.iaload, 1) := by decide +kernel
theorem dX8_clip_23 : decode cX8_clip 23 = .ok (.if_icmp .ge 15, 3) := by decide +kernel
theorem dX8_clip_26 : decode cX8_clip 26 = .ok (.aload_n 0, 1) := by decide +kernel
theorem dX8_clip_27 : decode cX8_clip 27 = .ok (.getfield 7, 3) := by decide +kernel
theorem dX8_clip_30 : decode cX8_clip 30 = .ok (.bipush 20, 2) := by decide +kernel
theorem dX8_clip_32 : decode cX8_clip 32 = .ok (.iload_n 1, 1) := by decide +kernel
theorem dX8_clip_33 : decode cX8_clip 33 = .ok (.iadd, 1) := by decide +kernel
theorem dX8_clip_34 : decode cX8_clip 34 = .ok (.iaload, 1) := by decide +kernel
theorem dX8_clip_35 : decode cX8_clip 35 = .ok (.goto 4, 3) := by decide +kernel
theorem dX8_clip_38 : decode cX8_clip 38 = .ok (.iconst (-1), 1) := by decide +kernel
theorem dX8_clip_39 : decode cX8_clip 39 = .ok (.ireturn, 1) := by decide +kernel
theorem dX8_isFound_0 : decode cX8_isFound 0 = .ok (.aload_n 0, 1) := by decide +kernel
theorem dX8_isFound_1 : decode cX8_isFound 1 = .ok (.getfield 7, 3) := by decide +kernel
theorem dX8_isFound_4 : decode cX8_isFound 4 = .ok (.bipush 10, 2) := by decide +kernel
theorem dX8_isFound_6 : decode cX8_isFound 6 = .ok (.iaload, 1) := by decide +kernel
theorem dX8_isFound_7 : decode cX8_isFound 7 = .ok (.ifCond .le 25, 3) := by decide +kernel
theorem dX8_isFound_10 : decode cX8_isFound 10 = .ok (.iload_n 1, 1) := by decide +kernel
theorem dX8_isFound_11 : decode cX8_isFound 11 = .ok (.aload_n 0, 1) := by decide +kernel
theorem dX8_isFound_12 : decode cX8_isFound 12 = .ok (.getfield 7, 3) := by decide +kernel
theorem dX8_isFound_15 : decode cX8_isFound 15 = .ok (.bipush 10, 2) := by decide +kernel
theorem dX8_isFound_17 : decode cX8_isFound 17 = .ok (.iaload, 1) := by decide +kernel
theorem dX8_isFound_18 : decode cX8_isFound 18 = .ok (.iadd, 1) := by decide +kernel
theorem dX8_isFound_19 : decode cX8_isFound 19 = .ok (.aload_n 0, 1) := by decide +kernel
theorem dX8_isFound_20 : decode cX8_isFound 20 = .ok (.getfield 7, 3) := by decide +kernel
theorem dX8_isFound_23 : decode cX8_isFound 23 = .ok (.iconst 0, 1) := by decide +kernel
theorem dX8_isFound_24 : decode cX8_isFound 24 = .ok (.iaload, 1) := by decide +kernel
theorem dX8_isFound_25 : decode cX8_isFound 25 = .ok (.if_icmp .gt 7, 3) := by decide +kernel
theorem dX8_isFound_28 : decode cX8_isFound 28 = .ok (.iconst 1, 1) := by decide +kernel
theorem dX8_isFound_29 : decode cX8_isFound 29 = .ok (.goto 4, 3) := by decide +kernel
theorem dX8_isFound_32 : decode cX8_isFound 32 = .ok (.iconst 0, 1) := by decide +kernel
theorem dX8_isFound_33 : decode cX8_isFound 33 = .ok (.istore_n 2, 1) := by decide +kernel
theorem dX8_isFound_34 : decode cX8_isFound 34 = .ok (.iconst 0, 1) := by decide +kernel
theorem dX8_isFound_35 : decode cX8_isFound 35 = .ok (.istore_n 3, 1) := by decide +kernel
theorem dX8_isFound_36 : decode cX8_isFound 36 = .ok (.iload_n 3, 1) := by decide +kernel
theorem dX8_isFound_37 : decode cX8_isFound 37 = .ok (.aload_n 0, 1) := by decide +kernel
theorem dX8_isFound_38 : decode cX8_isFound 38 = .ok (.getfield 7, 3) := by decide +kernel
theorem dX8_isFound_41 : decode cX8_isFound 41 = .ok (.bipush 10, 2) := by decide +kernel
theorem dX8_isFound_43 : decode cX8_isFound 43 = .ok (.iaload, 1) := by decide +kernel
theorem dX8_isFound_44 : decode cX8_isFound 44 = .ok (.if_icmp .ge 42, 3) := by decide +kernel
theorem dX8_isFound_47 : decode cX8_isFound 47 = .ok (.iload_n 2, 1) := by decide +kernel
theorem dX8_isFound_48 : decode cX8_isFound 48 = .ok (.ifCond .eq 38, 3) := by decide +kernel
theorem dX8_isFound_51 : decode cX8_isFound 51 = .ok (.aload_n 0, 1) := by decide +kernel
theorem dX8_isFound_52 : decode cX8_isFound 52 = .ok (.getfield 7, 3) := by decide +kernel
theorem dX8_isFound_55 : decode cX8_isFound 55 = .ok (.bipush 80, 2) := by decide +kernel
theorem dX8_isFound_57 : decode cX8_isFound 57 = .ok (.iload_n 1, 1) := by decide +kernel
theorem dX8_isFound_58 : decode cX8_isFound 58 = .ok (.iadd, 1) := by decide +kernel
theorem dX8_isFound_59 : decode cX8_isFound 59 = .ok (.iload_n 3, 1) := by decide +kernel
theorem dX8_isFound_60 : decode cX8_isFound 60 = .ok (.iadd, 1) := by decide +kernel
theorem dX8_isFound_61 : decode cX8_isFound 61 = .ok (.iaload, 1) := by decide +kernel
theorem dX8_isFound_62 : decode cX8_isFound 62 = .ok (.aload_n 0, 1) := by decide +kernel
theorem dX8_isFound_63 : decode cX8_isFound 63 = .ok (.getfield 7, 3) := by decide +kernel
theorem dX8_isFound_66 : decode cX8_isFound 66 = .ok (.bipush 20, 2) := by decide +kernel
theorem dX8_isFound_68 : decode cX8_isFound 68 = .ok (.iload_n 3, 1) := by decide +kernel
theorem dX8_isFound_69 : decode cX8_isFound 69 = .ok (.iadd, 1) := by decide +kernel
theorem dX8_isFound_70 : decode cX8_isFound 70 = .ok (.iaload, 1) := by decide +kernel
theorem dX8_isFound_71 : decode cX8_isFound 71 = .ok (.if_icmp .ne 7, 3) := by decide +kernel
theorem dX8_isFound_74 : decode cX8_isFound 74 = .ok (.iconst 1, 1) := by decide +kernel
theorem dX8_isFound_75 : decode cX8_isFound 75 = .ok (.goto 4, 3) := by decide +kernel
theorem dX8_isFound_78 : decode cX8_isFound 78 = .ok (.iconst 0, 1) := by decide +kernel
theorem dX8_isFound_79 : decode cX8_isFound 79 = .ok (.istore_n 2, 1) := by decide +kernel
theorem dX8_isFound_80 : decode cX8_isFound 80 = .ok (.iinc 3 1, 3) := by decide +kernel
theorem dX8_isFound_83 : decode cX8_isFound 83 = .ok (.goto (-47), 3) := by decide +kernel
theorem dX8_isFound_86 : decode cX8_isFound 86 = .ok (.iload_n 2, 1) := by decide +kernel
theorem dX8_isFound_87 : decode cX8_isFound 87 = .ok (.ireturn, 1) := by decide +kernel
theorem dX8_find_0 : decode cX8_find 0 = .ok (.aload_n 0, 1) := by decide +kernel
theorem dX8_find_1 : decode cX8_find 1 = .ok (.iconst 0, 1) := by decide +kernel
theorem dX8_find_2 : decode cX8_find 2 = .ok (.putfield 25, 3) := by decide +kernel
theorem dX8_find_5 : decode cX8_find 5 = .ok (.aload_n 0, 1) := by decide +kernel
theorem dX8_find_6 : decode cX8_find 6 = .ok (.iload_n 1, 1) := by decide +kernel
theorem dX8_find_7 : decode cX8_find 7 = .ok (.invokevirtual 90, 3) := by decide +kernel
theorem dX8_find_10 : decode cX8_find 10 = .ok (.ifCond .ne 9, 3) := by decide +kernel
theorem dX8_find_13 : decode cX8_find 13 = .ok (.aload_n 0, 1) := by decide +kernel
theorem dX8_find_14 : decode cX8_find 14 = .ok (.iconst 1, 1) := by decide +kernel
theorem dX8_find_15 : decode cX8_find 15 = .ok (.invokevirtual 66, 3) := by decide +kernel
theorem dX8_find_18 : decode cX8_find 18 = .ok (.ireturn, 1) := by decide +kernel
theorem dX8_find_19 : decode cX8_find 19 = .ok (.iload_n 1, 1) := by decide +kernel
theorem dX8_find_20 : decode cX8_find 20 = .ok (.istore_n 2, 1) := by decide +kernel
theorem dX8_find_21 : decode cX8_find 21 = .ok (.iload_n 2, 1) := by decide +kernel
theorem dX8_find_22 : decode cX8_find 22 = .ok (.aload_n 0, 1) := by decide +kernel
theorem dX8_find_23 : decode cX8_find 23 = .ok (.getfield 7, 3) := by decide +kernel
theorem dX8_find_26 : decode cX8_find 26 = .ok (.iconst 0, 1) := by decide +kernel
theorem dX8_find_27 : decode cX8_find 27 = .ok (.iaload, 1) := by decide +kernel
theorem dX8_find_28 : decode cX8_find 28 = .ok (.if_icmp .ge 19, 3) := by decide +kernel
theorem dX8_find_31 : decode cX8_find 31 = .ok (.aload_n 0, 1) := by decide +kernel
theorem dX8_find_32 : decode cX8_find 32 = .ok (.iload_n 2, 1) := by decide +kernel
theorem dX8_find_33 : decode cX8_find 33 = .ok (.invokevirtual 121, 3) := by decide +kernel
theorem dX8_find_36 : decode cX8_find 36 = .ok (.ifCond .eq 5, 3) := by decide +kernel
theorem dX8_find_39 : decode cX8_find 39 = .ok (.iload_n 2, 1) := by decide +kernel
theorem dX8_find_40 : decode cX8_find 40 = .ok (.ireturn, 1) := by decide +kernel
theorem dX8_find_41 : decode cX8_find 41 = .ok (.iinc 2 1, 3) := by decide +kernel
theorem dX8_find_44 : decode cX8_find 44 = .ok (.goto (-23), 3) := by decide +kernel
theorem dX8_find_47 : decode cX8_find 47 = .ok (.iconst (-1), 1) := by decide +kernel
theorem dX8_find_48 : decode cX8_find 48 = .ok (.ireturn, 1) := by decide +kernel
theorem dX8_length_0 : decode cX8_length 0 = .ok (.aload_n 0, 1) := by decide +kernel
theorem dX8_length_1 : decode cX8_length 1 = .ok (.iconst 0, 1) := by decide +kernel
theorem dX8_length_2 : decode cX8_length 2 = .ok (.putfield 25, 3) := by decide +kernel
theorem dX8_length_5 : decode cX8_length 5 = .ok (.aload_n 0, 1) := by decide +kernel
theorem dX8_length_6 : decode cX8_length 6 = .ok (.getfield 7, 3) := by decide +kernel
theorem dX8_length_9 : decode cX8_length 9 = .ok (.iconst 0, 1) := by decide +kernel
theorem dX8_length_10 : decode cX8_length 10 = .ok (.iaload, 1) := by decide +kernel
theorem dX8_length_11 : decode cX8_length 11 = .ok (.ireturn, 1) := by decide +kernel
theorem dX8_caret_0 : decode cX8_caret 0 = .ok (.aload_n 0, 1) := by decide +kernel
theorem dX8_caret_1 : decode cX8_caret 1 = .ok (.iconst 0, 1) := by decide +kernel
theorem dX8_caret_2 : decode cX8_caret 2 = .ok (.putfield 25, 3) := by decide +kernel
theorem dX8_caret_5 : decode cX8_caret 5 = .ok (.aload_n 0, 1) := by decide +kernel
theorem dX8_caret_6 : decode cX8_caret 6 = .ok (.getfield 7, 3) := by decide +kernel
theorem dX8_caret_9 : decode cX8_caret 9 = .ok (.iconst 1, 1) := by decide +kernel
theorem dX8_caret_10 : decode cX8_caret 10 = .ok (.iaload, 1) := by decide +kernel
theorem dX8_caret_11 : decode cX8_caret 11 = .ok (.ireturn, 1) := by decide +kernel
theorem dX8_byteAt_0 : decode cX8_byteAt 0 = .ok (.aload_n 0, 1) := by decide +kernel
theorem dX8_byteAt_1 : decode cX8_byteAt 1 = .ok (.iconst 0, 1) := by decide +kernel
theorem dX8_byteAt_2 : decode cX8_byteAt 2 = .ok (.putfield 25, 3) := by decide +kernel
theorem dX8_byteAt_5 : decode cX8_byteAt 5 = .ok (.iload_n 1, 1) := by decide +kernel
theorem dX8_byteAt_6 : decode cX8_byteAt 6 = .ok (.iconst 0, 1) := by decide +kernel
theorem dX8_byteAt_7 : decode cX8_byteAt 7 = .ok (.aload_n 0, 1) := by decide +kernel
theorem dX8_byteAt_8 : decode cX8_byteAt 8 = .ok (.getfield 7, 3) := by decide +kernel
theorem dX8_byteAt_11 : decode cX8_byteAt 11 = .ok (.iconst 0, 1) := by decide +kernel
theorem dX8_byteAt_12 : decode cX8_byteAt 12 = .ok (.iaload, 1) := by decide +kernel
theorem dX8_byteAt_13 : decode cX8_byteAt 13 = .ok (.iconst 1, 1) := by decide +kernel
theorem dX8_byteAt_14 : decode cX8_byteAt 14 = .ok (.isub, 1) := by decide +kernel
theorem dX8_byteAt_15 : decode cX8_byteAt 15 = .ok (.invokestatic 29, 3) := by decide +kernel
theorem dX8_byteAt_18 : decode cX8_byteAt 18 = .ok (.ifCond .eq 15, 3) := by decide +kernel
theorem dX8_byteAt_21 : decode cX8_byteAt 21 = .ok (.aload_n 0, 1) := by decide +kernel
theorem dX8_byteAt_22 : decode cX8_byteAt 22 = .ok (.getfield 7, 3) := by decide +kernel
theorem dX8_byteAt_25 : decode cX8_byteAt 25 = .ok (.bipush 80, 2) := by decide +kernel
theorem dX8_byteAt_27 : decode cX8_byteAt 27 = .ok (.iload_n 1, 1) := by decide +kernel
theorem dX8_byteAt_28 : decode cX8_byteAt 28 = .ok (.iadd, 1) := by decide +kernel
theorem dX8_byteAt_29 : decode cX8_byteAt 29 = .ok (.iaload, 1) := by decide +kernel
theorem dX8_byteAt_30 : decode cX8_byteAt 30 = .ok (.goto 8, 3) := by decide +kernel
theorem dX8_byteAt_33 : decode cX8_byteAt 33 = .ok (.aload_n 0, 1) := by decide +kernel
theorem dX8_byteAt_34 : decode cX8_byteAt 34 = .ok (.iconst 1, 1) := by decide +kernel
theorem dX8_byteAt_35 : decode cX8_byteAt 35 = .ok (.invokevirtual 66, 3) := by decide +kernel
theorem dX8_byteAt_38 : decode cX8_byteAt 38 = .ok (.ireturn, 1) := by decide +kernel
theorem dX8_lines_0 : decode cX8_lines 0 = .ok (.aload_n 0, 1) := by decide +kernel
theorem dX8_lines_1 : decode cX8_lines 1 = .ok (.iconst 0, 1) := by decide +kernel
theorem dX8_lines_2 : decode cX8_lines 2 = .ok (.putfield 25, 3) := by decide +kernel
theorem dX8_lines_5 : decode cX8_lines 5 = .ok (.aload_n 0, 1) := by decide +kernel
theorem dX8_lines_6 : decode cX8_lines 6 = .ok (.aload_n 0, 1) := by decide +kernel
theorem dX8_lines_7 : decode cX8_lines 7 = .ok (.getfield 7, 3) := by decide +kernel
theorem dX8_lines_10 : decode cX8_lines 10 = .ok (.iconst 0, 1) := by decide +kernel
theorem dX8_lines_11 : decode cX8_lines 11 = .ok (.iaload, 1) := by decide +kernel
theorem dX8_lines_12 : decode cX8_lines 12 = .ok (.invokevirtual 124, 3) := by decide +kernel
theorem dX8_lines_15 : decode cX8_lines 15 = .ok (.iconst 1, 1) := by decide +kernel
theorem dX8_lines_16 : decode cX8_lines 16 = .ok (.iadd, 1) := by decide +kernel
theorem dX8_lines_17 : decode cX8_lines 17 = .ok (.ireturn, 1) := by decide +kernel
theorem dX8_lineOf_0 : decode cX8_lineOf 0 = .ok (.aload_n 0, 1) := by decide +kernel
theorem dX8_lineOf_1 : decode cX8_lineOf 1 = .ok (.iconst 0, 1) := by decide +kernel
theorem dX8_lineOf_2 : decode cX8_lineOf 2 = .ok (.putfield 25, 3) := by decide +kernel
theorem dX8_lineOf_5 : decode cX8_lineOf 5 = .ok (.aload_n 0, 1) := by decide +kernel
theorem dX8_lineOf_6 : decode cX8_lineOf 6 = .ok (.iload_n 1, 1) := by decide +kernel
theorem dX8_lineOf_7 : decode cX8_lineOf 7 = .ok (.invokevirtual 90, 3) := by decide +kernel
theorem dX8_lineOf_10 : decode cX8_lineOf 10 = .ok (.ifCond .eq 11, 3) := by decide +kernel
theorem dX8_lineOf_13 : decode cX8_lineOf 13 = .ok (.aload_n 0, 1) := by decide +kernel
theorem dX8_lineOf_14 : decode cX8_lineOf 14 = .ok (.iload_n 1, 1) := by decide +kernel
theorem dX8_lineOf_15 : decode cX8_lineOf 15 = .ok (.invokevirtual 124, 3) := by decide +kernel
theorem dX8_lineOf_18 : decode cX8_lineOf 18 = .ok (.goto 8, 3) := by decide +kernel
theorem dX8_lineOf_21 : decode cX8_lineOf 21 = .ok (.aload_n 0, 1) := by decide +kernel
theorem dX8_lineOf_22 : decode cX8_lineOf 22 = .ok (.iconst 1, 1) := by decide +kernel
theorem dX8_lineOf_23 : decode cX8_lineOf 23 = .ok (.invokevirtual 66, 3) := by decide +kernel
theorem dX8_lineOf_26 : decode cX8_lineOf 26 = .ok (.ireturn, 1) := by decide +kernel
theorem dX8_columnOf_0 : decode cX8_columnOf 0 = .ok (.aload_n 0, 1) := by decide +kernel
theorem dX8_columnOf_1 : decode cX8_columnOf 1 = .ok (.iconst 0, 1) := by decide +kernel
theorem dX8_columnOf_2 : decode cX8_columnOf 2 = .ok (.putfield 25, 3) := by decide +kernel
theorem dX8_columnOf_5 : decode cX8_columnOf 5 = .ok (.aload_n 0, 1) := by decide +kernel
theorem dX8_columnOf_6 : decode cX8_columnOf 6 = .ok (.iload_n 1, 1) := by decide +kernel
theorem dX8_columnOf_7 : decode cX8_columnOf 7 = .ok (.invokevirtual 90, 3) := by decide +kernel
theorem dX8_columnOf_10 : decode cX8_columnOf 10 = .ok (.ifCond .eq 11, 3) := by decide +kernel
theorem dX8_columnOf_13 : decode cX8_columnOf 13 = .ok (.aload_n 0, 1) := by decide +kernel
theorem dX8_columnOf_14 : decode cX8_columnOf 14 = .ok (.iload_n 1, 1) := by decide +kernel
theorem dX8_columnOf_15 : decode cX8_columnOf 15 = .ok (.invokevirtual 43, 3) := by decide +kernel
theorem dX8_columnOf_18 : decode cX8_columnOf 18 = .ok (.goto 8, 3) := by decide +kernel
theorem dX8_columnOf_21 : decode cX8_columnOf 21 = .ok (.aload_n 0, 1) := by decide +kernel
theorem dX8_columnOf_22 : decode cX8_columnOf 22 = .ok (.iconst 1, 1) := by decide +kernel
theorem dX8_columnOf_23 : decode cX8_columnOf 23 = .ok (.invokevirtual 66, 3) := by decide +kernel
theorem dX8_columnOf_26 : decode cX8_columnOf 26 = .ok (.ireturn, 1) := by decide +kernel
theorem dX8_isLine_0 : decode cX8_isLine 0 = .ok (.iload_n 1, 1) := by decide +kernel
theorem dX8_isLine_1 : decode cX8_isLine 1 = .ok (.iconst 0, 1) := by decide +kernel
theorem dX8_isLine_2 : decode cX8_isLine 2 = .ok (.aload_n 0, 1) := by decide +kernel
theorem dX8_isLine_3 : decode cX8_isLine 3 = .ok (.aload_n 0, 1) := by decide +kernel
theorem dX8_isLine_4 : decode cX8_isLine 4 = .ok (.getfield 7, 3) := by decide +kernel
theorem dX8_isLine_7 : decode cX8_isLine 7 = .ok (.iconst 0, 1) := by decide +kernel
theorem dX8_isLine_8 : decode cX8_isLine 8 = .ok (.iaload, 1) := by decide +kernel
theorem dX8_isLine_9 : decode cX8_isLine 9 = .ok (.invokevirtual 124, 3) := by decide +kernel
theorem dX8_isLine_12 : decode cX8_isLine 12 = .ok (.invokestatic 29, 3) := by decide +kernel
theorem dX8_isLine_15 : decode cX8_isLine 15 = .ok (.ireturn, 1) := by decide +kernel
theorem dX8_beginning_0 : decode cX8_beginning 0 = .ok (.iconst 0, 1) := by decide +kernel
theorem dX8_beginning_1 : decode cX8_beginning 1 = .ok (.istore_n 2, 1) := by decide +kernel
theorem dX8_beginning_2 : decode cX8_beginning 2 = .ok (.iconst 0, 1) := by decide +kernel
theorem dX8_beginning_3 : decode cX8_beginning 3 = .ok (.istore_n 3, 1) := by decide +kernel
theorem dX8_beginning_4 : decode cX8_beginning 4 = .ok (.iload_n 3, 1) := by decide +kernel
theorem dX8_beginning_5 : decode cX8_beginning 5 = .ok (.iload_n 1, 1) := by decide +kernel
theorem dX8_beginning_6 : decode cX8_beginning 6 = .ok (.if_icmp .ge 17, 3) := by decide +kernel
theorem dX8_beginning_9 : decode cX8_beginning 9 = .ok (.aload_n 0, 1) := by decide +kernel
theorem dX8_beginning_10 : decode cX8_beginning 10 = .ok (.iload_n 2, 1) := by decide +kernel
theorem dX8_beginning_11 : decode cX8_beginning 11 = .ok (.invokevirtual 96, 3) := by decide +kernel
theorem dX8_beginning_14 : decode cX8_beginning 14 = .ok (.iconst 1, 1) := by decide +kernel
theorem dX8_beginning_15 : decode cX8_beginning 15 = .ok (.iadd, 1) := by decide +kernel
theorem dX8_beginning_16 : decode cX8_beginning 16 = .ok (.istore_n 2, 1) := by decide +kernel
theorem dX8_beginning_17 : decode cX8_beginning 17 = .ok (.iinc 3 1, 3) := by decide +kernel
theorem dX8_beginning_20 : decode cX8_beginning 20 = .ok (.goto (-16), 3) := by decide +kernel
theorem dX8_beginning_23 : decode cX8_beginning 23 = .ok (.iload_n 2, 1) := by decide +kernel
theorem dX8_beginning_24 : decode cX8_beginning 24 = .ok (.ireturn, 1) := by decide +kernel
theorem dX8_lineStart_0 : decode cX8_lineStart 0 = .ok (.aload_n 0, 1) := by decide +kernel
theorem dX8_lineStart_1 : decode cX8_lineStart 1 = .ok (.iconst 0, 1) := by decide +kernel
theorem dX8_lineStart_2 : decode cX8_lineStart 2 = .ok (.putfield 25, 3) := by decide +kernel
theorem dX8_lineStart_5 : decode cX8_lineStart 5 = .ok (.aload_n 0, 1) := by decide +kernel
theorem dX8_lineStart_6 : decode cX8_lineStart 6 = .ok (.iload_n 1, 1) := by decide +kernel
theorem dX8_lineStart_7 : decode cX8_lineStart 7 = .ok (.invokevirtual 127, 3) := by decide +kernel
theorem dX8_lineStart_10 : decode cX8_lineStart 10 = .ok (.ifCond .eq 11, 3) := by decide +kernel
theorem dX8_lineStart_13 : decode cX8_lineStart 13 = .ok (.aload_n 0, 1) := by decide +kernel
theorem dX8_lineStart_14 : decode cX8_lineStart 14 = .ok (.iload_n 1, 1) := by decide +kernel
theorem dX8_lineStart_15 : decode cX8_lineStart 15 = .ok (.invokevirtual 130, 3) := by decide +kernel
theorem dX8_lineStart_18 : decode cX8_lineStart 18 = .ok (.goto 8, 3) := by decide +kernel
theorem dX8_lineStart_21 : decode cX8_lineStart 21 = .ok (.aload_n 0, 1) := by decide +kernel
theorem dX8_lineStart_22 : decode cX8_lineStart 22 = .ok (.iconst 1, 1) := by decide +kernel
theorem dX8_lineStart_23 : decode cX8_lineStart 23 = .ok (.invokevirtual 66, 3) := by decide +kernel
theorem dX8_lineStart_26 : decode cX8_lineStart 26 = .ok (.ireturn, 1) := by decide +kernel
theorem dX8_lineLength_0 : decode cX8_lineLength 0 = .ok (.aload_n 0, 1) := by decide +kernel
theorem dX8_lineLength_1 : decode cX8_lineLength 1 = .ok (.iconst 0, 1) := by decide +kernel
theorem dX8_lineLength_2 : decode cX8_lineLength 2 = .ok (.putfield 25, 3) := by decide +kernel
theorem dX8_lineLength_5 : decode cX8_lineLength 5 = .ok (.aload_n 0, 1) := by decide +kernel
theorem dX8_lineLength_6 : decode cX8_lineLength 6 = .ok (.iload_n 1, 1) := by decide +kernel
theorem dX8_lineLength_7 : decode cX8_lineLength 7 = .ok (.invokevirtual 127, 3) := by decide +kernel
theorem dX8_lineLength_10 : decode cX8_lineLength 10 = .ok (.ifCond .eq 21, 3) := by decide +kernel
theorem dX8_lineLength_13 : decode cX8_lineLength 13 = .ok (.aload_n 0, 1) := by decide +kernel
theorem dX8_lineLength_14 : decode cX8_lineLength 14 = .ok (.aload_n 0, 1) := by decide +kernel
theorem dX8_lineLength_15 : decode cX8_lineLength 15 = .ok (.iload_n 1, 1) := by decide +kernel
theorem dX8_lineLength_16 : decode cX8_lineLength 16 = .ok (.invokevirtual 130, 3) := by decide +kernel
theorem dX8_lineLength_19 : decode cX8_lineLength 19 = .ok (.invokevirtual 96, 3) := by decide +kernel
theorem dX8_lineLength_22 : decode cX8_lineLength 22 = .ok (.aload_n 0, 1) := by decide +kernel
theorem dX8_lineLength_23 : decode cX8_lineLength 23 = .ok (.iload_n 1, 1) := by decide +kernel
theorem dX8_lineLength_24 : decode cX8_lineLength 24 = .ok (.invokevirtual 130, 3) := by decide +kernel
theorem dX8_lineLength_27 : decode cX8_lineLength 27 = .ok (.isub, 1) := by decide +kernel
theorem dX8_lineLength_28 : decode cX8_lineLength 28 = .ok (.goto 8, 3) := by decide +kernel
theorem dX8_lineLength_31 : decode cX8_lineLength 31 = .ok (.aload_n 0, 1) := by decide +kernel
theorem dX8_lineLength_32 : decode cX8_lineLength 32 = .ok (.iconst 1, 1) := by decide +kernel
theorem dX8_lineLength_33 : decode cX8_lineLength 33 = .ok (.invokevirtual 66, 3) := by decide +kernel
theorem dX8_lineLength_36 : decode cX8_lineLength 36 = .ok (.ireturn, 1) := by decide +kernel
theorem dX8_capacity_0 : decode cX8_capacity 0 = .ok (.aload_n 0, 1) := by decide +kernel
theorem dX8_capacity_1 : decode cX8_capacity 1 = .ok (.iconst 0, 1) := by decide +kernel
theorem dX8_capacity_2 : decode cX8_capacity 2 = .ok (.putfield 25, 3) := by decide +kernel
theorem dX8_capacity_5 : decode cX8_capacity 5 = .ok (.aload_n 0, 1) := by decide +kernel
theorem dX8_capacity_6 : decode cX8_capacity 6 = .ok (.getfield 7, 3) := by decide +kernel
theorem dX8_capacity_9 : decode cX8_capacity 9 = .ok (.iconst 3, 1) := by decide +kernel
theorem dX8_capacity_10 : decode cX8_capacity 10 = .ok (.iaload, 1) := by decide +kernel
theorem dX8_capacity_11 : decode cX8_capacity 11 = .ok (.ireturn, 1) := by decide +kernel
theorem dX8_gapStart_0 : decode cX8_gapStart 0 = .ok (.aload_n 0, 1) := by decide +kernel
theorem dX8_gapStart_1 : decode cX8_gapStart 1 = .ok (.iconst 0, 1) := by decide +kernel
theorem dX8_gapStart_2 : decode cX8_gapStart 2 = .ok (.putfield 25, 3) := by decide +kernel
theorem dX8_gapStart_5 : decode cX8_gapStart 5 = .ok (.aload_n 0, 1) := by decide +kernel
theorem dX8_gapStart_6 : decode cX8_gapStart 6 = .ok (.getfield 7, 3) := by decide +kernel
theorem dX8_gapStart_9 : decode cX8_gapStart 9 = .ok (.iconst 2, 1) := by decide +kernel
theorem dX8_gapStart_10 : decode cX8_gapStart 10 = .ok (.iaload, 1) := by decide +kernel
theorem dX8_gapStart_11 : decode cX8_gapStart 11 = .ok (.ireturn, 1) := by decide +kernel
theorem dX8_cell_0 : decode cX8_cell 0 = .ok (.aload_n 0, 1) := by decide +kernel
theorem dX8_cell_1 : decode cX8_cell 1 = .ok (.iconst 0, 1) := by decide +kernel
theorem dX8_cell_2 : decode cX8_cell 2 = .ok (.putfield 25, 3) := by decide +kernel
theorem dX8_cell_5 : decode cX8_cell 5 = .ok (.iload_n 1, 1) := by decide +kernel
theorem dX8_cell_6 : decode cX8_cell 6 = .ok (.iconst 0, 1) := by decide +kernel
theorem dX8_cell_7 : decode cX8_cell 7 = .ok (.aload_n 0, 1) := by decide +kernel
theorem dX8_cell_8 : decode cX8_cell 8 = .ok (.getfield 7, 3) := by decide +kernel
theorem dX8_cell_11 : decode cX8_cell 11 = .ok (.iconst 3, 1) := by decide +kernel
theorem dX8_cell_12 : decode cX8_cell 12 = .ok (.iaload, 1) := by decide +kernel
theorem dX8_cell_13 : decode cX8_cell 13 = .ok (.iconst 1, 1) := by decide +kernel
theorem dX8_cell_14 : decode cX8_cell 14 = .ok (.isub, 1) := by decide +kernel
theorem dX8_cell_15 : decode cX8_cell 15 = .ok (.invokestatic 29, 3) := by decide +kernel
theorem dX8_cell_18 : decode cX8_cell 18 = .ok (.ifCond .ne 9, 3) := by decide +kernel
theorem dX8_cell_21 : decode cX8_cell 21 = .ok (.aload_n 0, 1) := by decide +kernel
theorem dX8_cell_22 : decode cX8_cell 22 = .ok (.iconst 1, 1) := by decide +kernel
theorem dX8_cell_23 : decode cX8_cell 23 = .ok (.invokevirtual 66, 3) := by decide +kernel
theorem dX8_cell_26 : decode cX8_cell 26 = .ok (.ireturn, 1) := by decide +kernel
theorem dX8_cell_27 : decode cX8_cell 27 = .ok (.aload_n 0, 1) := by decide +kernel
theorem dX8_cell_28 : decode cX8_cell 28 = .ok (.getfield 7, 3) := by decide +kernel
theorem dX8_cell_31 : decode cX8_cell 31 = .ok (.iconst 3, 1) := by decide +kernel
theorem dX8_cell_32 : decode cX8_cell 32 = .ok (.iaload, 1) := by decide +kernel
theorem dX8_cell_33 : decode cX8_cell 33 = .ok (.aload_n 0, 1) := by decide +kernel
theorem dX8_cell_34 : decode cX8_cell 34 = .ok (.getfield 7, 3) := by decide +kernel
theorem dX8_cell_37 : decode cX8_cell 37 = .ok (.iconst 0, 1) := by decide +kernel
theorem dX8_cell_38 : decode cX8_cell 38 = .ok (.iaload, 1) := by decide +kernel
theorem dX8_cell_39 : decode cX8_cell 39 = .ok (.isub, 1) := by decide +kernel
theorem dX8_cell_40 : decode cX8_cell 40 = .ok (.istore_n 2, 1) := by decide +kernel
theorem dX8_cell_41 : decode cX8_cell 41 = .ok (.iload_n 1, 1) := by decide +kernel
theorem dX8_cell_42 : decode cX8_cell 42 = .ok (.aload_n 0, 1) := by decide +kernel
theorem dX8_cell_43 : decode cX8_cell 43 = .ok (.getfield 7, 3) := by decide +kernel
theorem dX8_cell_46 : decode cX8_cell 46 = .ok (.iconst 2, 1) := by decide +kernel
theorem dX8_cell_47 : decode cX8_cell 47 = .ok (.iaload, 1) := by decide +kernel
theorem dX8_cell_48 : decode cX8_cell 48 = .ok (.if_icmp .ge 15, 3) := by decide +kernel
theorem dX8_cell_51 : decode cX8_cell 51 = .ok (.aload_n 0, 1) := by decide +kernel
theorem dX8_cell_52 : decode cX8_cell 52 = .ok (.getfield 7, 3) := by decide +kernel
theorem dX8_cell_55 : decode cX8_cell 55 = .ok (.bipush 80, 2) := by decide +kernel
theorem dX8_cell_57 : decode cX8_cell 57 = .ok (.iload_n 1, 1) := by decide +kernel
theorem dX8_cell_58 : decode cX8_cell 58 = .ok (.iadd, 1) := by decide +kernel
theorem dX8_cell_59 : decode cX8_cell 59 = .ok (.iaload, 1) := by decide +kernel
theorem dX8_cell_60 : decode cX8_cell 60 = .ok (.goto 30, 3) := by decide +kernel
theorem dX8_cell_63 : decode cX8_cell 63 = .ok (.iload_n 1, 1) := by decide +kernel
theorem dX8_cell_64 : decode cX8_cell 64 = .ok (.aload_n 0, 1) := by decide +kernel
theorem dX8_cell_65 : decode cX8_cell 65 = .ok (.getfield 7, 3) := by decide +kernel
theorem dX8_cell_68 : decode cX8_cell 68 = .ok (.iconst 2, 1) := by decide +kernel
theorem dX8_cell_69 : decode cX8_cell 69 = .ok (.iaload, 1) := by decide +kernel
theorem dX8_cell_70 : decode cX8_cell 70 = .ok (.iload_n 2, 1) := by decide +kernel
theorem dX8_cell_71 : decode cX8_cell 71 = .ok (.iadd, 1) := by decide +kernel
theorem dX8_cell_72 : decode cX8_cell 72 = .ok (.if_icmp .ge 7, 3) := by decide +kernel
theorem dX8_cell_75 : decode cX8_cell 75 = .ok (.iconst (-1), 1) := by decide +kernel
theorem dX8_cell_76 : decode cX8_cell 76 = .ok (.goto 14, 3) := by decide +kernel
theorem dX8_cell_79 : decode cX8_cell 79 = .ok (.aload_n 0, 1) := by decide +kernel
theorem dX8_cell_80 : decode cX8_cell 80 = .ok (.getfield 7, 3) := by decide +kernel
theorem dX8_cell_83 : decode cX8_cell 83 = .ok (.bipush 80, 2) := by decide +kernel
theorem dX8_cell_85 : decode cX8_cell 85 = .ok (.iload_n 1, 1) := by decide +kernel
theorem dX8_cell_86 : decode cX8_cell 86 = .ok (.iadd, 1) := by decide +kernel
theorem dX8_cell_87 : decode cX8_cell 87 = .ok (.iload_n 2, 1) := by decide +kernel
theorem dX8_cell_88 : decode cX8_cell 88 = .ok (.isub, 1) := by decide +kernel
theorem dX8_cell_89 : decode cX8_cell 89 = .ok (.iaload, 1) := by decide +kernel
theorem dX8_cell_90 : decode cX8_cell 90 = .ok (.ireturn, 1) := by decide +kernel
theorem dX8_carried_0 : decode cX8_carried 0 = .ok (.aload_n 0, 1) := by decide +kernel
theorem dX8_carried_1 : decode cX8_carried 1 = .ok (.iconst 0, 1) := by decide +kernel
theorem dX8_carried_2 : decode cX8_carried 2 = .ok (.putfield 25, 3) := by decide +kernel
theorem dX8_carried_5 : decode cX8_carried 5 = .ok (.aload_n 0, 1) := by decide +kernel
theorem dX8_carried_6 : decode cX8_carried 6 = .ok (.getfield 7, 3) := by decide +kernel
theorem dX8_carried_9 : decode cX8_carried 9 = .ok (.iconst 4, 1) := by decide +kernel
theorem dX8_carried_10 : decode cX8_carried 10 = .ok (.iaload, 1) := by decide +kernel
theorem dX8_carried_11 : decode cX8_carried 11 = .ok (.ireturn, 1) := by decide +kernel
theorem dX8_copied_0 : decode cX8_copied 0 = .ok (.aload_n 0, 1) := by decide +kernel
theorem dX8_copied_1 : decode cX8_copied 1 = .ok (.iconst 0, 1) := by decide +kernel
theorem dX8_copied_2 : decode cX8_copied 2 = .ok (.putfield 25, 3) := by decide +kernel
theorem dX8_copied_5 : decode cX8_copied 5 = .ok (.aload_n 0, 1) := by decide +kernel
theorem dX8_copied_6 : decode cX8_copied 6 = .ok (.getfield 7, 3) := by decide +kernel
theorem dX8_copied_9 : decode cX8_copied 9 = .ok (.iconst 5, 1) := by decide +kernel
theorem dX8_copied_10 : decode cX8_copied 10 = .ok (.iaload, 1) := by decide +kernel
theorem dX8_copied_11 : decode cX8_copied 11 = .ok (.ireturn, 1) := by decide +kernel
theorem dX8_growths_0 : decode cX8_growths 0 = .ok (.aload_n 0, 1) := by decide +kernel
theorem dX8_growths_1 : decode cX8_growths 1 = .ok (.iconst 0, 1) := by decide +kernel
theorem dX8_growths_2 : decode cX8_growths 2 = .ok (.putfield 25, 3) := by decide +kernel
theorem dX8_growths_5 : decode cX8_growths 5 = .ok (.aload_n 0, 1) := by decide +kernel
theorem dX8_growths_6 : decode cX8_growths 6 = .ok (.getfield 7, 3) := by decide +kernel
theorem dX8_growths_9 : decode cX8_growths 9 = .ok (.bipush 6, 2) := by decide +kernel
theorem dX8_growths_11 : decode cX8_growths 11 = .ok (.iaload, 1) := by decide +kernel
theorem dX8_growths_12 : decode cX8_growths 12 = .ok (.ireturn, 1) := by decide +kernel
theorem dX8_shrinks_0 : decode cX8_shrinks 0 = .ok (.aload_n 0, 1) := by decide +kernel
theorem dX8_shrinks_1 : decode cX8_shrinks 1 = .ok (.iconst 0, 1) := by decide +kernel
theorem dX8_shrinks_2 : decode cX8_shrinks 2 = .ok (.putfield 25, 3) := by decide +kernel
theorem dX8_shrinks_5 : decode cX8_shrinks 5 = .ok (.aload_n 0, 1) := by decide +kernel
theorem dX8_shrinks_6 : decode cX8_shrinks 6 = .ok (.getfield 7, 3) := by decide +kernel
theorem dX8_shrinks_9 : decode cX8_shrinks 9 = .ok (.bipush 7, 2) := by decide +kernel
theorem dX8_shrinks_11 : decode cX8_shrinks 11 = .ok (.iaload, 1) := by decide +kernel
theorem dX8_shrinks_12 : decode cX8_shrinks 12 = .ok (.ireturn, 1) := by decide +kernel
theorem dX8_growing_0 : decode cX8_growing 0 = .ok (.iconst 0, 1) := by decide +kernel
theorem dX8_growing_1 : decode cX8_growing 1 = .ok (.istore_n 3, 1) := by decide +kernel
theorem dX8_growing_2 : decode cX8_growing 2 = .ok (.iload_n 0, 1) := by decide +kernel
theorem dX8_growing_3 : decode cX8_growing 3 = .ok (.istore 4, 2) := by decide +kernel
theorem dX8_growing_5 : decode cX8_growing 5 = .ok (.iload 4, 2) := by decide +kernel
theorem dX8_growing_7 : decode cX8_growing 7 = .ok (.iload_n 1, 1) := by decide +kernel
theorem dX8_growing_8 : decode cX8_growing 8 = .ok (.isub, 1) := by decide +kernel
theorem dX8_growing_9 : decode cX8_growing 9 = .ok (.iload_n 2, 1) := by decide +kernel
theorem dX8_growing_10 : decode cX8_growing 10 = .ok (.if_icmp .ge 16, 3) := by decide +kernel
theorem dX8_growing_13 : decode cX8_growing 13 = .ok (.iload_n 3, 1) := by decide +kernel
theorem dX8_growing_14 : decode cX8_growing 14 = .ok (.iload_n 1, 1) := by decide +kernel
theorem dX8_growing_15 : decode cX8_growing 15 = .ok (.iadd, 1) := by decide +kernel
theorem dX8_growing_16 : decode cX8_growing 16 = .ok (.istore_n 3, 1) := by decide +kernel
theorem dX8_growing_17 : decode cX8_growing 17 = .ok (.iload 4, 2) := by decide +kernel
theorem dX8_growing_19 : decode cX8_growing 19 = .ok (.iconst 2, 1) := by decide +kernel
theorem dX8_growing_20 : decode cX8_growing 20 = .ok (.imul, 1) := by decide +kernel
theorem dX8_growing_21 : decode cX8_growing 21 = .ok (.istore 4, 2) := by decide +kernel
theorem dX8_growing_23 : decode cX8_growing 23 = .ok (.goto (-18), 3) := by decide +kernel
theorem dX8_growing_26 : decode cX8_growing 26 = .ok (.iload_n 3, 1) := by decide +kernel
theorem dX8_growing_27 : decode cX8_growing 27 = .ok (.ireturn, 1) := by decide +kernel
theorem dX8_costOf_0 : decode cX8_costOf 0 = .ok (.aload_n 0, 1) := by decide +kernel
theorem dX8_costOf_1 : decode cX8_costOf 1 = .ok (.iconst 0, 1) := by decide +kernel
theorem dX8_costOf_2 : decode cX8_costOf 2 = .ok (.putfield 25, 3) := by decide +kernel
theorem dX8_costOf_5 : decode cX8_costOf 5 = .ok (.aload_n 0, 1) := by decide +kernel
theorem dX8_costOf_6 : decode cX8_costOf 6 = .ok (.iload_n 1, 1) := by decide +kernel
theorem dX8_costOf_7 : decode cX8_costOf 7 = .ok (.invokevirtual 90, 3) := by decide +kernel
theorem dX8_costOf_10 : decode cX8_costOf 10 = .ok (.ifCond .ne 9, 3) := by decide +kernel
theorem dX8_costOf_13 : decode cX8_costOf 13 = .ok (.aload_n 0, 1) := by decide +kernel
theorem dX8_costOf_14 : decode cX8_costOf 14 = .ok (.iconst 1, 1) := by decide +kernel
theorem dX8_costOf_15 : decode cX8_costOf 15 = .ok (.invokevirtual 66, 3) := by decide +kernel
theorem dX8_costOf_18 : decode cX8_costOf 18 = .ok (.ireturn, 1) := by decide +kernel
theorem dX8_costOf_19 : decode cX8_costOf 19 = .ok (.iload_n 2, 1) := by decide +kernel
theorem dX8_costOf_20 : decode cX8_costOf 20 = .ok (.iconst 1, 1) := by decide +kernel
theorem dX8_costOf_21 : decode cX8_costOf 21 = .ok (.bipush 100, 2) := by decide +kernel
theorem dX8_costOf_23 : decode cX8_costOf 23 = .ok (.invokestatic 29, 3) := by decide +kernel
theorem dX8_costOf_26 : decode cX8_costOf 26 = .ok (.ifCond .ne 9, 3) := by decide +kernel
theorem dX8_costOf_29 : decode cX8_costOf 29 = .ok (.aload_n 0, 1) := by decide +kernel
theorem dX8_costOf_30 : decode cX8_costOf 30 = .ok (.iconst 2, 1) := by decide +kernel
theorem dX8_costOf_31 : decode cX8_costOf 31 = .ok (.invokevirtual 66, 3) := by decide +kernel
theorem dX8_costOf_34 : decode cX8_costOf 34 = .ok (.ireturn, 1) := by decide +kernel
theorem dX8_costOf_35 : decode cX8_costOf 35 = .ok (.aload_n 0, 1) := by decide +kernel
theorem dX8_costOf_36 : decode cX8_costOf 36 = .ok (.iload_n 2, 1) := by decide +kernel
theorem dX8_costOf_37 : decode cX8_costOf 37 = .ok (.invokevirtual 69, 3) := by decide +kernel
theorem dX8_costOf_40 : decode cX8_costOf 40 = .ok (.ifCond .eq 34, 3) := by decide +kernel
theorem dX8_costOf_43 : decode cX8_costOf 43 = .ok (.aload_n 0, 1) := by decide +kernel
theorem dX8_costOf_44 : decode cX8_costOf 44 = .ok (.getfield 7, 3) := by decide +kernel
theorem dX8_costOf_47 : decode cX8_costOf 47 = .ok (.iconst 2, 1) := by decide +kernel
theorem dX8_costOf_48 : decode cX8_costOf 48 = .ok (.iaload, 1) := by decide +kernel
theorem dX8_costOf_49 : decode cX8_costOf 49 = .ok (.iload_n 1, 1) := by decide +kernel
theorem dX8_costOf_50 : decode cX8_costOf 50 = .ok (.isub, 1) := by decide +kernel
theorem dX8_costOf_51 : decode cX8_costOf 51 = .ok (.invokestatic 40, 3) := by decide +kernel
theorem dX8_costOf_54 : decode cX8_costOf 54 = .ok (.aload_n 0, 1) := by decide +kernel
theorem dX8_costOf_55 : decode cX8_costOf 55 = .ok (.getfield 7, 3) := by decide +kernel
theorem dX8_costOf_58 : decode cX8_costOf 58 = .ok (.iconst 3, 1) := by decide +kernel
theorem dX8_costOf_59 : decode cX8_costOf 59 = .ok (.iaload, 1) := by decide +kernel
theorem dX8_costOf_60 : decode cX8_costOf 60 = .ok (.aload_n 0, 1) := by decide +kernel
theorem dX8_costOf_61 : decode cX8_costOf 61 = .ok (.getfield 7, 3) := by decide +kernel
theorem dX8_costOf_64 : decode cX8_costOf 64 = .ok (.iconst 0, 1) := by decide +kernel
theorem dX8_costOf_65 : decode cX8_costOf 65 = .ok (.iaload, 1) := by decide +kernel
theorem dX8_costOf_66 : decode cX8_costOf 66 = .ok (.iload_n 2, 1) := by decide +kernel
theorem dX8_costOf_67 : decode cX8_costOf 67 = .ok (.invokestatic 133, 3) := by decide +kernel
theorem dX8_costOf_70 : decode cX8_costOf 70 = .ok (.iadd, 1) := by decide +kernel
theorem dX8_costOf_71 : decode cX8_costOf 71 = .ok (.goto 4, 3) := by decide +kernel
theorem dX8_costOf_74 : decode cX8_costOf 74 = .ok (.iconst (-1), 1) := by decide +kernel
theorem dX8_costOf_75 : decode cX8_costOf 75 = .ok (.ireturn, 1) := by decide +kernel
theorem dX8_costOfTwo_0 : decode cX8_costOfTwo 0 = .ok (.aload_n 0, 1) := by decide +kernel
theorem dX8_costOfTwo_1 : decode cX8_costOfTwo 1 = .ok (.iconst 0, 1) := by decide +kernel
theorem dX8_costOfTwo_2 : decode cX8_costOfTwo 2 = .ok (.putfield 25, 3) := by decide +kernel
theorem dX8_costOfTwo_5 : decode cX8_costOfTwo 5 = .ok (.aload_n 0, 1) := by decide +kernel
theorem dX8_costOfTwo_6 : decode cX8_costOfTwo 6 = .ok (.iload_n 1, 1) := by decide +kernel
theorem dX8_costOfTwo_7 : decode cX8_costOfTwo 7 = .ok (.invokevirtual 90, 3) := by decide +kernel
theorem dX8_costOfTwo_10 : decode cX8_costOfTwo 10 = .ok (.ifCond .eq 11, 3) := by decide +kernel
theorem dX8_costOfTwo_13 : decode cX8_costOfTwo 13 = .ok (.aload_n 0, 1) := by decide +kernel
theorem dX8_costOfTwo_14 : decode cX8_costOfTwo 14 = .ok (.iload_n 2, 1) := by decide +kernel
theorem dX8_costOfTwo_15 : decode cX8_costOfTwo 15 = .ok (.invokevirtual 90, 3) := by decide +kernel
theorem dX8_costOfTwo_18 : decode cX8_costOfTwo 18 = .ok (.ifCond .ne 9, 3) := by decide +kernel
theorem dX8_costOfTwo_21 : decode cX8_costOfTwo 21 = .ok (.aload_n 0, 1) := by decide +kernel
theorem dX8_costOfTwo_22 : decode cX8_costOfTwo 22 = .ok (.iconst 1, 1) := by decide +kernel
theorem dX8_costOfTwo_23 : decode cX8_costOfTwo 23 = .ok (.invokevirtual 66, 3) := by decide +kernel
theorem dX8_costOfTwo_26 : decode cX8_costOfTwo 26 = .ok (.ireturn, 1) := by decide +kernel
theorem dX8_costOfTwo_27 : decode cX8_costOfTwo 27 = .ok (.aload_n 0, 1) := by decide +kernel
theorem dX8_costOfTwo_28 : decode cX8_costOfTwo 28 = .ok (.iconst 2, 1) := by decide +kernel
theorem dX8_costOfTwo_29 : decode cX8_costOfTwo 29 = .ok (.invokevirtual 69, 3) := by decide +kernel
theorem dX8_costOfTwo_32 : decode cX8_costOfTwo 32 = .ok (.ifCond .ne 5, 3) := by decide +kernel
theorem dX8_costOfTwo_35 : decode cX8_costOfTwo 35 = .ok (.iconst (-1), 1) := by decide +kernel
theorem dX8_costOfTwo_36 : decode cX8_costOfTwo 36 = .ok (.ireturn, 1) := by decide +kernel
theorem dX8_costOfTwo_37 : decode cX8_costOfTwo 37 = .ok (.aload_n 0, 1) := by decide +kernel
theorem dX8_costOfTwo_38 : decode cX8_costOfTwo 38 = .ok (.getfield 7, 3) := by decide +kernel
theorem dX8_costOfTwo_41 : decode cX8_costOfTwo 41 = .ok (.iconst 3, 1) := by decide +kernel
theorem dX8_costOfTwo_42 : decode cX8_costOfTwo 42 = .ok (.iaload, 1) := by decide +kernel
theorem dX8_costOfTwo_43 : decode cX8_costOfTwo 43 = .ok (.aload_n 0, 1) := by decide +kernel
theorem dX8_costOfTwo_44 : decode cX8_costOfTwo 44 = .ok (.getfield 7, 3) := by decide +kernel
theorem dX8_costOfTwo_47 : decode cX8_costOfTwo 47 = .ok (.iconst 0, 1) := by decide +kernel
theorem dX8_costOfTwo_48 : decode cX8_costOfTwo 48 = .ok (.iaload, 1) := by decide +kernel
theorem dX8_costOfTwo_49 : decode cX8_costOfTwo 49 = .ok (.iconst 1, 1) := by decide +kernel
theorem dX8_costOfTwo_50 : decode cX8_costOfTwo 50 = .ok (.invokestatic 133, 3) := by decide +kernel
theorem dX8_costOfTwo_53 : decode cX8_costOfTwo 53 = .ok (.istore_n 3, 1) := by decide +kernel
theorem dX8_costOfTwo_54 : decode cX8_costOfTwo 54 = .ok (.aload_n 0, 1) := by decide +kernel
theorem dX8_costOfTwo_55 : decode cX8_costOfTwo 55 = .ok (.getfield 7, 3) := by decide +kernel
theorem dX8_costOfTwo_58 : decode cX8_costOfTwo 58 = .ok (.iconst 3, 1) := by decide +kernel
theorem dX8_costOfTwo_59 : decode cX8_costOfTwo 59 = .ok (.iaload, 1) := by decide +kernel
theorem dX8_costOfTwo_60 : decode cX8_costOfTwo 60 = .ok (.aload_n 0, 1) := by decide +kernel
theorem dX8_costOfTwo_61 : decode cX8_costOfTwo 61 = .ok (.getfield 7, 3) := by decide +kernel
theorem dX8_costOfTwo_64 : decode cX8_costOfTwo 64 = .ok (.iconst 0, 1) := by decide +kernel
theorem dX8_costOfTwo_65 : decode cX8_costOfTwo 65 = .ok (.iaload, 1) := by decide +kernel
theorem dX8_costOfTwo_66 : decode cX8_costOfTwo 66 = .ok (.if_icmp .ne 14, 3) := by decide +kernel
theorem dX8_costOfTwo_69 : decode cX8_costOfTwo 69 = .ok (.iconst 2, 1) := by decide +kernel
theorem dX8_costOfTwo_70 : decode cX8_costOfTwo 70 = .ok (.aload_n 0, 1) := by decide +kernel
theorem dX8_costOfTwo_71 : decode cX8_costOfTwo 71 = .ok (.getfield 7, 3) := by decide +kernel
theorem dX8_costOfTwo_74 : decode cX8_costOfTwo 74 = .ok (.iconst 3, 1) := by decide +kernel
theorem dX8_costOfTwo_75 : decode cX8_costOfTwo 75 = .ok (.iaload, 1) := by decide +kernel
theorem dX8_costOfTwo_76 : decode cX8_costOfTwo 76 = .ok (.imul, 1) := by decide +kernel
theorem dX8_costOfTwo_77 : decode cX8_costOfTwo 77 = .ok (.goto 9, 3) := by decide +kernel
theorem dX8_costOfTwo_80 : decode cX8_costOfTwo 80 = .ok (.aload_n 0, 1) := by decide +kernel
theorem dX8_costOfTwo_81 : decode cX8_costOfTwo 81 = .ok (.getfield 7, 3) := by decide +kernel
theorem dX8_costOfTwo_84 : decode cX8_costOfTwo 84 = .ok (.iconst 3, 1) := by decide +kernel
theorem dX8_costOfTwo_85 : decode cX8_costOfTwo 85 = .ok (.iaload, 1) := by decide +kernel
theorem dX8_costOfTwo_86 : decode cX8_costOfTwo 86 = .ok (.istore 4, 2) := by decide +kernel
theorem dX8_costOfTwo_88 : decode cX8_costOfTwo 88 = .ok (.iload_n 2, 1) := by decide +kernel
theorem dX8_costOfTwo_89 : decode cX8_costOfTwo 89 = .ok (.iload_n 1, 1) := by decide +kernel
theorem dX8_costOfTwo_90 : decode cX8_costOfTwo 90 = .ok (.if_icmp .lt 9, 3) := by decide +kernel
theorem dX8_costOfTwo_93 : decode cX8_costOfTwo 93 = .ok (.iload_n 2, 1) := by decide +kernel
theorem dX8_costOfTwo_94 : decode cX8_costOfTwo 94 = .ok (.iconst 1, 1) := by decide +kernel
theorem dX8_costOfTwo_95 : decode cX8_costOfTwo 95 = .ok (.iadd, 1) := by decide +kernel
theorem dX8_costOfTwo_96 : decode cX8_costOfTwo 96 = .ok (.goto 4, 3) := by decide +kernel
theorem dX8_costOfTwo_99 : decode cX8_costOfTwo 99 = .ok (.iload_n 2, 1) := by decide +kernel
theorem dX8_costOfTwo_100 : decode cX8_costOfTwo 100 = .ok (.istore 5, 2) := by decide +kernel
theorem dX8_costOfTwo_102 : decode cX8_costOfTwo 102 = .ok (.aload_n 0, 1) := by decide +kernel
theorem dX8_costOfTwo_103 : decode cX8_costOfTwo 103 = .ok (.getfield 7, 3) := by decide +kernel
theorem dX8_costOfTwo_106 : decode cX8_costOfTwo 106 = .ok (.iconst 2, 1) := by decide +kernel
theorem dX8_costOfTwo_107 : decode cX8_costOfTwo 107 = .ok (.iaload, 1) := by decide +kernel
theorem dX8_costOfTwo_108 : decode cX8_costOfTwo 108 = .ok (.iload_n 1, 1) := by decide +kernel
theorem dX8_costOfTwo_109 : decode cX8_costOfTwo 109 = .ok (.isub, 1) := by decide +kernel
theorem dX8_costOfTwo_110 : decode cX8_costOfTwo 110 = .ok (.invokestatic 40, 3) := by decide +kernel
theorem dX8_costOfTwo_113 : decode cX8_costOfTwo 113 = .ok (.iload_n 3, 1) := by decide +kernel
theorem dX8_costOfTwo_114 : decode cX8_costOfTwo 114 = .ok (.iadd, 1) := by decide +kernel
theorem dX8_costOfTwo_115 : decode cX8_costOfTwo 115 = .ok (.iload_n 1, 1) := by decide +kernel
theorem dX8_costOfTwo_116 : decode cX8_costOfTwo 116 = .ok (.iconst 1, 1) := by decide +kernel
theorem dX8_costOfTwo_117 : decode cX8_costOfTwo 117 = .ok (.iadd, 1) := by decide +kernel
theorem dX8_costOfTwo_118 : decode cX8_costOfTwo 118 = .ok (.iload 5, 2) := by decide +kernel
theorem dX8_costOfTwo_120 : decode cX8_costOfTwo 120 = .ok (.isub, 1) := by decide +kernel
theorem dX8_costOfTwo_121 : decode cX8_costOfTwo 121 = .ok (.invokestatic 40, 3) := by decide +kernel
theorem dX8_costOfTwo_124 : decode cX8_costOfTwo 124 = .ok (.iadd, 1) := by decide +kernel
theorem dX8_costOfTwo_125 : decode cX8_costOfTwo 125 = .ok (.iload 4, 2) := by decide +kernel
theorem dX8_costOfTwo_127 : decode cX8_costOfTwo 127 = .ok (.aload_n 0, 1) := by decide +kernel
theorem dX8_costOfTwo_128 : decode cX8_costOfTwo 128 = .ok (.getfield 7, 3) := by decide +kernel
theorem dX8_costOfTwo_131 : decode cX8_costOfTwo 131 = .ok (.iconst 0, 1) := by decide +kernel
theorem dX8_costOfTwo_132 : decode cX8_costOfTwo 132 = .ok (.iaload, 1) := by decide +kernel
theorem dX8_costOfTwo_133 : decode cX8_costOfTwo 133 = .ok (.iconst 1, 1) := by decide +kernel
theorem dX8_costOfTwo_134 : decode cX8_costOfTwo 134 = .ok (.iadd, 1) := by decide +kernel
theorem dX8_costOfTwo_135 : decode cX8_costOfTwo 135 = .ok (.iconst 1, 1) := by decide +kernel
theorem dX8_costOfTwo_136 : decode cX8_costOfTwo 136 = .ok (.invokestatic 133, 3) := by decide +kernel
theorem dX8_costOfTwo_139 : decode cX8_costOfTwo 139 = .ok (.iadd, 1) := by decide +kernel
theorem dX8_costOfTwo_140 : decode cX8_costOfTwo 140 = .ok (.ireturn, 1) := by decide +kernel
theorem dX8_room_0 : decode cX8_room 0 = .ok (.aload_n 0, 1) := by decide +kernel
theorem dX8_room_1 : decode cX8_room 1 = .ok (.iconst 0, 1) := by decide +kernel
theorem dX8_room_2 : decode cX8_room 2 = .ok (.putfield 25, 3) := by decide +kernel
theorem dX8_room_5 : decode cX8_room 5 = .ok (.aload_n 0, 1) := by decide +kernel
theorem dX8_room_6 : decode cX8_room 6 = .ok (.getfield 7, 3) := by decide +kernel
theorem dX8_room_9 : decode cX8_room 9 = .ok (.iconst 3, 1) := by decide +kernel
theorem dX8_room_10 : decode cX8_room 10 = .ok (.iaload, 1) := by decide +kernel
theorem dX8_room_11 : decode cX8_room 11 = .ok (.aload_n 0, 1) := by decide +kernel
theorem dX8_room_12 : decode cX8_room 12 = .ok (.getfield 7, 3) := by decide +kernel
theorem dX8_room_15 : decode cX8_room 15 = .ok (.iconst 0, 1) := by decide +kernel
theorem dX8_room_16 : decode cX8_room 16 = .ok (.iaload, 1) := by decide +kernel
theorem dX8_room_17 : decode cX8_room 17 = .ok (.isub, 1) := by decide +kernel
theorem dX8_room_18 : decode cX8_room 18 = .ok (.ireturn, 1) := by decide +kernel
theorem dX8_append_0 : decode cX8_append 0 = .ok (.aload_n 0, 1) := by decide +kernel
theorem dX8_append_1 : decode cX8_append 1 = .ok (.iconst 0, 1) := by decide +kernel
theorem dX8_append_2 : decode cX8_append 2 = .ok (.putfield 25, 3) := by decide +kernel
theorem dX8_append_5 : decode cX8_append 5 = .ok (.iload_n 1, 1) := by decide +kernel
theorem dX8_append_6 : decode cX8_append 6 = .ok (.bipush 33, 2) := by decide +kernel
theorem dX8_append_8 : decode cX8_append 8 = .ok (.bipush 126, 2) := by decide +kernel
theorem dX8_append_10 : decode cX8_append 10 = .ok (.invokestatic 29, 3) := by decide +kernel
theorem dX8_append_13 : decode cX8_append 13 = .ok (.ifCond .ne 9, 3) := by decide +kernel
theorem dX8_append_16 : decode cX8_append 16 = .ok (.aload_n 0, 1) := by decide +kernel
theorem dX8_append_17 : decode cX8_append 17 = .ok (.iconst 1, 1) := by decide +kernel
theorem dX8_append_18 : decode cX8_append 18 = .ok (.invokevirtual 66, 3) := by decide +kernel
theorem dX8_append_21 : decode cX8_append 21 = .ok (.ireturn, 1) := by decide +kernel
theorem dX8_append_22 : decode cX8_append 22 = .ok (.aload_n 0, 1) := by decide +kernel
theorem dX8_append_23 : decode cX8_append 23 = .ok (.getfield 137, 3) := by decide +kernel
theorem dX8_append_26 : decode cX8_append 26 = .ok (.bipush 60, 2) := by decide +kernel
theorem dX8_append_28 : decode cX8_append 28 = .ok (.if_icmp .ne 9, 3) := by decide +kernel
theorem dX8_append_31 : decode cX8_append 31 = .ok (.aload_n 0, 1) := by decide +kernel
theorem dX8_append_32 : decode cX8_append 32 = .ok (.iconst 2, 1) := by decide +kernel
theorem dX8_append_33 : decode cX8_append 33 = .ok (.invokevirtual 66, 3) := by decide +kernel
theorem dX8_append_36 : decode cX8_append 36 = .ok (.ireturn, 1) := by decide +kernel
theorem dX8_append_37 : decode cX8_append 37 = .ok (.aload_n 0, 1) := by decide +kernel
theorem dX8_append_38 : decode cX8_append 38 = .ok (.getfield 16, 3) := by decide +kernel
theorem dX8_append_41 : decode cX8_append 41 = .ok (.aload_n 0, 1) := by decide +kernel
theorem dX8_append_42 : decode cX8_append 42 = .ok (.getfield 137, 3) := by decide +kernel
theorem dX8_append_45 : decode cX8_append 45 = .ok (.iload_n 1, 1) := by decide +kernel
