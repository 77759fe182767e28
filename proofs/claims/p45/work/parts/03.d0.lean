theorem dX0_init_0 : decode cX0_init 0 = .ok (.aload_n 0, 1) := by decide +kernel
theorem dX0_init_1 : decode cX0_init 1 = .ok (.invokespecial 3, 3) := by decide +kernel
theorem dX0_init_4 : decode cX0_init 4 = .ok (.aload_n 0, 1) := by decide +kernel
theorem dX0_init_5 : decode cX0_init 5 = .ok (.iconst 0, 1) := by decide +kernel
theorem dX0_init_6 : decode cX0_init 6 = .ok (.putfield 9, 3) := by decide +kernel
theorem dX0_init_9 : decode cX0_init 9 = .ok (.aload_n 0, 1) := by decide +kernel
theorem dX0_init_10 : decode cX0_init 10 = .ok (.iconst 0, 1) := by decide +kernel
theorem dX0_init_11 : decode cX0_init 11 = .ok (.iload_n 1, 1) := by decide +kernel
theorem dX0_init_12 : decode cX0_init 12 = .ok (.invokestatic 15, 3) := by decide +kernel
theorem dX0_init_15 : decode cX0_init 15 = .ok (.newarray .int, 2) := by decide +kernel
theorem dX0_init_17 : decode cX0_init 17 = .ok (.putfield 21, 3) := by decide +kernel
theorem dX0_init_20 : decode cX0_init 20 = .ok (.return_, 1) := by decide +kernel
theorem dX0_size_0 : decode cX0_size 0 = .ok (.aload_n 0, 1) := by decide +kernel
theorem dX0_size_1 : decode cX0_size 1 = .ok (.getfield 9, 3) := by decide +kernel
theorem dX0_size_4 : decode cX0_size 4 = .ok (.ireturn, 1) := by decide +kernel
theorem dX0_at_0 : decode cX0_at 0 = .ok (.iload_n 1, 1) := by decide +kernel
theorem dX0_at_1 : decode cX0_at 1 = .ok (.ifCond .lt 20, 3) := by decide +kernel
theorem dX0_at_4 : decode cX0_at 4 = .ok (.iload_n 1, 1) := by decide +kernel
theorem dX0_at_5 : decode cX0_at 5 = .ok (.aload_n 0, 1) := by decide +kernel
theorem dX0_at_6 : decode cX0_at 6 = .ok (.getfield 9, 3) := by decide +kernel
theorem dX0_at_9 : decode cX0_at 9 = .ok (.if_icmp .ge 12, 3) := by decide +kernel
theorem dX0_at_12 : decode cX0_at 12 = .ok (.aload_n 0, 1) := by decide +kernel
theorem dX0_at_13 : decode cX0_at 13 = .ok (.getfield 21, 3) := by decide +kernel
theorem dX0_at_16 : decode cX0_at 16 = .ok (.iload_n 1, 1) := by decide +kernel
theorem dX0_at_17 : decode cX0_at 17 = .ok (.iaload, 1) := by decide +kernel
theorem dX0_at_18 : decode cX0_at 18 = .ok (.goto 4, 3) := by decide +kernel
theorem dX0_at_21 : decode cX0_at 21 = .ok (.iconst (-1), 1) := by decide +kernel
theorem dX0_at_22 : decode cX0_at 22 = .ok (.ireturn, 1) := by decide +kernel
theorem dX0_put_0 : decode cX0_put 0 = .ok (.iload_n 1, 1) := by decide +kernel
theorem dX0_put_1 : decode cX0_put 1 = .ok (.ifCond .lt 18, 3) := by decide +kernel
theorem dX0_put_4 : decode cX0_put 4 = .ok (.iload_n 1, 1) := by decide +kernel
theorem dX0_put_5 : decode cX0_put 5 = .ok (.aload_n 0, 1) := by decide +kernel
theorem dX0_put_6 : decode cX0_put 6 = .ok (.getfield 9, 3) := by decide +kernel
theorem dX0_put_9 : decode cX0_put 9 = .ok (.if_icmp .ge 10, 3) := by decide +kernel
theorem dX0_put_12 : decode cX0_put 12 = .ok (.aload_n 0, 1) := by decide +kernel
theorem dX0_put_13 : decode cX0_put 13 = .ok (.getfield 21, 3) := by decide +kernel
theorem dX0_put_16 : decode cX0_put 16 = .ok (.iload_n 1, 1) := by decide +kernel
theorem dX0_put_17 : decode cX0_put 17 = .ok (.iload_n 2, 1) := by decide +kernel
theorem dX0_put_18 : decode cX0_put 18 = .ok (.iastore, 1) := by decide +kernel
theorem dX0_put_19 : decode cX0_put 19 = .ok (.return_, 1) := by decide +kernel
theorem dX0_open_0 : decode cX0_open 0 = .ok (.iload_n 2, 1) := by decide +kernel
theorem dX0_open_1 : decode cX0_open 1 = .ok (.ifCond .lt 21, 3) := by decide +kernel
theorem dX0_open_4 : decode cX0_open 4 = .ok (.iload_n 2, 1) := by decide +kernel
theorem dX0_open_5 : decode cX0_open 5 = .ok (.aload_n 0, 1) := by decide +kernel
theorem dX0_open_6 : decode cX0_open 6 = .ok (.getfield 21, 3) := by decide +kernel
theorem dX0_open_9 : decode cX0_open 9 = .ok (.arraylength, 1) := by decide +kernel
theorem dX0_open_10 : decode cX0_open 10 = .ok (.aload_n 0, 1) := by decide +kernel
theorem dX0_open_11 : decode cX0_open 11 = .ok (.getfield 9, 3) := by decide +kernel
theorem dX0_open_14 : decode cX0_open 14 = .ok (.isub, 1) := by decide +kernel
theorem dX0_open_15 : decode cX0_open 15 = .ok (.if_icmp .gt 7, 3) := by decide +kernel
theorem dX0_open_18 : decode cX0_open 18 = .ok (.iconst 1, 1) := by decide +kernel
theorem dX0_open_19 : decode cX0_open 19 = .ok (.goto 4, 3) := by decide +kernel
theorem dX0_open_22 : decode cX0_open 22 = .ok (.iconst 0, 1) := by decide +kernel
theorem dX0_open_23 : decode cX0_open 23 = .ok (.istore_n 3, 1) := by decide +kernel
theorem dX0_open_24 : decode cX0_open 24 = .ok (.iload_n 3, 1) := by decide +kernel
theorem dX0_open_25 : decode cX0_open 25 = .ok (.ifCond .eq 46, 3) := by decide +kernel
theorem dX0_open_28 : decode cX0_open 28 = .ok (.iload_n 1, 1) := by decide +kernel
theorem dX0_open_29 : decode cX0_open 29 = .ok (.ifCond .lt 42, 3) := by decide +kernel
theorem dX0_open_32 : decode cX0_open 32 = .ok (.iload_n 1, 1) := by decide +kernel
theorem dX0_open_33 : decode cX0_open 33 = .ok (.aload_n 0, 1) := by decide +kernel
theorem dX0_open_34 : decode cX0_open 34 = .ok (.getfield 9, 3) := by decide +kernel
theorem dX0_open_37 : decode cX0_open 37 = .ok (.if_icmp .gt 34, 3) := by decide +kernel
theorem dX0_open_40 : decode cX0_open 40 = .ok (.aload_n 0, 1) := by decide +kernel
theorem dX0_open_41 : decode cX0_open 41 = .ok (.getfield 21, 3) := by decide +kernel
theorem dX0_open_44 : decode cX0_open 44 = .ok (.iload_n 1, 1) := by decide +kernel
theorem dX0_open_45 : decode cX0_open 45 = .ok (.aload_n 0, 1) := by decide +kernel
theorem dX0_open_46 : decode cX0_open 46 = .ok (.getfield 21, 3) := by decide +kernel
theorem dX0_open_49 : decode cX0_open 49 = .ok (.iload_n 1, 1) := by decide +kernel
theorem dX0_open_50 : decode cX0_open 50 = .ok (.iload_n 2, 1) := by decide +kernel
theorem dX0_open_51 : decode cX0_open 51 = .ok (.iadd, 1) := by decide +kernel
theorem dX0_open_52 : decode cX0_open 52 = .ok (.aload_n 0, 1) := by decide +kernel
theorem dX0_open_53 : decode cX0_open 53 = .ok (.getfield 9, 3) := by decide +kernel
theorem dX0_open_56 : decode cX0_open 56 = .ok (.iload_n 1, 1) := by decide +kernel
theorem dX0_open_57 : decode cX0_open 57 = .ok (.isub, 1) := by decide +kernel
theorem dX0_open_58 : decode cX0_open 58 = .ok (.invokestatic 32, 3) := by decide +kernel
theorem dX0_open_61 : decode cX0_open 61 = .ok (.aload_n 0, 1) := by decide +kernel
theorem dX0_open_62 : decode cX0_open 62 = .ok (.dup, 1) := by decide +kernel
theorem dX0_open_63 : decode cX0_open 63 = .ok (.getfield 9, 3) := by decide +kernel
theorem dX0_open_66 : decode cX0_open 66 = .ok (.iload_n 2, 1) := by decide +kernel
theorem dX0_open_67 : decode cX0_open 67 = .ok (.iadd, 1) := by decide +kernel
theorem dX0_open_68 : decode cX0_open 68 = .ok (.putfield 9, 3) := by decide +kernel
theorem dX0_open_71 : decode cX0_open 71 = .ok (.return_, 1) := by decide +kernel
theorem dX0_close_0 : decode cX0_close 0 = .ok (.iload_n 1, 1) := by decide +kernel
theorem dX0_close_1 : decode cX0_close 1 = .ok (.ifCond .lt 50, 3) := by decide +kernel
theorem dX0_close_4 : decode cX0_close 4 = .ok (.iload_n 2, 1) := by decide +kernel
theorem dX0_close_5 : decode cX0_close 5 = .ok (.ifCond .lt 46, 3) := by decide +kernel
theorem dX0_close_8 : decode cX0_close 8 = .ok (.iload_n 2, 1) := by decide +kernel
theorem dX0_close_9 : decode cX0_close 9 = .ok (.aload_n 0, 1) := by decide +kernel
theorem dX0_close_10 : decode cX0_close 10 = .ok (.getfield 9, 3) := by decide +kernel
theorem dX0_close_13 : decode cX0_close 13 = .ok (.iload_n 1, 1) := by decide +kernel
theorem dX0_close_14 : decode cX0_close 14 = .ok (.isub, 1) := by decide +kernel
theorem dX0_close_15 : decode cX0_close 15 = .ok (.if_icmp .gt 36, 3) := by decide +kernel
theorem dX0_close_18 : decode cX0_close 18 = .ok (.iload_n 1, 1) := by decide +kernel
theorem dX0_close_19 : decode cX0_close 19 = .ok (.iload_n 2, 1) := by decide +kernel
theorem dX0_close_20 : decode cX0_close 20 = .ok (.iadd, 1) := by decide +kernel
theorem dX0_close_21 : decode cX0_close 21 = .ok (.istore_n 3, 1) := by decide +kernel
theorem dX0_close_22 : decode cX0_close 22 = .ok (.aload_n 0, 1) := by decide +kernel
theorem dX0_close_23 : decode cX0_close 23 = .ok (.getfield 21, 3) := by decide +kernel
theorem dX0_close_26 : decode cX0_close 26 = .ok (.iload_n 3, 1) := by decide +kernel
theorem dX0_close_27 : decode cX0_close 27 = .ok (.aload_n 0, 1) := by decide +kernel
theorem dX0_close_28 : decode cX0_close 28 = .ok (.getfield 21, 3) := by decide +kernel
theorem dX0_close_31 : decode cX0_close 31 = .ok (.iload_n 1, 1) := by decide +kernel
theorem dX0_close_32 : decode cX0_close 32 = .ok (.aload_n 0, 1) := by decide +kernel
theorem dX0_close_33 : decode cX0_close 33 = .ok (.getfield 9, 3) := by decide +kernel
theorem dX0_close_36 : decode cX0_close 36 = .ok (.iload_n 3, 1) := by decide +kernel
theorem dX0_close_37 : decode cX0_close 37 = .ok (.isub, 1) := by decide +kernel
theorem dX0_close_38 : decode cX0_close 38 = .ok (.invokestatic 32, 3) := by decide +kernel
theorem dX0_close_41 : decode cX0_close 41 = .ok (.aload_n 0, 1) := by decide +kernel
theorem dX0_close_42 : decode cX0_close 42 = .ok (.dup, 1) := by decide +kernel
theorem dX0_close_43 : decode cX0_close 43 = .ok (.getfield 9, 3) := by decide +kernel
theorem dX0_close_46 : decode cX0_close 46 = .ok (.iload_n 2, 1) := by decide +kernel
theorem dX0_close_47 : decode cX0_close 47 = .ok (.isub, 1) := by decide +kernel
theorem dX0_close_48 : decode cX0_close 48 = .ok (.putfield 9, 3) := by decide +kernel
theorem dX0_close_51 : decode cX0_close 51 = .ok (.return_, 1) := by decide +kernel
theorem dX0_assign_0 : decode cX0_assign 0 = .ok (.iload_n 2, 1) := by decide +kernel
theorem dX0_assign_1 : decode cX0_assign 1 = .ok (.ifCond .lt 21, 3) := by decide +kernel
theorem dX0_assign_4 : decode cX0_assign 4 = .ok (.iload_n 3, 1) := by decide +kernel
theorem dX0_assign_5 : decode cX0_assign 5 = .ok (.ifCond .lt 17, 3) := by decide +kernel
theorem dX0_assign_8 : decode cX0_assign 8 = .ok (.iload_n 3, 1) := by decide +kernel
theorem dX0_assign_9 : decode cX0_assign 9 = .ok (.aload_n 1, 1) := by decide +kernel
theorem dX0_assign_10 : decode cX0_assign 10 = .ok (.getfield 9, 3) := by decide +kernel
theorem dX0_assign_13 : decode cX0_assign 13 = .ok (.iload_n 2, 1) := by decide +kernel
theorem dX0_assign_14 : decode cX0_assign 14 = .ok (.isub, 1) := by decide +kernel
theorem dX0_assign_15 : decode cX0_assign 15 = .ok (.if_icmp .gt 7, 3) := by decide +kernel
theorem dX0_assign_18 : decode cX0_assign 18 = .ok (.iconst 1, 1) := by decide +kernel
theorem dX0_assign_19 : decode cX0_assign 19 = .ok (.goto 4, 3) := by decide +kernel
theorem dX0_assign_22 : decode cX0_assign 22 = .ok (.iconst 0, 1) := by decide +kernel
theorem dX0_assign_23 : decode cX0_assign 23 = .ok (.istore 4, 2) := by decide +kernel
theorem dX0_assign_25 : decode cX0_assign 25 = .ok (.iload 4, 2) := by decide +kernel
theorem dX0_assign_27 : decode cX0_assign 27 = .ok (.ifCond .eq 31, 3) := by decide +kernel
theorem dX0_assign_30 : decode cX0_assign 30 = .ok (.iload_n 3, 1) := by decide +kernel
theorem dX0_assign_31 : decode cX0_assign 31 = .ok (.aload_n 0, 1) := by decide +kernel
theorem dX0_assign_32 : decode cX0_assign 32 = .ok (.getfield 21, 3) := by decide +kernel
theorem dX0_assign_35 : decode cX0_assign 35 = .ok (.arraylength, 1) := by decide +kernel
theorem dX0_assign_36 : decode cX0_assign 36 = .ok (.if_icmp .gt 22, 3) := by decide +kernel
theorem dX0_assign_39 : decode cX0_assign 39 = .ok (.aload_n 1, 1) := by decide +kernel
theorem dX0_assign_40 : decode cX0_assign 40 = .ok (.getfield 21, 3) := by decide +kernel
theorem dX0_assign_43 : decode cX0_assign 43 = .ok (.iload_n 2, 1) := by decide +kernel
theorem dX0_assign_44 : decode cX0_assign 44 = .ok (.aload_n 0, 1) := by decide +kernel
theorem dX0_assign_45 : decode cX0_assign 45 = .ok (.getfield 21, 3) := by decide +kernel
theorem dX0_assign_48 : decode cX0_assign 48 = .ok (.iconst 0, 1) := by decide +kernel
theorem dX0_assign_49 : decode cX0_assign 49 = .ok (.iload_n 3, 1) := by decide +kernel
theorem dX0_assign_50 : decode cX0_assign 50 = .ok (.invokestatic 32, 3) := by decide +kernel
theorem dX0_assign_53 : decode cX0_assign 53 = .ok (.aload_n 0, 1) := by decide +kernel
theorem dX0_assign_54 : decode cX0_assign 54 = .ok (.iload_n 3, 1) := by decide +kernel
theorem dX0_assign_55 : decode cX0_assign 55 = .ok (.putfield 9, 3) := by decide +kernel
theorem dX0_assign_58 : decode cX0_assign 58 = .ok (.return_, 1) := by decide +kernel
theorem dX0_lineCount_0 : decode cX0_lineCount 0 = .ok (.aload_n 0, 1) := by decide +kernel
theorem dX0_lineCount_1 : decode cX0_lineCount 1 = .ok (.aload_n 0, 1) := by decide +kernel
theorem dX0_lineCount_2 : decode cX0_lineCount 2 = .ok (.getfield 9, 3) := by decide +kernel
theorem dX0_lineCount_5 : decode cX0_lineCount 5 = .ok (.invokevirtual 46, 3) := by decide +kernel
theorem dX0_lineCount_8 : decode cX0_lineCount 8 = .ok (.iconst 1, 1) := by decide +kernel
theorem dX0_lineCount_9 : decode cX0_lineCount 9 = .ok (.iadd, 1) := by decide +kernel
theorem dX0_lineCount_10 : decode cX0_lineCount 10 = .ok (.ireturn, 1) := by decide +kernel
theorem dX0_breaksBefore_0 : decode cX0_breaksBefore 0 = .ok (.iconst 0, 1) := by decide +kernel
theorem dX0_breaksBefore_1 : decode cX0_breaksBefore 1 = .ok (.istore_n 2, 1) := by decide +kernel
theorem dX0_breaksBefore_2 : decode cX0_breaksBefore 2 = .ok (.iconst 0, 1) := by decide +kernel
theorem dX0_breaksBefore_3 : decode cX0_breaksBefore 3 = .ok (.istore_n 3, 1) := by decide +kernel
theorem dX0_breaksBefore_4 : decode cX0_breaksBefore 4 = .ok (.iload_n 3, 1) := by decide +kernel
theorem dX0_breaksBefore_5 : decode cX0_breaksBefore 5 = .ok (.iload_n 1, 1) := by decide +kernel
theorem dX0_breaksBefore_6 : decode cX0_breaksBefore 6 = .ok (.if_icmp .ge 22, 3) := by decide +kernel
theorem dX0_breaksBefore_9 : decode cX0_breaksBefore 9 = .ok (.aload_n 0, 1) := by decide +kernel
theorem dX0_breaksBefore_10 : decode cX0_breaksBefore 10 = .ok (.iload_n 3, 1) := by decide +kernel
theorem dX0_breaksBefore_11 : decode cX0_breaksBefore 11 = .ok (.invokevirtual 42, 3) := by decide +kernel
theorem dX0_breaksBefore_14 : decode cX0_breaksBefore 14 = .ok (.bipush 10, 2) := by decide +kernel
theorem dX0_breaksBefore_16 : decode cX0_breaksBefore 16 = .ok (.if_icmp .ne 6, 3) := by decide +kernel
theorem dX0_breaksBefore_19 : decode cX0_breaksBefore 19 = .ok (.iinc 2 1, 3) := by decide +kernel
theorem dX0_breaksBefore_22 : decode cX0_breaksBefore 22 = .ok (.iinc 3 1, 3) := by decide +kernel
theorem dX0_breaksBefore_25 : decode cX0_breaksBefore 25 = .ok (.goto (-21), 3) := by decide +kernel
theorem dX0_breaksBefore_28 : decode cX0_breaksBefore 28 = .ok (.iload_n 2, 1) := by decide +kernel
theorem dX0_breaksBefore_29 : decode cX0_breaksBefore 29 = .ok (.ireturn, 1) := by decide +kernel
theorem dX0_lineBegin_0 : decode cX0_lineBegin 0 = .ok (.iload_n 1, 1) := by decide +kernel
theorem dX0_lineBegin_1 : decode cX0_lineBegin 1 = .ok (.istore_n 2, 1) := by decide +kernel
theorem dX0_lineBegin_2 : decode cX0_lineBegin 2 = .ok (.iload_n 2, 1) := by decide +kernel
theorem dX0_lineBegin_3 : decode cX0_lineBegin 3 = .ok (.ifCond .le 21, 3) := by decide +kernel
theorem dX0_lineBegin_6 : decode cX0_lineBegin 6 = .ok (.aload_n 0, 1) := by decide +kernel
theorem dX0_lineBegin_7 : decode cX0_lineBegin 7 = .ok (.iload_n 2, 1) := by decide +kernel
theorem dX0_lineBegin_8 : decode cX0_lineBegin 8 = .ok (.iconst 1, 1) := by decide +kernel
theorem dX0_lineBegin_9 : decode cX0_lineBegin 9 = .ok (.isub, 1) := by decide +kernel
theorem dX0_lineBegin_10 : decode cX0_lineBegin 10 = .ok (.invokevirtual 42, 3) := by decide +kernel
theorem dX0_lineBegin_13 : decode cX0_lineBegin 13 = .ok (.bipush 10, 2) := by decide +kernel
theorem dX0_lineBegin_15 : decode cX0_lineBegin 15 = .ok (.if_icmp .eq 9, 3) := by decide +kernel
theorem dX0_lineBegin_18 : decode cX0_lineBegin 18 = .ok (.iinc 2 (-1), 3) := by decide +kernel
theorem dX0_lineBegin_21 : decode cX0_lineBegin 21 = .ok (.goto (-19), 3) := by decide +kernel
theorem dX0_lineBegin_24 : decode cX0_lineBegin 24 = .ok (.iload_n 2, 1) := by decide +kernel
theorem dX0_lineBegin_25 : decode cX0_lineBegin 25 = .ok (.ireturn, 1) := by decide +kernel
theorem dX0_lineEnd_0 : decode cX0_lineEnd 0 = .ok (.iload_n 1, 1) := by decide +kernel
theorem dX0_lineEnd_1 : decode cX0_lineEnd 1 = .ok (.istore_n 2, 1) := by decide +kernel
theorem dX0_lineEnd_2 : decode cX0_lineEnd 2 = .ok (.iload_n 2, 1) := by decide +kernel
theorem dX0_lineEnd_3 : decode cX0_lineEnd 3 = .ok (.aload_n 0, 1) := by decide +kernel
theorem dX0_lineEnd_4 : decode cX0_lineEnd 4 = .ok (.getfield 9, 3) := by decide +kernel
theorem dX0_lineEnd_7 : decode cX0_lineEnd 7 = .ok (.if_icmp .ge 19, 3) := by decide +kernel
theorem dX0_lineEnd_10 : decode cX0_lineEnd 10 = .ok (.aload_n 0, 1) := by decide +kernel
theorem dX0_lineEnd_11 : decode cX0_lineEnd 11 = .ok (.iload_n 2, 1) := by decide +kernel
theorem dX0_lineEnd_12 : decode cX0_lineEnd 12 = .ok (.invokevirtual 42, 3) := by decide +kernel
theorem dX0_lineEnd_15 : decode cX0_lineEnd 15 = .ok (.bipush 10, 2) := by decide +kernel
theorem dX0_lineEnd_17 : decode cX0_lineEnd 17 = .ok (.if_icmp .eq 9, 3) := by decide +kernel
theorem dX0_lineEnd_20 : decode cX0_lineEnd 20 = .ok (.iinc 2 1, 3) := by decide +kernel
theorem dX0_lineEnd_23 : decode cX0_lineEnd 23 = .ok (.goto (-21), 3) := by decide +kernel
theorem dX0_lineEnd_26 : decode cX0_lineEnd 26 = .ok (.iload_n 2, 1) := by decide +kernel
theorem dX0_lineEnd_27 : decode cX0_lineEnd 27 = .ok (.ireturn, 1) := by decide +kernel
theorem dX1_init_0 : decode cX1_init 0 = .ok (.aload_n 0, 1) := by decide +kernel
theorem dX1_init_1 : decode cX1_init 1 = .ok (.invokespecial 3, 3) := by decide +kernel
theorem dX1_init_4 : decode cX1_init 4 = .ok (.aload_n 0, 1) := by decide +kernel
theorem dX1_init_5 : decode cX1_init 5 = .ok (.new 9, 3) := by decide +kernel
theorem dX1_init_8 : decode cX1_init 8 = .ok (.dup, 1) := by decide +kernel
theorem dX1_init_9 : decode cX1_init 9 = .ok (.bipush 60, 2) := by decide +kernel
theorem dX1_init_11 : decode cX1_init 11 = .ok (.invokespecial 11, 3) := by decide +kernel
theorem dX1_init_14 : decode cX1_init 14 = .ok (.putfield 14, 3) := by decide +kernel
theorem dX1_init_17 : decode cX1_init 17 = .ok (.aload_n 0, 1) := by decide +kernel
theorem dX1_init_18 : decode cX1_init 18 = .ok (.new 20, 3) := by decide +kernel
theorem dX1_init_21 : decode cX1_init 21 = .ok (.dup, 1) := by decide +kernel
theorem dX1_init_22 : decode cX1_init 22 = .ok (.invokespecial 22, 3) := by decide +kernel
theorem dX1_init_25 : decode cX1_init 25 = .ok (.putfield 23, 3) := by decide +kernel
theorem dX1_init_28 : decode cX1_init 28 = .ok (.return_, 1) := by decide +kernel
theorem dX2_init_0 : decode cX2_init 0 = .ok (.aload_n 0, 1) := by decide +kernel
theorem dX2_init_1 : decode cX2_init 1 = .ok (.invokespecial 3, 3) := by decide +kernel
theorem dX2_init_4 : decode cX2_init 4 = .ok (.aload_n 0, 1) := by decide +kernel
theorem dX2_init_5 : decode cX2_init 5 = .ok (.bipush 6, 2) := by decide +kernel
theorem dX2_init_7 : decode cX2_init 7 = .ok (.anewarray 9, 3) := by decide +kernel
theorem dX2_init_10 : decode cX2_init 10 = .ok (.putfield 11, 3) := by decide +kernel
theorem dX2_init_13 : decode cX2_init 13 = .ok (.aload_n 0, 1) := by decide +kernel
theorem dX2_init_14 : decode cX2_init 14 = .ok (.iconst 0, 1) := by decide +kernel
theorem dX2_init_15 : decode cX2_init 15 = .ok (.putfield 17, 3) := by decide +kernel
theorem dX2_init_18 : decode cX2_init 18 = .ok (.aload_n 0, 1) := by decide +kernel
theorem dX2_init_19 : decode cX2_init 19 = .ok (.iconst 0, 1) := by decide +kernel
theorem dX2_init_20 : decode cX2_init 20 = .ok (.putfield 21, 3) := by decide +kernel
theorem dX2_init_23 : decode cX2_init 23 = .ok (.iconst 0, 1) := by decide +kernel
theorem dX2_init_24 : decode cX2_init 24 = .ok (.istore_n 1, 1) := by decide +kernel
theorem dX2_init_25 : decode cX2_init 25 = .ok (.iload_n 1, 1) := by decide +kernel
theorem dX2_init_26 : decode cX2_init 26 = .ok (.aload_n 0, 1) := by decide +kernel
theorem dX2_init_27 : decode cX2_init 27 = .ok (.getfield 11, 3) := by decide +kernel
theorem dX2_init_30 : decode cX2_init 30 = .ok (.arraylength, 1) := by decide +kernel
theorem dX2_init_31 : decode cX2_init 31 = .ok (.if_icmp .ge 22, 3) := by decide +kernel
theorem dX2_init_34 : decode cX2_init 34 = .ok (.aload_n 0, 1) := by decide +kernel
theorem dX2_init_35 : decode cX2_init 35 = .ok (.getfield 11, 3) := by decide +kernel
theorem dX2_init_38 : decode cX2_init 38 = .ok (.iload_n 1, 1) := by decide +kernel
theorem dX2_init_39 : decode cX2_init 39 = .ok (.new 9, 3) := by decide +kernel
theorem dX2_init_42 : decode cX2_init 42 = .ok (.dup, 1) := by decide +kernel
theorem dX2_init_43 : decode cX2_init 43 = .ok (.invokespecial 24, 3) := by decide +kernel
theorem dX2_init_46 : decode cX2_init 46 = .ok (.aastore, 1) := by decide +kernel
theorem dX2_init_47 : decode cX2_init 47 = .ok (.iinc 1 1, 3) := by decide +kernel
theorem dX2_init_50 : decode cX2_init 50 = .ok (.goto (-25), 3) := by decide +kernel
theorem dX2_init_53 : decode cX2_init 53 = .ok (.return_, 1) := by decide +kernel
theorem dX2_count_0 : decode cX2_count 0 = .ok (.aload_n 0, 1) := by decide +kernel
theorem dX2_count_1 : decode cX2_count 1 = .ok (.getfield 21, 3) := by decide +kernel
theorem dX2_count_4 : decode cX2_count 4 = .ok (.ireturn, 1) := by decide +kernel
theorem dX2_save_0 : decode cX2_save 0 = .ok (.aload_n 0, 1) := by decide +kernel
theorem dX2_save_1 : decode cX2_save 1 = .ok (.getfield 17, 3) := by decide +kernel
theorem dX2_save_4 : decode cX2_save 4 = .ok (.aload_n 0, 1) := by decide +kernel
theorem dX2_save_5 : decode cX2_save 5 = .ok (.getfield 11, 3) := by decide +kernel
theorem dX2_save_8 : decode cX2_save 8 = .ok (.arraylength, 1) := by decide +kernel
theorem dX2_save_9 : decode cX2_save 9 = .ok (.if_icmp .ne 8, 3) := by decide +kernel
theorem dX2_save_12 : decode cX2_save 12 = .ok (.aload_n 0, 1) := by decide +kernel
theorem dX2_save_13 : decode cX2_save 13 = .ok (.iconst 0, 1) := by decide +kernel
theorem dX2_save_14 : decode cX2_save 14 = .ok (.putfield 17, 3) := by decide +kernel
theorem dX2_save_17 : decode cX2_save 17 = .ok (.aload_n 0, 1) := by decide +kernel
theorem dX2_save_18 : decode cX2_save 18 = .ok (.getfield 11, 3) := by decide +kernel
theorem dX2_save_21 : decode cX2_save 21 = .ok (.aload_n 0, 1) := by decide +kernel
theorem dX2_save_22 : decode cX2_save 22 = .ok (.getfield 17, 3) := by decide +kernel
theorem dX2_save_25 : decode cX2_save 25 = .ok (.aaload, 1) := by decide +kernel
theorem dX2_save_26 : decode cX2_save 26 = .ok (.aload_n 1, 1) := by decide +kernel
theorem dX2_save_27 : decode cX2_save 27 = .ok (.invokevirtual 25, 3) := by decide +kernel
theorem dX2_save_30 : decode cX2_save 30 = .ok (.aload_n 0, 1) := by decide +kernel
theorem dX2_save_31 : decode cX2_save 31 = .ok (.dup, 1) := by decide +kernel
theorem dX2_save_32 : decode cX2_save 32 = .ok (.getfield 17, 3) := by decide +kernel
theorem dX2_save_35 : decode cX2_save 35 = .ok (.iconst 1, 1) := by decide +kernel
theorem dX2_save_36 : decode cX2_save 36 = .ok (.iadd, 1) := by decide +kernel
theorem dX2_save_37 : decode cX2_save 37 = .ok (.putfield 17, 3) := by decide +kernel
theorem dX2_save_40 : decode cX2_save 40 = .ok (.aload_n 0, 1) := by decide +kernel
theorem dX2_save_41 : decode cX2_save 41 = .ok (.aload_n 0, 1) := by decide +kernel
theorem dX2_save_42 : decode cX2_save 42 = .ok (.getfield 21, 3) := by decide +kernel
theorem dX2_save_45 : decode cX2_save 45 = .ok (.iconst 1, 1) := by decide +kernel
theorem dX2_save_46 : decode cX2_save 46 = .ok (.iadd, 1) := by decide +kernel
theorem dX2_save_47 : decode cX2_save 47 = .ok (.aload_n 0, 1) := by decide +kernel
theorem dX2_save_48 : decode cX2_save 48 = .ok (.getfield 11, 3) := by decide +kernel
theorem dX2_save_51 : decode cX2_save 51 = .ok (.arraylength, 1) := by decide +kernel
theorem dX2_save_52 : decode cX2_save 52 = .ok (.invokestatic 29, 3) := by decide +kernel
theorem dX2_save_55 : decode cX2_save 55 = .ok (.putfield 21, 3) := by decide +kernel
theorem dX2_save_58 : decode cX2_save 58 = .ok (.return_, 1) := by decide +kernel
theorem dX2_restore_0 : decode cX2_restore 0 = .ok (.aload_n 0, 1) := by decide +kernel
theorem dX2_restore_1 : decode cX2_restore 1 = .ok (.aload_n 0, 1) := by decide +kernel
theorem dX2_restore_2 : decode cX2_restore 2 = .ok (.getfield 17, 3) := by decide +kernel
theorem dX2_restore_5 : decode cX2_restore 5 = .ok (.ifCond .le 12, 3) := by decide +kernel
theorem dX2_restore_8 : decode cX2_restore 8 = .ok (.aload_n 0, 1) := by decide +kernel
theorem dX2_restore_9 : decode cX2_restore 9 = .ok (.getfield 17, 3) := by decide +kernel
theorem dX2_restore_12 : decode cX2_restore 12 = .ok (.iconst 1, 1) := by decide +kernel
theorem dX2_restore_13 : decode cX2_restore 13 = .ok (.isub, 1) := by decide +kernel
theorem dX2_restore_14 : decode cX2_restore 14 = .ok (.goto 10, 3) := by decide +kernel
theorem dX2_restore_17 : decode cX2_restore 17 = .ok (.aload_n 0, 1) := by decide +kernel
theorem dX2_restore_18 : decode cX2_restore 18 = .ok (.getfield 11, 3) := by decide +kernel
theorem dX2_restore_21 : decode cX2_restore 21 = .ok (.arraylength, 1) := by decide +kernel
theorem dX2_restore_22 : decode cX2_restore 22 = .ok (.iconst 1, 1) := by decide +kernel
theorem dX2_restore_23 : decode cX2_restore 23 = .ok (.isub, 1) := by decide +kernel
theorem dX2_restore_24 : decode cX2_restore 24 = .ok (.putfield 17, 3) := by decide +kernel
theorem dX2_restore_27 : decode cX2_restore 27 = .ok (.aload_n 0, 1) := by decide +kernel
theorem dX2_restore_28 : decode cX2_restore 28 = .ok (.dup, 1) := by decide +kernel
theorem dX2_restore_29 : decode cX2_restore 29 = .ok (.getfield 21, 3) := by decide +kernel
theorem dX2_restore_32 : decode cX2_restore 32 = .ok (.iconst 1, 1) := by decide +kernel
theorem dX2_restore_33 : decode cX2_restore 33 = .ok (.isub, 1) := by decide +kernel
theorem dX2_restore_34 : decode cX2_restore 34 = .ok (.putfield 21, 3) := by decide +kernel
theorem dX2_restore_37 : decode cX2_restore 37 = .ok (.aload_n 1, 1) := by decide +kernel
theorem dX2_restore_38 : decode cX2_restore 38 = .ok (.aload_n 0, 1) := by decide +kernel
theorem dX2_restore_39 : decode cX2_restore 39 = .ok (.getfield 11, 3) := by decide +kernel
theorem dX2_restore_42 : decode cX2_restore 42 = .ok (.aload_n 0, 1) := by decide +kernel
theorem dX2_restore_43 : decode cX2_restore 43 = .ok (.getfield 17, 3) := by decide +kernel
theorem dX2_restore_46 : decode cX2_restore 46 = .ok (.aaload, 1) := by decide +kernel
theorem dX2_restore_47 : decode cX2_restore 47 = .ok (.invokevirtual 25, 3) := by decide +kernel
theorem dX2_restore_50 : decode cX2_restore 50 = .ok (.return_, 1) := by decide +kernel
theorem dX3_init_0 : decode cX3_init 0 = .ok (.aload_n 0, 1) := by decide +kernel
theorem dX3_init_1 : decode cX3_init 1 = .ok (.invokespecial 3, 3) := by decide +kernel
theorem dX3_init_4 : decode cX3_init 4 = .ok (.aload_n 0, 1) := by decide +kernel
theorem dX3_init_5 : decode cX3_init 5 = .ok (.bipush 8, 2) := by decide +kernel
theorem dX3_init_7 : decode cX3_init 7 = .ok (.putfield 9, 3) := by decide +kernel
theorem dX3_init_10 : decode cX3_init 10 = .ok (.aload_n 0, 1) := by decide +kernel
theorem dX3_init_11 : decode cX3_init 11 = .ok (.iconst 0, 1) := by decide +kernel
theorem dX3_init_12 : decode cX3_init 12 = .ok (.putfield 15, 3) := by decide +kernel
theorem dX3_init_15 : decode cX3_init 15 = .ok (.aload_n 0, 1) := by decide +kernel
theorem dX3_init_16 : decode cX3_init 16 = .ok (.iconst 0, 1) := by decide +kernel
theorem dX3_init_17 : decode cX3_init 17 = .ok (.putfield 18, 3) := by decide +kernel
theorem dX3_init_20 : decode cX3_init 20 = .ok (.aload_n 0, 1) := by decide +kernel
theorem dX3_init_21 : decode cX3_init 21 = .ok (.iconst 0, 1) := by decide +kernel
theorem dX3_init_22 : decode cX3_init 22 = .ok (.putfield 21, 3) := by decide +kernel
theorem dX3_init_25 : decode cX3_init 25 = .ok (.aload_n 0, 1) := by decide +kernel
theorem dX3_init_26 : decode cX3_init 26 = .ok (.iconst 0, 1) := by decide +kernel
theorem dX3_init_27 : decode cX3_init 27 = .ok (.putfield 24, 3) := by decide +kernel
theorem dX3_init_30 : decode cX3_init 30 = .ok (.aload_n 0, 1) := by decide +kernel
theorem dX3_init_31 : decode cX3_init 31 = .ok (.iconst 0, 1) := by decide +kernel
theorem dX3_init_32 : decode cX3_init 32 = .ok (.putfield 27, 3) := by decide +kernel
theorem dX3_init_35 : decode cX3_init 35 = .ok (.return_, 1) := by decide +kernel
theorem dX3_moveGap_0 : decode cX3_moveGap 0 = .ok (.iload_n 1, 1) := by decide +kernel
theorem dX3_moveGap_1 : decode cX3_moveGap 1 = .ok (.aload_n 0, 1) := by decide +kernel
theorem dX3_moveGap_2 : decode cX3_moveGap 2 = .ok (.getfield 15, 3) := by decide +kernel
theorem dX3_moveGap_5 : decode cX3_moveGap 5 = .ok (.isub, 1) := by decide +kernel
theorem dX3_moveGap_6 : decode cX3_moveGap 6 = .ok (.invokestatic 30, 3) := by decide +kernel
theorem dX3_moveGap_9 : decode cX3_moveGap 9 = .ok (.istore_n 2, 1) := by decide +kernel
theorem dX3_moveGap_10 : decode cX3_moveGap 10 = .ok (.aload_n 0, 1) := by decide +kernel
theorem dX3_moveGap_11 : decode cX3_moveGap 11 = .ok (.iload_n 1, 1) := by decide +kernel
theorem dX3_moveGap_12 : decode cX3_moveGap 12 = .ok (.putfield 15, 3) := by decide +kernel
theorem dX3_moveGap_15 : decode cX3_moveGap 15 = .ok (.aload_n 0, 1) := by decide +kernel
theorem dX3_moveGap_16 : decode cX3_moveGap 16 = .ok (.dup, 1) := by decide +kernel
theorem dX3_moveGap_17 : decode cX3_moveGap 17 = .ok (.getfield 18, 3) := by decide +kernel
theorem dX3_moveGap_20 : decode cX3_moveGap 20 = .ok (.iload_n 2, 1) := by decide +kernel
theorem dX3_moveGap_21 : decode cX3_moveGap 21 = .ok (.iadd, 1) := by decide +kernel
theorem dX3_moveGap_22 : decode cX3_moveGap 22 = .ok (.putfield 18, 3) := by decide +kernel
theorem dX3_moveGap_25 : decode cX3_moveGap 25 = .ok (.iload_n 2, 1) := by decide +kernel
theorem dX3_moveGap_26 : decode cX3_moveGap 26 = .ok (.ireturn, 1) := by decide +kernel
theorem dX3_insertAt_0 : decode cX3_insertAt 0 = .ok (.aload_n 0, 1) := by decide +kernel
theorem dX3_insertAt_1 : decode cX3_insertAt 1 = .ok (.iload_n 1, 1) := by decide +kernel
theorem dX3_insertAt_2 : decode cX3_insertAt 2 = .ok (.invokevirtual 36, 3) := by decide +kernel
theorem dX3_insertAt_5 : decode cX3_insertAt 5 = .ok (.pop, 1) := by decide +kernel
theorem dX3_insertAt_6 : decode cX3_insertAt 6 = .ok (.iconst 0, 1) := by decide +kernel
theorem dX3_insertAt_7 : decode cX3_insertAt 7 = .ok (.istore 4, 2) := by decide +kernel
theorem dX3_insertAt_9 : decode cX3_insertAt 9 = .ok (.iload 4, 2) := by decide +kernel
theorem dX3_insertAt_11 : decode cX3_insertAt 11 = .ok (.iconst 5, 1) := by decide +kernel
theorem dX3_insertAt_12 : decode cX3_insertAt 12 = .ok (.if_icmp .ge 49, 3) := by decide +kernel
theorem dX3_insertAt_15 : decode cX3_insertAt 15 = .ok (.aload_n 0, 1) := by decide +kernel
theorem dX3_insertAt_16 : decode cX3_insertAt 16 = .ok (.getfield 9, 3) := by decide +kernel
theorem dX3_insertAt_19 : decode cX3_insertAt 19 = .ok (.iload_n 3, 1) := by decide +kernel
theorem dX3_insertAt_20 : decode cX3_insertAt 20 = .ok (.isub, 1) := by decide +kernel
theorem dX3_insertAt_21 : decode cX3_insertAt 21 = .ok (.iload_n 2, 1) := by decide +kernel
theorem dX3_insertAt_22 : decode cX3_insertAt 22 = .ok (.if_icmp .ge 39, 3) := by decide +kernel
theorem dX3_insertAt_25 : decode cX3_insertAt 25 = .ok (.aload_n 0, 1) := by decide +kernel
theorem dX3_insertAt_26 : decode cX3_insertAt 26 = .ok (.dup, 1) := by decide +kernel
theorem dX3_insertAt_27 : decode cX3_insertAt 27 = .ok (.getfield 9, 3) := by decide +kernel
theorem dX3_insertAt_30 : decode cX3_insertAt 30 = .ok (.iconst 2, 1) := by decide +kernel
theorem dX3_insertAt_31 : decode cX3_insertAt 31 = .ok (.imul, 1) := by decide +kernel
theorem dX3_insertAt_32 : decode cX3_insertAt 32 = .ok (.putfield 9, 3) := by decide +kernel
theorem dX3_insertAt_35 : decode cX3_insertAt 35 = .ok (.aload_n 0, 1) := by decide +kernel
theorem dX3_insertAt_36 : decode cX3_insertAt 36 = .ok (.dup, 1) := by decide +kernel
theorem dX3_insertAt_37 : decode cX3_insertAt 37 = .ok (.getfield 21, 3) := by decide +kernel
theorem dX3_insertAt_40 : decode cX3_insertAt 40 = .ok (.iload_n 3, 1) := by decide +kernel
theorem dX3_insertAt_41 : decode cX3_insertAt 41 = .ok (.iadd, 1) := by decide +kernel
theorem dX3_insertAt_42 : decode cX3_insertAt 42 = .ok (.putfield 21, 3) := by decide +kernel
theorem dX3_insertAt_45 : decode cX3_insertAt 45 = .ok (.aload_n 0, 1) := by decide +kernel
theorem dX3_insertAt_46 : decode cX3_insertAt 46 = .ok (.dup, 1) := by decide +kernel
theorem dX3_insertAt_47 : decode cX3_insertAt 47 = .ok (.getfield 24, 3) := by decide +kernel
theorem dX3_insertAt_50 : decode cX3_insertAt 50 = .ok (.iconst 1, 1) := by decide +kernel
theorem dX3_insertAt_51 : decode cX3_insertAt 51 = .ok (.iadd, 1) := by decide +kernel
theorem dX3_insertAt_52 : decode cX3_insertAt 52 = .ok (.putfield 24, 3) := by decide +kernel
theorem dX3_insertAt_55 : decode cX3_insertAt 55 = .ok (.iinc 4 1, 3) := by decide +kernel
theorem dX3_insertAt_58 : decode cX3_insertAt 58 = .ok (.goto (-49), 3) := by decide +kernel
theorem dX3_insertAt_61 : decode cX3_insertAt 61 = .ok (.aload_n 0, 1) := by decide +kernel
theorem dX3_insertAt_62 : decode cX3_insertAt 62 = .ok (.dup, 1) := by decide +kernel
theorem dX3_insertAt_63 : decode cX3_insertAt 63 = .ok (.getfield 15, 3) := by decide +kernel
theorem dX3_insertAt_66 : decode cX3_insertAt 66 = .ok (.iload_n 2, 1) := by decide +kernel
theorem dX3_insertAt_67 : decode cX3_insertAt 67 = .ok (.iadd, 1) := by decide +kernel
theorem dX3_insertAt_68 : decode cX3_insertAt 68 = .ok (.putfield 15, 3) := by decide +kernel
theorem dX3_insertAt_71 : decode cX3_insertAt 71 = .ok (.return_, 1) := by decide +kernel
theorem dX3_deleteAt_0 : decode cX3_deleteAt 0 = .ok (.aload_n 0, 1) := by decide +kernel
theorem dX3_deleteAt_1 : decode cX3_deleteAt 1 = .ok (.iload_n 1, 1) := by decide +kernel
theorem dX3_deleteAt_2 : decode cX3_deleteAt 2 = .ok (.invokevirtual 36, 3) := by decide +kernel
theorem dX3_deleteAt_5 : decode cX3_deleteAt 5 = .ok (.pop, 1) := by decide +kernel
theorem dX3_deleteAt_6 : decode cX3_deleteAt 6 = .ok (.aload_n 0, 1) := by decide +kernel
theorem dX3_deleteAt_7 : decode cX3_deleteAt 7 = .ok (.iload_n 2, 1) := by decide +kernel
theorem dX3_deleteAt_8 : decode cX3_deleteAt 8 = .ok (.putfield 15, 3) := by decide +kernel
theorem dX3_deleteAt_11 : decode cX3_deleteAt 11 = .ok (.iconst 0, 1) := by decide +kernel
theorem dX3_deleteAt_12 : decode cX3_deleteAt 12 = .ok (.istore 4, 2) := by decide +kernel
theorem dX3_deleteAt_14 : decode cX3_deleteAt 14 = .ok (.iload 4, 2) := by decide +kernel
theorem dX3_deleteAt_16 : decode cX3_deleteAt 16 = .ok (.iconst 5, 1) := by decide +kernel
theorem dX3_deleteAt_17 : decode cX3_deleteAt 17 = .ok (.if_icmp .ge 47, 3) := by decide +kernel
theorem dX3_deleteAt_20 : decode cX3_deleteAt 20 = .ok (.aload_n 0, 1) := by decide +kernel
theorem dX3_deleteAt_21 : decode cX3_deleteAt 21 = .ok (.iload_n 3, 1) := by decide +kernel
theorem dX3_deleteAt_22 : decode cX3_deleteAt 22 = .ok (.invokevirtual 39, 3) := by decide +kernel
theorem dX3_deleteAt_25 : decode cX3_deleteAt 25 = .ok (.ifCond .eq 39, 3) := by decide +kernel
theorem dX3_deleteAt_28 : decode cX3_deleteAt 28 = .ok (.aload_n 0, 1) := by decide +kernel
theorem dX3_deleteAt_29 : decode cX3_deleteAt 29 = .ok (.dup, 1) := by decide +kernel
theorem dX3_deleteAt_30 : decode cX3_deleteAt 30 = .ok (.getfield 9, 3) := by decide +kernel
theorem dX3_deleteAt_33 : decode cX3_deleteAt 33 = .ok (.iconst 2, 1) := by decide +kernel
theorem dX3_deleteAt_34 : decode cX3_deleteAt 34 = .ok (.idiv, 1) := by decide +kernel
theorem dX3_deleteAt_35 : decode cX3_deleteAt 35 = .ok (.putfield 9, 3) := by decide +kernel
theorem dX3_deleteAt_38 : decode cX3_deleteAt 38 = .ok (.aload_n 0, 1) := by decide +kernel
theorem dX3_deleteAt_39 : decode cX3_deleteAt 39 = .ok (.dup, 1) := by decide +kernel
theorem dX3_deleteAt_40 : decode cX3_deleteAt 40 = .ok (.getfield 21, 3) := by decide +kernel
theorem dX3_deleteAt_43 : decode cX3_deleteAt 43 = .ok (.iload_n 3, 1) := by decide +kernel
theorem dX3_deleteAt_44 : decode cX3_deleteAt 44 = .ok (.iadd, 1) := by decide +kernel
theorem dX3_deleteAt_45 : decode cX3_deleteAt 45 = .ok (.putfield 21, 3) := by decide +kernel
theorem dX3_deleteAt_48 : decode cX3_deleteAt 48 = .ok (.aload_n 0, 1) := by decide +kernel
theorem dX3_deleteAt_49 : decode cX3_deleteAt 49 = .ok (.dup, 1) := by decide +kernel
theorem dX3_deleteAt_50 : decode cX3_deleteAt 50 = .ok (.getfield 27, 3) := by decide +kernel
theorem dX3_deleteAt_53 : decode cX3_deleteAt 53 = .ok (.iconst 1, 1) := by decide +kernel
theorem dX3_deleteAt_54 : decode cX3_deleteAt 54 = .ok (.iadd, 1) := by decide +kernel
theorem dX3_deleteAt_55 : decode cX3_deleteAt 55 = .ok (.putfield 27, 3) := by decide +kernel
theorem dX3_deleteAt_58 : decode cX3_deleteAt 58 = .ok (.iinc 4 1, 3) := by decide +kernel
theorem dX3_deleteAt_61 : decode cX3_deleteAt 61 = .ok (.goto (-47), 3) := by decide +kernel
theorem dX3_deleteAt_64 : decode cX3_deleteAt 64 = .ok (.return_, 1) := by decide +kernel
theorem dX3_isTooLarge_0 : decode cX3_isTooLarge 0 = .ok (.aload_n 0, 1) := by decide +kernel
theorem dX3_isTooLarge_1 : decode cX3_isTooLarge 1 = .ok (.getfield 9, 3) := by decide +kernel
theorem dX3_isTooLarge_4 : decode cX3_isTooLarge 4 = .ok (.bipush 8, 2) := by decide +kernel
theorem dX3_isTooLarge_6 : decode cX3_isTooLarge 6 = .ok (.if_icmp .le 17, 3) := by decide +kernel
theorem dX3_isTooLarge_9 : decode cX3_isTooLarge 9 = .ok (.iload_n 1, 1) := by decide +kernel
theorem dX3_isTooLarge_10 : decode cX3_isTooLarge 10 = .ok (.aload_n 0, 1) := by decide +kernel
theorem dX3_isTooLarge_11 : decode cX3_isTooLarge 11 = .ok (.getfield 9, 3) := by decide +kernel
theorem dX3_isTooLarge_14 : decode cX3_isTooLarge 14 = .ok (.iconst 4, 1) := by decide +kernel
theorem dX3_isTooLarge_15 : decode cX3_isTooLarge 15 = .ok (.idiv, 1) := by decide +kernel
theorem dX3_isTooLarge_16 : decode cX3_isTooLarge 16 = .ok (.if_icmp .gt 7, 3) := by decide +kernel
theorem dX3_isTooLarge_19 : decode cX3_isTooLarge 19 = .ok (.iconst 1, 1) := by decide +kernel
theorem dX3_isTooLarge_20 : decode cX3_isTooLarge 20 = .ok (.goto 4, 3) := by decide +kernel
theorem dX3_isTooLarge_23 : decode cX3_isTooLarge 23 = .ok (.iconst 0, 1) := by decide +kernel
theorem dX3_isTooLarge_24 : decode cX3_isTooLarge 24 = .ok (.ireturn, 1) := by decide +kernel
theorem dX3_assign_0 : decode cX3_assign 0 = .ok (.aload_n 0, 1) := by decide +kernel
theorem dX3_assign_1 : decode cX3_assign 1 = .ok (.aload_n 1, 1) := by decide +kernel
theorem dX3_assign_2 : decode cX3_assign 2 = .ok (.getfield 9, 3) := by decide +kernel
theorem dX3_assign_5 : decode cX3_assign 5 = .ok (.putfield 9, 3) := by decide +kernel
theorem dX3_assign_8 : decode cX3_assign 8 = .ok (.aload_n 0, 1) := by decide +kernel
theorem dX3_assign_9 : decode cX3_assign 9 = .ok (.aload_n 1, 1) := by decide +kernel
theorem dX3_assign_10 : decode cX3_assign 10 = .ok (.getfield 15, 3) := by decide +kernel
theorem dX3_assign_13 : decode cX3_assign 13 = .ok (.putfield 15, 3) := by decide +kernel
theorem dX3_assign_16 : decode cX3_assign 16 = .ok (.aload_n 0, 1) := by decide +kernel
theorem dX3_assign_17 : decode cX3_assign 17 = .ok (.aload_n 1, 1) := by decide +kernel
theorem dX3_assign_18 : decode cX3_assign 18 = .ok (.getfield 18, 3) := by decide +kernel
theorem dX3_assign_21 : decode cX3_assign 21 = .ok (.putfield 18, 3) := by decide +kernel
theorem dX3_assign_24 : decode cX3_assign 24 = .ok (.aload_n 0, 1) := by decide +kernel
theorem dX3_assign_25 : decode cX3_assign 25 = .ok (.aload_n 1, 1) := by decide +kernel
theorem dX3_assign_26 : decode cX3_assign 26 = .ok (.getfield 21, 3) := by decide +kernel
theorem dX3_assign_29 : decode cX3_assign 29 = .ok (.putfield 21, 3) := by decide +kernel
theorem dX3_assign_32 : decode cX3_assign 32 = .ok (.aload_n 0, 1) := by decide +kernel
theorem dX3_assign_33 : decode cX3_assign 33 = .ok (.aload_n 1, 1) := by decide +kernel
theorem dX3_assign_34 : decode cX3_assign 34 = .ok (.getfield 24, 3) := by decide +kernel
theorem dX3_assign_37 : decode cX3_assign 37 = .ok (.putfield 24, 3) := by decide +kernel
theorem dX3_assign_40 : decode cX3_assign 40 = .ok (.aload_n 0, 1) := by decide +kernel
theorem dX3_assign_41 : decode cX3_assign 41 = .ok (.aload_n 1, 1) := by decide +kernel
theorem dX3_assign_42 : decode cX3_assign 42 = .ok (.getfield 27, 3) := by decide +kernel
theorem dX3_assign_45 : decode cX3_assign 45 = .ok (.putfield 27, 3) := by decide +kernel
theorem dX3_assign_48 : decode cX3_assign 48 = .ok (.return_, 1) := by decide +kernel
theorem dX4_init_0 : decode cX4_init 0 = .ok (.aload_n 0, 1) := by decide +kernel
theorem dX4_init_1 : decode cX4_init 1 = .ok (.invokespecial 3, 3) := by decide +kernel
theorem dX4_init_4 : decode cX4_init 4 = .ok (.aload_n 0, 1) := by decide +kernel
theorem dX4_init_5 : decode cX4_init 5 = .ok (.iconst 4, 1) := by decide +kernel
theorem dX4_init_6 : decode cX4_init 6 = .ok (.newarray .int, 2) := by decide +kernel
theorem dX4_init_8 : decode cX4_init 8 = .ok (.putfield 9, 3) := by decide +kernel
theorem dX4_init_11 : decode cX4_init 11 = .ok (.aload_n 0, 1) := by decide +kernel
theorem dX4_init_12 : decode cX4_init 12 = .ok (.iconst 4, 1) := by decide +kernel
theorem dX4_init_13 : decode cX4_init 13 = .ok (.newarray .int, 2) := by decide +kernel
theorem dX4_init_15 : decode cX4_init 15 = .ok (.putfield 15, 3) := by decide +kernel
theorem dX4_init_18 : decode cX4_init 18 = .ok (.iconst 0, 1) := by decide +kernel
theorem dX4_init_19 : decode cX4_init 19 = .ok (.istore_n 1, 1) := by decide +kernel
theorem dX4_init_20 : decode cX4_init 20 = .ok (.iload_n 1, 1) := by decide +kernel
theorem dX4_init_21 : decode cX4_init 21 = .ok (.iconst 4, 1) := by decide +kernel
theorem dX4_init_22 : decode cX4_init 22 = .ok (.if_icmp .ge 16, 3) := by decide +kernel
theorem dX4_init_25 : decode cX4_init 25 = .ok (.aload_n 0, 1) := by decide +kernel
theorem dX4_init_26 : decode cX4_init 26 = .ok (.getfield 9, 3) := by decide +kernel
theorem dX4_init_29 : decode cX4_init 29 = .ok (.iload_n 1, 1) := by decide +kernel
theorem dX4_init_30 : decode cX4_init 30 = .ok (.iconst (-1), 1) := by decide +kernel
theorem dX4_init_31 : decode cX4_init 31 = .ok (.iastore, 1) := by decide +kernel
theorem dX4_init_32 : decode cX4_init 32 = .ok (.iinc 1 1, 3) := by decide +kernel
theorem dX4_init_35 : decode cX4_init 35 = .ok (.goto (-15), 3) := by decide +kernel
theorem dX4_init_38 : decode cX4_init 38 = .ok (.return_, 1) := by decide +kernel
theorem dX4_positionOf_0 : decode cX4_positionOf 0 = .ok (.iload_n 1, 1) := by decide +kernel
theorem dX4_positionOf_1 : decode cX4_positionOf 1 = .ok (.invokestatic 18, 3) := by decide +kernel
theorem dX4_positionOf_4 : decode cX4_positionOf 4 = .ok (.ifCond .eq 12, 3) := by decide +kernel
theorem dX4_positionOf_7 : decode cX4_positionOf 7 = .ok (.aload_n 0, 1) := by decide +kernel
theorem dX4_positionOf_8 : decode cX4_positionOf 8 = .ok (.getfield 9, 3) := by decide +kernel
theorem dX4_positionOf_11 : decode cX4_positionOf 11 = .ok (.iload_n 1, 1) := by decide +kernel
theorem dX4_positionOf_12 : decode cX4_positionOf 12 = .ok (.iaload, 1) := by decide +kernel
theorem dX4_positionOf_13 : decode cX4_positionOf 13 = .ok (.goto 4, 3) := by decide +kernel
theorem dX4_positionOf_16 : decode cX4_positionOf 16 = .ok (.iconst (-1), 1) := by decide +kernel
theorem dX4_positionOf_17 : decode cX4_positionOf 17 = .ok (.ireturn, 1) := by decide +kernel
theorem dX4_place_0 : decode cX4_place 0 = .ok (.iload_n 1, 1) := by decide +kernel
theorem dX4_place_1 : decode cX4_place 1 = .ok (.invokestatic 18, 3) := by decide +kernel
theorem dX4_place_4 : decode cX4_place 4 = .ok (.ifCond .eq 17, 3) := by decide +kernel
theorem dX4_place_7 : decode cX4_place 7 = .ok (.aload_n 0, 1) := by decide +kernel
theorem dX4_place_8 : decode cX4_place 8 = .ok (.getfield 9, 3) := by decide +kernel
theorem dX4_place_11 : decode cX4_place 11 = .ok (.iload_n 1, 1) := by decide +kernel
theorem dX4_place_12 : decode cX4_place 12 = .ok (.iload_n 2, 1) := by decide +kernel
theorem dX4_place_13 : decode cX4_place 13 = .ok (.iastore, 1) := by decide +kernel
theorem dX4_place_14 : decode cX4_place 14 = .ok (.aload_n 0, 1) := by decide +kernel
theorem dX4_place_15 : decode cX4_place 15 = .ok (.getfield 15, 3) := by decide +kernel
theorem dX4_place_18 : decode cX4_place 18 = .ok (.iload_n 1, 1) := by decide +kernel
theorem dX4_place_19 : decode cX4_place 19 = .ok (.iload_n 3, 1) := by decide +kernel
theorem dX4_place_20 : decode cX4_place 20 = .ok (.iastore, 1) := by decide +kernel
theorem dX4_place_21 : decode cX4_place 21 = .ok (.return_, 1) := by decide +kernel
theorem dX4_shiftForInsertion_0 : decode cX4_shiftForInsertion 0 = .ok (.iconst 0, 1) := by decide +kernel
theorem dX4_shiftForInsertion_1 : decode cX4_shiftForInsertion 1 = .ok (.istore_n 3, 1) := by decide +kernel
theorem dX4_shiftForInsertion_2 : decode cX4_shiftForInsertion 2 = .ok (.iload_n 3, 1) := by decide +kernel
theorem dX4_shiftForInsertion_3 : decode cX4_shiftForInsertion 3 = .ok (.iconst 4, 1) := by decide +kernel
theorem dX4_shiftForInsertion_4 : decode cX4_shiftForInsertion 4 = .ok (.if_icmp .ge 61, 3) := by decide +kernel
theorem dX4_shiftForInsertion_7 : decode cX4_shiftForInsertion 7 = .ok (.aload_n 0, 1) := by decide +kernel
theorem dX4_shiftForInsertion_8 : decode cX4_shiftForInsertion 8 = .ok (.getfield 9, 3) := by decide +kernel
theorem dX4_shiftForInsertion_11 : decode cX4_shiftForInsertion 11 = .ok (.iload_n 3, 1) := by decide +kernel
theorem dX4_shiftForInsertion_12 : decode cX4_shiftForInsertion 12 = .ok (.iaload, 1) := by decide +kernel
theorem dX4_shiftForInsertion_13 : decode cX4_shiftForInsertion 13 = .ok (.iload_n 1, 1) := by decide +kernel
theorem dX4_shiftForInsertion_14 : decode cX4_shiftForInsertion 14 = .ok (.if_icmp .ne 17, 3) := by decide +kernel
theorem dX4_shiftForInsertion_17 : decode cX4_shiftForInsertion 17 = .ok (.aload_n 0, 1) := by decide +kernel
theorem dX4_shiftForInsertion_18 : decode cX4_shiftForInsertion 18 = .ok (.getfield 15, 3) := by decide +kernel
theorem dX4_shiftForInsertion_21 : decode cX4_shiftForInsertion 21 = .ok (.iload_n 3, 1) := by decide +kernel
theorem dX4_shiftForInsertion_22 : decode cX4_shiftForInsertion 22 = .ok (.iaload, 1) := by decide +kernel
theorem dX4_shiftForInsertion_23 : decode cX4_shiftForInsertion 23 = .ok (.iconst 1, 1) := by decide +kernel
theorem dX4_shiftForInsertion_24 : decode cX4_shiftForInsertion 24 = .ok (.if_icmp .ne 7, 3) := by decide +kernel
theorem dX4_shiftForInsertion_27 : decode cX4_shiftForInsertion 27 = .ok (.iconst 1, 1) := by decide +kernel
theorem dX4_shiftForInsertion_28 : decode cX4_shiftForInsertion 28 = .ok (.goto 4, 3) := by decide +kernel
theorem dX4_shiftForInsertion_31 : decode cX4_shiftForInsertion 31 = .ok (.iconst 0, 1) := by decide +kernel
theorem dX4_shiftForInsertion_32 : decode cX4_shiftForInsertion 32 = .ok (.istore 4, 2) := by decide +kernel
theorem dX4_shiftForInsertion_34 : decode cX4_shiftForInsertion 34 = .ok (.aload_n 0, 1) := by decide +kernel
theorem dX4_shiftForInsertion_35 : decode cX4_shiftForInsertion 35 = .ok (.getfield 9, 3) := by decide +kernel
theorem dX4_shiftForInsertion_38 : decode cX4_shiftForInsertion 38 = .ok (.iload_n 3, 1) := by decide +kernel
theorem dX4_shiftForInsertion_39 : decode cX4_shiftForInsertion 39 = .ok (.iaload, 1) := by decide +kernel
theorem dX4_shiftForInsertion_40 : decode cX4_shiftForInsertion 40 = .ok (.iload_n 1, 1) := by decide +kernel
theorem dX4_shiftForInsertion_41 : decode cX4_shiftForInsertion 41 = .ok (.if_icmp .gt 8, 3) := by decide +kernel
theorem dX4_shiftForInsertion_44 : decode cX4_shiftForInsertion 44 = .ok (.iload 4, 2) := by decide +kernel
theorem dX4_shiftForInsertion_46 : decode cX4_shiftForInsertion 46 = .ok (.ifCond .eq 13, 3) := by decide +kernel
theorem dX4_shiftForInsertion_49 : decode cX4_shiftForInsertion 49 = .ok (.aload_n 0, 1) := by decide +kernel
theorem dX4_shiftForInsertion_50 : decode cX4_shiftForInsertion 50 = .ok (.getfield 9, 3) := by decide +kernel
theorem dX4_shiftForInsertion_53 : decode cX4_shiftForInsertion 53 = .ok (.iload_n 3, 1) := by decide +kernel
theorem dX4_shiftForInsertion_54 : decode cX4_shiftForInsertion 54 = .ok (.dup2, 1) := by decide +kernel
theorem dX4_shiftForInsertion_55 : decode cX4_shiftForInsertion 55 = .ok (.iaload, 1) := by decide +kernel
theorem dX4_shiftForInsertion_56 : decode cX4_shiftForInsertion 56 = .ok (.iload_n 2, 1) := by decide +kernel
theorem dX4_shiftForInsertion_57 : decode cX4_shiftForInsertion 57 = .ok (.iadd, 1) := by decide +kernel
theorem dX4_shiftForInsertion_58 : decode cX4_shiftForInsertion 58 = .ok (.iastore, 1) := by decide +kernel
theorem dX4_shiftForInsertion_59 : decode cX4_shiftForInsertion 59 = .ok (.iinc 3 1, 3) := by decide +kernel
theorem dX4_shiftForInsertion_62 : decode cX4_shiftForInsertion 62 = .ok (.goto (-60), 3) := by decide +kernel
theorem dX4_shiftForInsertion_65 : decode cX4_shiftForInsertion 65 = .ok (.return_, 1) := by decide +kernel
theorem dX4_shiftForDeletion_0 : decode cX4_shiftForDeletion 0 = .ok (.iconst 0, 1) := by decide +kernel
theorem dX4_shiftForDeletion_1 : decode cX4_shiftForDeletion 1 = .ok (.istore_n 3, 1) := by decide +kernel
theorem dX4_shiftForDeletion_2 : decode cX4_shiftForDeletion 2 = .ok (.iload_n 3, 1) := by decide +kernel
theorem dX4_shiftForDeletion_3 : decode cX4_shiftForDeletion 3 = .ok (.iconst 4, 1) := by decide +kernel
theorem dX4_shiftForDeletion_4 : decode cX4_shiftForDeletion 4 = .ok (.if_icmp .ge 37, 3) := by decide +kernel
theorem dX4_shiftForDeletion_7 : decode cX4_shiftForDeletion 7 = .ok (.aload_n 0, 1) := by decide +kernel
theorem dX4_shiftForDeletion_8 : decode cX4_shiftForDeletion 8 = .ok (.getfield 9, 3) := by decide +kernel
theorem dX4_shiftForDeletion_11 : decode cX4_shiftForDeletion 11 = .ok (.iload_n 3, 1) := by decide +kernel
theorem dX4_shiftForDeletion_12 : decode cX4_shiftForDeletion 12 = .ok (.iaload, 1) := by decide +kernel
theorem dX4_shiftForDeletion_13 : decode cX4_shiftForDeletion 13 = .ok (.iload_n 1, 1) := by decide +kernel
theorem dX4_shiftForDeletion_14 : decode cX4_shiftForDeletion 14 = .ok (.if_icmp .le 21, 3) := by decide +kernel
theorem dX4_shiftForDeletion_17 : decode cX4_shiftForDeletion 17 = .ok (.aload_n 0, 1) := by decide +kernel
theorem dX4_shiftForDeletion_18 : decode cX4_shiftForDeletion 18 = .ok (.getfield 9, 3) := by decide +kernel
theorem dX4_shiftForDeletion_21 : decode cX4_shiftForDeletion 21 = .ok (.iload_n 3, 1) := by decide +kernel
theorem dX4_shiftForDeletion_22 : decode cX4_shiftForDeletion 22 = .ok (.iload_n 1, 1) := by decide +kernel
theorem dX4_shiftForDeletion_23 : decode cX4_shiftForDeletion 23 = .ok (.aload_n 0, 1) := by decide +kernel
theorem dX4_shiftForDeletion_24 : decode cX4_shiftForDeletion 24 = .ok (.getfield 9, 3) := by decide +kernel
theorem dX4_shiftForDeletion_27 : decode cX4_shiftForDeletion 27 = .ok (.iload_n 3, 1) := by decide +kernel
theorem dX4_shiftForDeletion_28 : decode cX4_shiftForDeletion 28 = .ok (.iaload, 1) := by decide +kernel
theorem dX4_shiftForDeletion_29 : decode cX4_shiftForDeletion 29 = .ok (.iload_n 2, 1) := by decide +kernel
theorem dX4_shiftForDeletion_30 : decode cX4_shiftForDeletion 30 = .ok (.isub, 1) := by decide +kernel
theorem dX4_shiftForDeletion_31 : decode cX4_shiftForDeletion 31 = .ok (.invokestatic 22, 3) := by decide +kernel
theorem dX4_shiftForDeletion_34 : decode cX4_shiftForDeletion 34 = .ok (.iastore, 1) := by decide +kernel
theorem dX4_shiftForDeletion_35 : decode cX4_shiftForDeletion 35 = .ok (.iinc 3 1, 3) := by decide +kernel
theorem dX4_shiftForDeletion_38 : decode cX4_shiftForDeletion 38 = .ok (.goto (-36), 3) := by decide +kernel
theorem dX4_shiftForDeletion_41 : decode cX4_shiftForDeletion 41 = .ok (.return_, 1) := by decide +kernel
theorem dX4_assign_0 : decode cX4_assign 0 = .ok (.iconst 0, 1) := by decide +kernel
theorem dX4_assign_1 : decode cX4_assign 1 = .ok (.istore_n 2, 1) := by decide +kernel
theorem dX4_assign_2 : decode cX4_assign 2 = .ok (.iload_n 2, 1) := by decide +kernel
theorem dX4_assign_3 : decode cX4_assign 3 = .ok (.iconst 4, 1) := by decide +kernel
theorem dX4_assign_4 : decode cX4_assign 4 = .ok (.if_icmp .ge 26, 3) := by decide +kernel
theorem dX4_assign_7 : decode cX4_assign 7 = .ok (.aload_n 0, 1) := by decide +kernel
theorem dX4_assign_8 : decode cX4_assign 8 = .ok (.iload_n 2, 1) := by decide +kernel
theorem dX4_assign_9 : decode cX4_assign 9 = .ok (.aload_n 1, 1) := by decide +kernel
theorem dX4_assign_10 : decode cX4_assign 10 = .ok (.getfield 9, 3) := by decide +kernel
theorem dX4_assign_13 : decode cX4_assign 13 = .ok (.iload_n 2, 1) := by decide +kernel
theorem dX4_assign_14 : decode cX4_assign 14 = .ok (.iaload, 1) := by decide +kernel
theorem dX4_assign_15 : decode cX4_assign 15 = .ok (.aload_n 1, 1) := by decide +kernel
theorem dX4_assign_16 : decode cX4_assign 16 = .ok (.getfield 15, 3) := by decide +kernel
theorem dX4_assign_19 : decode cX4_assign 19 = .ok (.iload_n 2, 1) := by decide +kernel
theorem dX4_assign_20 : decode cX4_assign 20 = .ok (.iaload, 1) := by decide +kernel
theorem dX4_assign_21 : decode cX4_assign 21 = .ok (.invokevirtual 28, 3) := by decide +kernel
theorem dX4_assign_24 : decode cX4_assign 24 = .ok (.iinc 2 1, 3) := by decide +kernel
theorem dX4_assign_27 : decode cX4_assign 27 = .ok (.goto (-25), 3) := by decide +kernel
theorem dX4_assign_30 : decode cX4_assign 30 = .ok (.return_, 1) := by decide +kernel
theorem dX5_init_0 : decode cX5_init 0 = .ok (.aload_n 0, 1) := by decide +kernel
theorem dX5_init_1 : decode cX5_init 1 = .ok (.invokespecial 3, 3) := by decide +kernel
theorem dX5_init_4 : decode cX5_init 4 = .ok (.aload_n 0, 1) := by decide +kernel
theorem dX5_init_5 : decode cX5_init 5 = .ok (.iconst (-1), 1) := by decide +kernel
theorem dX5_init_6 : decode cX5_init 6 = .ok (.putfield 9, 3) := by decide +kernel
theorem dX5_init_9 : decode cX5_init 9 = .ok (.aload_n 0, 1) := by decide +kernel
theorem dX5_init_10 : decode cX5_init 10 = .ok (.iconst 0, 1) := by decide +kernel
theorem dX5_init_11 : decode cX5_init 11 = .ok (.putfield 15, 3) := by decide +kernel
theorem dX5_init_14 : decode cX5_init 14 = .ok (.aload_n 0, 1) := by decide +kernel
theorem dX5_init_15 : decode cX5_init 15 = .ok (.iconst (-1), 1) := by decide +kernel
theorem dX5_init_16 : decode cX5_init 16 = .ok (.putfield 18, 3) := by decide +kernel
theorem dX5_init_19 : decode cX5_init 19 = .ok (.return_, 1) := by decide +kernel
theorem dX6_init_0 : decode cX6_init 0 = .ok (.aload_n 0, 1) := by decide +kernel
theorem dX6_init_1 : decode cX6_init 1 = .ok (.invokespecial 3, 3) := by decide +kernel
theorem dX6_init_4 : decode cX6_init 4 = .ok (.aload_n 0, 1) := by decide +kernel
theorem dX6_init_5 : decode cX6_init 5 = .ok (.new 9, 3) := by decide +kernel
theorem dX6_init_8 : decode cX6_init 8 = .ok (.dup, 1) := by decide +kernel
theorem dX6_init_9 : decode cX6_init 9 = .ok (.sipush 256, 3) := by decide +kernel
theorem dX6_init_12 : decode cX6_init 12 = .ok (.invokespecial 11, 3) := by decide +kernel
theorem dX6_init_15 : decode cX6_init 15 = .ok (.putfield 14, 3) := by decide +kernel
theorem dX6_init_18 : decode cX6_init 18 = .ok (.aload_n 0, 1) := by decide +kernel
theorem dX6_init_19 : decode cX6_init 19 = .ok (.new 9, 3) := by decide +kernel
theorem dX6_init_22 : decode cX6_init 22 = .ok (.dup, 1) := by decide +kernel
theorem dX6_init_23 : decode cX6_init 23 = .ok (.bipush 60, 2) := by decide +kernel
theorem dX6_init_25 : decode cX6_init 25 = .ok (.invokespecial 11, 3) := by decide +kernel
theorem dX6_init_28 : decode cX6_init 28 = .ok (.putfield 20, 3) := by decide +kernel
theorem dX6_init_31 : decode cX6_init 31 = .ok (.aload_n 0, 1) := by decide +kernel
theorem dX6_init_32 : decode cX6_init 32 = .ok (.new 23, 3) := by decide +kernel
theorem dX6_init_35 : decode cX6_init 35 = .ok (.dup, 1) := by decide +kernel
theorem dX6_init_36 : decode cX6_init 36 = .ok (.invokespecial 25, 3) := by decide +kernel
theorem dX6_init_39 : decode cX6_init 39 = .ok (.putfield 26, 3) := by decide +kernel
theorem dX6_init_42 : decode cX6_init 42 = .ok (.aload_n 0, 1) := by decide +kernel
theorem dX6_init_43 : decode cX6_init 43 = .ok (.new 30, 3) := by decide +kernel
theorem dX6_init_46 : decode cX6_init 46 = .ok (.dup, 1) := by decide +kernel
theorem dX6_init_47 : decode cX6_init 47 = .ok (.invokespecial 32, 3) := by decide +kernel
theorem dX6_init_50 : decode cX6_init 50 = .ok (.putfield 33, 3) := by decide +kernel
theorem dX6_init_53 : decode cX6_init 53 = .ok (.aload_n 0, 1) := by decide +kernel
theorem dX6_init_54 : decode cX6_init 54 = .ok (.iconst 0, 1) := by decide +kernel
theorem dX6_init_55 : decode cX6_init 55 = .ok (.putfield 37, 3) := by decide +kernel
theorem dX6_init_58 : decode cX6_init 58 = .ok (.aload_n 0, 1) := by decide +kernel
theorem dX6_init_59 : decode cX6_init 59 = .ok (.iconst 0, 1) := by decide +kernel
theorem dX6_init_60 : decode cX6_init 60 = .ok (.putfield 41, 3) := by decide +kernel
theorem dX6_init_63 : decode cX6_init 63 = .ok (.aload_n 0, 1) := by decide +kernel
theorem dX6_init_64 : decode cX6_init 64 = .ok (.iconst 0, 1) := by decide +kernel
theorem dX6_init_65 : decode cX6_init 65 = .ok (.putfield 44, 3) := by decide +kernel
theorem dX6_init_68 : decode cX6_init 68 = .ok (.return_, 1) := by decide +kernel
theorem dX6_insertFault_0 : decode cX6_insertFault 0 = .ok (.aload_n 0, 1) := by decide +kernel
theorem dX6_insertFault_1 : decode cX6_insertFault 1 = .ok (.getfield 14, 3) := by decide +kernel
theorem dX6_insertFault_4 : decode cX6_insertFault 4 = .ok (.invokevirtual 48, 3) := by decide +kernel
theorem dX6_insertFault_7 : decode cX6_insertFault 7 = .ok (.iload_n 1, 1) := by decide +kernel
theorem dX6_insertFault_8 : decode cX6_insertFault 8 = .ok (.iadd, 1) := by decide +kernel
theorem dX6_insertFault_9 : decode cX6_insertFault 9 = .ok (.sipush 256, 3) := by decide +kernel
theorem dX6_insertFault_12 : decode cX6_insertFault 12 = .ok (.if_icmp .le 7, 3) := by decide +kernel
theorem dX6_insertFault_15 : decode cX6_insertFault 15 = .ok (.iconst 1, 1) := by decide +kernel
theorem dX6_insertFault_16 : decode cX6_insertFault 16 = .ok (.goto 4, 3) := by decide +kernel
theorem dX6_insertFault_19 : decode cX6_insertFault 19 = .ok (.iconst 0, 1) := by decide +kernel
theorem dX6_insertFault_20 : decode cX6_insertFault 20 = .ok (.ireturn, 1) := by decide +kernel
theorem dX6_pasteFault_0 : decode cX6_pasteFault 0 = .ok (.aload_n 0, 1) := by decide +kernel
theorem dX6_pasteFault_1 : decode cX6_pasteFault 1 = .ok (.getfield 20, 3) := by decide +kernel
theorem dX6_pasteFault_4 : decode cX6_pasteFault 4 = .ok (.invokevirtual 48, 3) := by decide +kernel
theorem dX6_pasteFault_7 : decode cX6_pasteFault 7 = .ok (.ifCond .ne 7, 3) := by decide +kernel
theorem dX6_pasteFault_10 : decode cX6_pasteFault 10 = .ok (.iconst 4, 1) := by decide +kernel
theorem dX6_pasteFault_11 : decode cX6_pasteFault 11 = .ok (.goto 14, 3) := by decide +kernel
theorem dX6_pasteFault_14 : decode cX6_pasteFault 14 = .ok (.aload_n 0, 1) := by decide +kernel
theorem dX6_pasteFault_15 : decode cX6_pasteFault 15 = .ok (.aload_n 0, 1) := by decide +kernel
theorem dX6_pasteFault_16 : decode cX6_pasteFault 16 = .ok (.getfield 20, 3) := by decide +kernel
theorem dX6_pasteFault_19 : decode cX6_pasteFault 19 = .ok (.invokevirtual 48, 3) := by decide +kernel
theorem dX6_pasteFault_22 : decode cX6_pasteFault 22 = .ok (.invokevirtual 52, 3) := by decide +kernel
theorem dX6_pasteFault_25 : decode cX6_pasteFault 25 = .ok (.ireturn, 1) := by decide +kernel
theorem dX6_regionFault_0 : decode cX6_regionFault 0 = .ok (.aload_n 0, 1) := by decide +kernel
theorem dX6_regionFault_1 : decode cX6_regionFault 1 = .ok (.getfield 26, 3) := by decide +kernel
theorem dX6_regionFault_4 : decode cX6_regionFault 4 = .ok (.iload_n 1, 1) := by decide +kernel
theorem dX6_regionFault_5 : decode cX6_regionFault 5 = .ok (.invokevirtual 56, 3) := by decide +kernel
theorem dX6_regionFault_8 : decode cX6_regionFault 8 = .ok (.istore_n 2, 1) := by decide +kernel
theorem dX6_regionFault_9 : decode cX6_regionFault 9 = .ok (.iload_n 2, 1) := by decide +kernel
theorem dX6_regionFault_10 : decode cX6_regionFault 10 = .ok (.iconst (-1), 1) := by decide +kernel
theorem dX6_regionFault_11 : decode cX6_regionFault 11 = .ok (.if_icmp .ne 5, 3) := by decide +kernel
theorem dX6_regionFault_14 : decode cX6_regionFault 14 = .ok (.iconst 2, 1) := by decide +kernel
theorem dX6_regionFault_15 : decode cX6_regionFault 15 = .ok (.ireturn, 1) := by decide +kernel
theorem dX6_regionFault_16 : decode cX6_regionFault 16 = .ok (.iload_n 2, 1) := by decide +kernel
theorem dX6_regionFault_17 : decode cX6_regionFault 17 = .ok (.aload_n 0, 1) := by decide +kernel
theorem dX6_regionFault_18 : decode cX6_regionFault 18 = .ok (.getfield 37, 3) := by decide +kernel
theorem dX6_regionFault_21 : decode cX6_regionFault 21 = .ok (.isub, 1) := by decide +kernel
theorem dX6_regionFault_22 : decode cX6_regionFault 22 = .ok (.invokestatic 59, 3) := by decide +kernel
theorem dX6_regionFault_25 : decode cX6_regionFault 25 = .ok (.bipush 60, 2) := by decide +kernel
theorem dX6_regionFault_27 : decode cX6_regionFault 27 = .ok (.if_icmp .le 7, 3) := by decide +kernel
theorem dX6_regionFault_30 : decode cX6_regionFault 30 = .ok (.iconst 3, 1) := by decide +kernel
theorem dX6_regionFault_31 : decode cX6_regionFault 31 = .ok (.goto 4, 3) := by decide +kernel
theorem dX6_regionFault_34 : decode cX6_regionFault 34 = .ok (.iconst 0, 1) := by decide +kernel
theorem dX6_regionFault_35 : decode cX6_regionFault 35 = .ok (.ireturn, 1) := by decide +kernel
theorem dX6_insertRepeated_0 : decode cX6_insertRepeated 0 = .ok (.aload_n 0, 1) := by decide +kernel
theorem dX6_insertRepeated_1 : decode cX6_insertRepeated 1 = .ok (.iload_n 2, 1) := by decide +kernel
theorem dX6_insertRepeated_2 : decode cX6_insertRepeated 2 = .ok (.invokevirtual 64, 3) := by decide +kernel
theorem dX6_insertRepeated_5 : decode cX6_insertRepeated 5 = .ok (.istore_n 3, 1) := by decide +kernel
theorem dX6_insertRepeated_6 : decode cX6_insertRepeated 6 = .ok (.iconst 0, 1) := by decide +kernel
theorem dX6_insertRepeated_7 : decode cX6_insertRepeated 7 = .ok (.istore 4, 2) := by decide +kernel
theorem dX6_insertRepeated_9 : decode cX6_insertRepeated 9 = .ok (.iload 4, 2) := by decide +kernel
theorem dX6_insertRepeated_11 : decode cX6_insertRepeated 11 = .ok (.iload_n 2, 1) := by decide +kernel
theorem dX6_insertRepeated_12 : decode cX6_insertRepeated 12 = .ok (.if_icmp .ge 21, 3) := by decide +kernel
theorem dX6_insertRepeated_15 : decode cX6_insertRepeated 15 = .ok (.aload_n 0, 1) := by decide +kernel
theorem dX6_insertRepeated_16 : decode cX6_insertRepeated 16 = .ok (.getfield 14, 3) := by decide +kernel
theorem dX6_insertRepeated_19 : decode cX6_insertRepeated 19 = .ok (.iload_n 3, 1) := by decide +kernel
theorem dX6_insertRepeated_20 : decode cX6_insertRepeated 20 = .ok (.iload 4, 2) := by decide +kernel
theorem dX6_insertRepeated_22 : decode cX6_insertRepeated 22 = .ok (.iadd, 1) := by decide +kernel
theorem dX6_insertRepeated_23 : decode cX6_insertRepeated 23 = .ok (.iload_n 1, 1) := by decide +kernel
theorem dX6_insertRepeated_24 : decode cX6_insertRepeated 24 = .ok (.invokevirtual 67, 3) := by decide +kernel
theorem dX6_insertRepeated_27 : decode cX6_insertRepeated 27 = .ok (.iinc 4 1, 3) := by decide +kernel
theorem dX6_insertRepeated_30 : decode cX6_insertRepeated 30 = .ok (.goto (-21), 3) := by decide +kernel
theorem dX6_insertRepeated_33 : decode cX6_insertRepeated 33 = .ok (.aload_n 0, 1) := by decide +kernel
theorem dX6_insertRepeated_34 : decode cX6_insertRepeated 34 = .ok (.aload_n 0, 1) := by decide +kernel
theorem dX6_insertRepeated_35 : decode cX6_insertRepeated 35 = .ok (.invokevirtual 71, 3) := by decide +kernel
theorem dX6_insertRepeated_38 : decode cX6_insertRepeated 38 = .ok (.putfield 41, 3) := by decide +kernel
theorem dX6_insertRepeated_41 : decode cX6_insertRepeated 41 = .ok (.return_, 1) := by decide +kernel
theorem dX6_insertPart_0 : decode cX6_insertPart 0 = .ok (.aload_n 0, 1) := by decide +kernel
theorem dX6_insertPart_1 : decode cX6_insertPart 1 = .ok (.iload_n 3, 1) := by decide +kernel
theorem dX6_insertPart_2 : decode cX6_insertPart 2 = .ok (.invokevirtual 64, 3) := by decide +kernel
theorem dX6_insertPart_5 : decode cX6_insertPart 5 = .ok (.istore 4, 2) := by decide +kernel
theorem dX6_insertPart_7 : decode cX6_insertPart 7 = .ok (.iconst 0, 1) := by decide +kernel
theorem dX6_insertPart_8 : decode cX6_insertPart 8 = .ok (.istore 5, 2) := by decide +kernel
theorem dX6_insertPart_10 : decode cX6_insertPart 10 = .ok (.iload 5, 2) := by decide +kernel
theorem dX6_insertPart_12 : decode cX6_insertPart 12 = .ok (.iload_n 3, 1) := by decide +kernel
theorem dX6_insertPart_13 : decode cX6_insertPart 13 = .ok (.if_icmp .ge 29, 3) := by decide +kernel
theorem dX6_insertPart_16 : decode cX6_insertPart 16 = .ok (.aload_n 0, 1) := by decide +kernel
theorem dX6_insertPart_17 : decode cX6_insertPart 17 = .ok (.getfield 14, 3) := by decide +kernel
theorem dX6_insertPart_20 : decode cX6_insertPart 20 = .ok (.iload 4, 2) := by decide +kernel
theorem dX6_insertPart_22 : decode cX6_insertPart 22 = .ok (.iload 5, 2) := by decide +kernel
theorem dX6_insertPart_24 : decode cX6_insertPart 24 = .ok (.iadd, 1) := by decide +kernel
theorem dX6_insertPart_25 : decode cX6_insertPart 25 = .ok (.aload_n 1, 1) := by decide +kernel
theorem dX6_insertPart_26 : decode cX6_insertPart 26 = .ok (.iload_n 2, 1) := by decide +kernel
theorem dX6_insertPart_27 : decode cX6_insertPart 27 = .ok (.iload 5, 2) := by decide +kernel
theorem dX6_insertPart_29 : decode cX6_insertPart 29 = .ok (.iadd, 1) := by decide +kernel
theorem dX6_insertPart_30 : decode cX6_insertPart 30 = .ok (.invokevirtual 74, 3) := by decide +kernel
theorem dX6_insertPart_33 : decode cX6_insertPart 33 = .ok (.invokevirtual 67, 3) := by decide +kernel
theorem dX6_insertPart_36 : decode cX6_insertPart 36 = .ok (.iinc 5 1, 3) := by decide +kernel
theorem dX6_insertPart_39 : decode cX6_insertPart 39 = .ok (.goto (-29), 3) := by decide +kernel
theorem dX6_insertPart_42 : decode cX6_insertPart 42 = .ok (.aload_n 0, 1) := by decide +kernel
theorem dX6_insertPart_43 : decode cX6_insertPart 43 = .ok (.aload_n 0, 1) := by decide +kernel
theorem dX6_insertPart_44 : decode cX6_insertPart 44 = .ok (.invokevirtual 71, 3) := by decide +kernel
theorem dX6_insertPart_47 : decode cX6_insertPart 47 = .ok (.putfield 41, 3) := by decide +kernel
theorem dX6_insertPart_50 : decode cX6_insertPart 50 = .ok (.return_, 1) := by decide +kernel
theorem dX6_openSpace_0 : decode cX6_openSpace 0 = .ok (.aload_n 0, 1) := by decide +kernel
theorem dX6_openSpace_1 : decode cX6_openSpace 1 = .ok (.getfield 37, 3) := by decide +kernel
theorem dX6_openSpace_4 : decode cX6_openSpace 4 = .ok (.istore_n 2, 1) := by decide +kernel
theorem dX6_openSpace_5 : decode cX6_openSpace 5 = .ok (.aload_n 0, 1) := by decide +kernel
theorem dX6_openSpace_6 : decode cX6_openSpace 6 = .ok (.getfield 33, 3) := by decide +kernel
theorem dX6_openSpace_9 : decode cX6_openSpace 9 = .ok (.iload_n 2, 1) := by decide +kernel
theorem dX6_openSpace_10 : decode cX6_openSpace 10 = .ok (.iload_n 1, 1) := by decide +kernel
theorem dX6_openSpace_11 : decode cX6_openSpace 11 = .ok (.aload_n 0, 1) := by decide +kernel
theorem dX6_openSpace_12 : decode cX6_openSpace 12 = .ok (.getfield 14, 3) := by decide +kernel
theorem dX6_openSpace_15 : decode cX6_openSpace 15 = .ok (.invokevirtual 48, 3) := by decide +kernel
theorem dX6_openSpace_18 : decode cX6_openSpace 18 = .ok (.invokevirtual 77, 3) := by decide +kernel
theorem dX6_openSpace_21 : decode cX6_openSpace 21 = .ok (.aload_n 0, 1) := by decide +kernel
theorem dX6_openSpace_22 : decode cX6_openSpace 22 = .ok (.getfield 26, 3) := by decide +kernel
theorem dX6_openSpace_25 : decode cX6_openSpace 25 = .ok (.iload_n 2, 1) := by decide +kernel
theorem dX6_openSpace_26 : decode cX6_openSpace 26 = .ok (.iload_n 1, 1) := by decide +kernel
theorem dX6_openSpace_27 : decode cX6_openSpace 27 = .ok (.invokevirtual 81, 3) := by decide +kernel
theorem dX6_openSpace_30 : decode cX6_openSpace 30 = .ok (.aload_n 0, 1) := by decide +kernel
theorem dX6_openSpace_31 : decode cX6_openSpace 31 = .ok (.getfield 14, 3) := by decide +kernel
theorem dX6_openSpace_34 : decode cX6_openSpace 34 = .ok (.iload_n 2, 1) := by decide +kernel
theorem dX6_openSpace_35 : decode cX6_openSpace 35 = .ok (.iload_n 1, 1) := by decide +kernel
theorem dX6_openSpace_36 : decode cX6_openSpace 36 = .ok (.invokevirtual 84, 3) := by decide +kernel
theorem dX6_openSpace_39 : decode cX6_openSpace 39 = .ok (.aload_n 0, 1) := by decide +kernel
theorem dX6_openSpace_40 : decode cX6_openSpace 40 = .ok (.iload_n 2, 1) := by decide +kernel
theorem dX6_openSpace_41 : decode cX6_openSpace 41 = .ok (.iload_n 1, 1) := by decide +kernel
theorem dX6_openSpace_42 : decode cX6_openSpace 42 = .ok (.iadd, 1) := by decide +kernel
theorem dX6_openSpace_43 : decode cX6_openSpace 43 = .ok (.putfield 37, 3) := by decide +kernel
theorem dX6_openSpace_46 : decode cX6_openSpace 46 = .ok (.iload_n 2, 1) := by decide +kernel
theorem dX6_openSpace_47 : decode cX6_openSpace 47 = .ok (.ireturn, 1) := by decide +kernel
theorem dX6_deleteBehind_0 : decode cX6_deleteBehind 0 = .ok (.iload_n 1, 1) := by decide +kernel
theorem dX6_deleteBehind_1 : decode cX6_deleteBehind 1 = .ok (.aload_n 0, 1) := by decide +kernel
theorem dX6_deleteBehind_2 : decode cX6_deleteBehind 2 = .ok (.getfield 14, 3) := by decide +kernel
theorem dX6_deleteBehind_5 : decode cX6_deleteBehind 5 = .ok (.invokevirtual 48, 3) := by decide +kernel
theorem dX6_deleteBehind_8 : decode cX6_deleteBehind 8 = .ok (.aload_n 0, 1) := by decide +kernel
theorem dX6_deleteBehind_9 : decode cX6_deleteBehind 9 = .ok (.getfield 37, 3) := by decide +kernel
theorem dX6_deleteBehind_12 : decode cX6_deleteBehind 12 = .ok (.isub, 1) := by decide +kernel
theorem dX6_deleteBehind_13 : decode cX6_deleteBehind 13 = .ok (.invokestatic 87, 3) := by decide +kernel
theorem dX6_deleteBehind_16 : decode cX6_deleteBehind 16 = .ok (.istore_n 2, 1) := by decide +kernel
theorem dX6_deleteBehind_17 : decode cX6_deleteBehind 17 = .ok (.aload_n 0, 1) := by decide +kernel
theorem dX6_deleteBehind_18 : decode cX6_deleteBehind 18 = .ok (.aload_n 0, 1) := by decide +kernel
theorem dX6_deleteBehind_19 : decode cX6_deleteBehind 19 = .ok (.getfield 37, 3) := by decide +kernel
theorem dX6_deleteBehind_22 : decode cX6_deleteBehind 22 = .ok (.iload_n 2, 1) := by decide +kernel
theorem dX6_deleteBehind_23 : decode cX6_deleteBehind 23 = .ok (.invokevirtual 91, 3) := by decide +kernel
theorem dX6_deleteBehind_26 : decode cX6_deleteBehind 26 = .ok (.iload_n 2, 1) := by decide +kernel
theorem dX6_deleteBehind_27 : decode cX6_deleteBehind 27 = .ok (.ireturn, 1) := by decide +kernel
theorem dX6_deleteBefore_0 : decode cX6_deleteBefore 0 = .ok (.iload_n 1, 1) := by decide +kernel
theorem dX6_deleteBefore_1 : decode cX6_deleteBefore 1 = .ok (.aload_n 0, 1) := by decide +kernel
theorem dX6_deleteBefore_2 : decode cX6_deleteBefore 2 = .ok (.getfield 37, 3) := by decide +kernel
theorem dX6_deleteBefore_5 : decode cX6_deleteBefore 5 = .ok (.invokestatic 87, 3) := by decide +kernel
theorem dX6_deleteBefore_8 : decode cX6_deleteBefore 8 = .ok (.istore_n 2, 1) := by decide +kernel
theorem dX6_deleteBefore_9 : decode cX6_deleteBefore 9 = .ok (.aload_n 0, 1) := by decide +kernel
theorem dX6_deleteBefore_10 : decode cX6_deleteBefore 10 = .ok (.aload_n 0, 1) := by decide +kernel
theorem dX6_deleteBefore_11 : decode cX6_deleteBefore 11 = .ok (.getfield 37, 3) := by decide +kernel
theorem dX6_deleteBefore_14 : decode cX6_deleteBefore 14 = .ok (.iload_n 2, 1) := by decide +kernel
theorem dX6_deleteBefore_15 : decode cX6_deleteBefore 15 = .ok (.isub, 1) := by decide +kernel
theorem dX6_deleteBefore_16 : decode cX6_deleteBefore 16 = .ok (.iload_n 2, 1) := by decide +kernel
theorem dX6_deleteBefore_17 : decode cX6_deleteBefore 17 = .ok (.invokevirtual 91, 3) := by decide +kernel
theorem dX6_deleteBefore_20 : decode cX6_deleteBefore 20 = .ok (.iload_n 2, 1) := by decide +kernel
