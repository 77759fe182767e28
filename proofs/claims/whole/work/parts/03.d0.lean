theorem dX0_init_0 : decode cX0_init 0 = .ok (.aload_n 0, 1) := by decide +kernel
theorem dX0_init_1 : decode cX0_init 1 = .ok (.invokespecial 3, 3) := by decide +kernel
theorem dX0_init_4 : decode cX0_init 4 = .ok (.aload_n 0, 1) := by decide +kernel
theorem dX0_init_5 : decode cX0_init 5 = .ok (.iconst 0, 1) := by decide +kernel
theorem dX0_init_6 : decode cX0_init 6 = .ok (.putfield 9, 3) := by decide +kernel
theorem dX0_init_9 : decode cX0_init 9 = .ok (.aload_n 0, 1) := by decide +kernel
theorem dX0_init_10 : decode cX0_init 10 = .ok (.iconst 0, 1) := by decide +kernel
theorem dX0_init_11 : decode cX0_init 11 = .ok (.iload_n 1, 1) := by decide +kernel
theorem dX0_init_12 : decode cX0_init 12 = .ok (.invokestatic 15, 3) := by decide +kernel
theorem dX0_init_15 : decode cX0_init 15 = .ok (.newarray .int, 2) := by decide +kernel
theorem dX0_init_17 : decode cX0_init 17 = .ok (.putfield 21, 3) := by decide +kernel
theorem dX0_init_20 : decode cX0_init 20 = .ok (.return_, 1) := by decide +kernel
theorem dX0_size_0 : decode cX0_size 0 = .ok (.aload_n 0, 1) := by decide +kernel
theorem dX0_size_1 : decode cX0_size 1 = .ok (.getfield 9, 3) := by decide +kernel
theorem dX0_size_4 : decode cX0_size 4 = .ok (.ireturn, 1) := by decide +kernel
theorem dX0_at_0 : decode cX0_at 0 = .ok (.iload_n 1, 1) := by decide +kernel
theorem dX0_at_1 : decode cX0_at 1 = .ok (.ifCond .lt 20, 3) := by decide +kernel
theorem dX0_at_4 : decode cX0_at 4 = .ok (.iload_n 1, 1) := by decide +kernel
theorem dX0_at_5 : decode cX0_at 5 = .ok (.aload_n 0, 1) := by decide +kernel
theorem dX0_at_6 : decode cX0_at 6 = .ok (.getfield 9, 3) := by decide +kernel
theorem dX0_at_9 : decode cX0_at 9 = .ok (.if_icmp .ge 12, 3) := by decide +kernel
theorem dX0_at_12 : decode cX0_at 12 = .ok (.aload_n 0, 1) := by decide +kernel
theorem dX0_at_13 : decode cX0_at 13 = .ok (.getfield 21, 3) := by decide +kernel
theorem dX0_at_16 : decode cX0_at 16 = .ok (.iload_n 1, 1) := by decide +kernel
theorem dX0_at_17 : decode cX0_at 17 = .ok (.iaload, 1) := by decide +kernel
theorem dX0_at_18 : decode cX0_at 18 = .ok (.goto 4, 3) := by decide +kernel
theorem dX0_at_21 : decode cX0_at 21 = .ok (.iconst (-1), 1) := by decide +kernel
theorem dX0_at_22 : decode cX0_at 22 = .ok (.ireturn, 1) := by decide +kernel
theorem dX0_put_0 : decode cX0_put 0 = .ok (.iload_n 1, 1) := by decide +kernel
theorem dX0_put_1 : decode cX0_put 1 = .ok (.ifCond .lt 18, 3) := by decide +kernel
theorem dX0_put_4 : decode cX0_put 4 = .ok (.iload_n 1, 1) := by decide +kernel
theorem dX0_put_5 : decode cX0_put 5 = .ok (.aload_n 0, 1) := by decide +kernel
theorem dX0_put_6 : decode cX0_put 6 = .ok (.getfield 9, 3) := by decide +kernel
theorem dX0_put_9 : decode cX0_put 9 = .ok (.if_icmp .ge 10, 3) := by decide +kernel
theorem dX0_put_12 : decode cX0_put 12 = .ok (.aload_n 0, 1) := by decide +kernel
theorem dX0_put_13 : decode cX0_put 13 = .ok (.getfield 21, 3) := by decide +kernel
theorem dX0_put_16 : decode cX0_put 16 = .ok (.iload_n 1, 1) := by decide +kernel
theorem dX0_put_17 : decode cX0_put 17 = .ok (.iload_n 2, 1) := by decide +kernel
theorem dX0_put_18 : decode cX0_put 18 = .ok (.iastore, 1) := by decide +kernel
theorem dX0_put_19 : decode cX0_put 19 = .ok (.return_, 1) := by decide +kernel
theorem dX0_add_0 : decode cX0_add 0 = .ok (.aload_n 0, 1) := by decide +kernel
theorem dX0_add_1 : decode cX0_add 1 = .ok (.aload_n 0, 1) := by decide +kernel
theorem dX0_add_2 : decode cX0_add 2 = .ok (.getfield 9, 3) := by decide +kernel
theorem dX0_add_5 : decode cX0_add 5 = .ok (.iconst 1, 1) := by decide +kernel
theorem dX0_add_6 : decode cX0_add 6 = .ok (.invokevirtual 25, 3) := by decide +kernel
theorem dX0_add_9 : decode cX0_add 9 = .ok (.aload_n 0, 1) := by decide +kernel
theorem dX0_add_10 : decode cX0_add 10 = .ok (.aload_n 0, 1) := by decide +kernel
theorem dX0_add_11 : decode cX0_add 11 = .ok (.getfield 9, 3) := by decide +kernel
theorem dX0_add_14 : decode cX0_add 14 = .ok (.iconst 1, 1) := by decide +kernel
theorem dX0_add_15 : decode cX0_add 15 = .ok (.isub, 1) := by decide +kernel
theorem dX0_add_16 : decode cX0_add 16 = .ok (.iload_n 1, 1) := by decide +kernel
theorem dX0_add_17 : decode cX0_add 17 = .ok (.invokevirtual 29, 3) := by decide +kernel
theorem dX0_add_20 : decode cX0_add 20 = .ok (.return_, 1) := by decide +kernel
theorem dX0_clear_0 : decode cX0_clear 0 = .ok (.aload_n 0, 1) := by decide +kernel
theorem dX0_clear_1 : decode cX0_clear 1 = .ok (.iconst 0, 1) := by decide +kernel
theorem dX0_clear_2 : decode cX0_clear 2 = .ok (.putfield 9, 3) := by decide +kernel
theorem dX0_clear_5 : decode cX0_clear 5 = .ok (.return_, 1) := by decide +kernel
theorem dX0_open_0 : decode cX0_open 0 = .ok (.iload_n 2, 1) := by decide +kernel
theorem dX0_open_1 : decode cX0_open 1 = .ok (.ifCond .lt 21, 3) := by decide +kernel
theorem dX0_open_4 : decode cX0_open 4 = .ok (.iload_n 2, 1) := by decide +kernel
theorem dX0_open_5 : decode cX0_open 5 = .ok (.aload_n 0, 1) := by decide +kernel
theorem dX0_open_6 : decode cX0_open 6 = .ok (.getfield 21, 3) := by decide +kernel
theorem dX0_open_9 : decode cX0_open 9 = .ok (.arraylength, 1) := by decide +kernel
theorem dX0_open_10 : decode cX0_open 10 = .ok (.aload_n 0, 1) := by decide +kernel
theorem dX0_open_11 : decode cX0_open 11 = .ok (.getfield 9, 3) := by decide +kernel
theorem dX0_open_14 : decode cX0_open 14 = .ok (.isub, 1) := by decide +kernel
theorem dX0_open_15 : decode cX0_open 15 = .ok (.if_icmp .gt 7, 3) := by decide +kernel
theorem dX0_open_18 : decode cX0_open 18 = .ok (.iconst 1, 1) := by decide +kernel
theorem dX0_open_19 : decode cX0_open 19 = .ok (.goto 4, 3) := by decide +kernel
theorem dX0_open_22 : decode cX0_open 22 = .ok (.iconst 0, 1) := by decide +kernel
theorem dX0_open_23 : decode cX0_open 23 = .ok (.istore_n 3, 1) := by decide +kernel
theorem dX0_open_24 : decode cX0_open 24 = .ok (.iload_n 3, 1) := by decide +kernel
theorem dX0_open_25 : decode cX0_open 25 = .ok (.ifCond .eq 46, 3) := by decide +kernel
theorem dX0_open_28 : decode cX0_open 28 = .ok (.iload_n 1, 1) := by decide +kernel
theorem dX0_open_29 : decode cX0_open 29 = .ok (.ifCond .lt 42, 3) := by decide +kernel
theorem dX0_open_32 : decode cX0_open 32 = .ok (.iload_n 1, 1) := by decide +kernel
theorem dX0_open_33 : decode cX0_open 33 = .ok (.aload_n 0, 1) := by decide +kernel
theorem dX0_open_34 : decode cX0_open 34 = .ok (.getfield 9, 3) := by decide +kernel
theorem dX0_open_37 : decode cX0_open 37 = .ok (.if_icmp .gt 34, 3) := by decide +kernel
theorem dX0_open_40 : decode cX0_open 40 = .ok (.aload_n 0, 1) := by decide +kernel
theorem dX0_open_41 : decode cX0_open 41 = .ok (.getfield 21, 3) := by decide +kernel
theorem dX0_open_44 : decode cX0_open 44 = .ok (.iload_n 1, 1) := by decide +kernel
theorem dX0_open_45 : decode cX0_open 45 = .ok (.aload_n 0, 1) := by decide +kernel
theorem dX0_open_46 : decode cX0_open 46 = .ok (.getfield 21, 3) := by decide +kernel
theorem dX0_open_49 : decode cX0_open 49 = .ok (.iload_n 1, 1) := by decide +kernel
theorem dX0_open_50 : decode cX0_open 50 = .ok (.iload_n 2, 1) := by decide +kernel
theorem dX0_open_51 : decode cX0_open 51 = .ok (.iadd, 1) := by decide +kernel
theorem dX0_open_52 : decode cX0_open 52 = .ok (.aload_n 0, 1) := by decide +kernel
theorem dX0_open_53 : decode cX0_open 53 = .ok (.getfield 9, 3) := by decide +kernel
theorem dX0_open_56 : decode cX0_open 56 = .ok (.iload_n 1, 1) := by decide +kernel
theorem dX0_open_57 : decode cX0_open 57 = .ok (.isub, 1) := by decide +kernel
theorem dX0_open_58 : decode cX0_open 58 = .ok (.invokestatic 32, 3) := by decide +kernel
theorem dX0_open_61 : decode cX0_open 61 = .ok (.aload_n 0, 1) := by decide +kernel
theorem dX0_open_62 : decode cX0_open 62 = .ok (.dup, 1) := by decide +kernel
theorem dX0_open_63 : decode cX0_open 63 = .ok (.getfield 9, 3) := by decide +kernel
theorem dX0_open_66 : decode cX0_open 66 = .ok (.iload_n 2, 1) := by decide +kernel
theorem dX0_open_67 : decode cX0_open 67 = .ok (.iadd, 1) := by decide +kernel
theorem dX0_open_68 : decode cX0_open 68 = .ok (.putfield 9, 3) := by decide +kernel
theorem dX0_open_71 : decode cX0_open 71 = .ok (.return_, 1) := by decide +kernel
theorem dX0_close_0 : decode cX0_close 0 = .ok (.iload_n 1, 1) := by decide +kernel
theorem dX0_close_1 : decode cX0_close 1 = .ok (.ifCond .lt 50, 3) := by decide +kernel
theorem dX0_close_4 : decode cX0_close 4 = .ok (.iload_n 2, 1) := by decide +kernel
theorem dX0_close_5 : decode cX0_close 5 = .ok (.ifCond .lt 46, 3) := by decide +kernel
theorem dX0_close_8 : decode cX0_close 8 = .ok (.iload_n 2, 1) := by decide +kernel
theorem dX0_close_9 : decode cX0_close 9 = .ok (.aload_n 0, 1) := by decide +kernel
theorem dX0_close_10 : decode cX0_close 10 = .ok (.getfield 9, 3) := by decide +kernel
theorem dX0_close_13 : decode cX0_close 13 = .ok (.iload_n 1, 1) := by decide +kernel
theorem dX0_close_14 : decode cX0_close 14 = .ok (.isub, 1) := by decide +kernel
theorem dX0_close_15 : decode cX0_close 15 = .ok (.if_icmp .gt 36, 3) := by decide +kernel
theorem dX0_close_18 : decode cX0_close 18 = .ok (.iload_n 1, 1) := by decide +kernel
theorem dX0_close_19 : decode cX0_close 19 = .ok (.iload_n 2, 1) := by decide +kernel
theorem dX0_close_20 : decode cX0_close 20 = .ok (.iadd, 1) := by decide +kernel
theorem dX0_close_21 : decode cX0_close 21 = .ok (.istore_n 3, 1) := by decide +kernel
theorem dX0_close_22 : decode cX0_close 22 = .ok (.aload_n 0, 1) := by decide +kernel
theorem dX0_close_23 : decode cX0_close 23 = .ok (.getfield 21, 3) := by decide +kernel
theorem dX0_close_26 : decode cX0_close 26 = .ok (.iload_n 3, 1) := by decide +kernel
theorem dX0_close_27 : decode cX0_close 27 = .ok (.aload_n 0, 1) := by decide +kernel
theorem dX0_close_28 : decode cX0_close 28 = .ok (.getfield 21, 3) := by decide +kernel
theorem dX0_close_31 : decode cX0_close 31 = .ok (.iload_n 1, 1) := by decide +kernel
theorem dX0_close_32 : decode cX0_close 32 = .ok (.aload_n 0, 1) := by decide +kernel
theorem dX0_close_33 : decode cX0_close 33 = .ok (.getfield 9, 3) := by decide +kernel
theorem dX0_close_36 : decode cX0_close 36 = .ok (.iload_n 3, 1) := by decide +kernel
theorem dX0_close_37 : decode cX0_close 37 = .ok (.isub, 1) := by decide +kernel
theorem dX0_close_38 : decode cX0_close 38 = .ok (.invokestatic 32, 3) := by decide +kernel
theorem dX0_close_41 : decode cX0_close 41 = .ok (.aload_n 0, 1) := by decide +kernel
theorem dX0_close_42 : decode cX0_close 42 = .ok (.dup, 1) := by decide +kernel
theorem dX0_close_43 : decode cX0_close 43 = .ok (.getfield 9, 3) := by decide +kernel
theorem dX0_close_46 : decode cX0_close 46 = .ok (.iload_n 2, 1) := by decide +kernel
theorem dX0_close_47 : decode cX0_close 47 = .ok (.isub, 1) := by decide +kernel
theorem dX0_close_48 : decode cX0_close 48 = .ok (.putfield 9, 3) := by decide +kernel
theorem dX0_close_51 : decode cX0_close 51 = .ok (.return_, 1) := by decide +kernel
theorem dX0_assign_0 : decode cX0_assign 0 = .ok (.iload_n 2, 1) := by decide +kernel
theorem dX0_assign_1 : decode cX0_assign 1 = .ok (.ifCond .lt 21, 3) := by decide +kernel
theorem dX0_assign_4 : decode cX0_assign 4 = .ok (.iload_n 3, 1) := by decide +kernel
theorem dX0_assign_5 : decode cX0_assign 5 = .ok (.ifCond .lt 17, 3) := by decide +kernel
theorem dX0_assign_8 : decode cX0_assign 8 = .ok (.iload_n 3, 1) := by decide +kernel
theorem dX0_assign_9 : decode cX0_assign 9 = .ok (.aload_n 1, 1) := by decide +kernel
theorem dX0_assign_10 : decode cX0_assign 10 = .ok (.getfield 9, 3) := by decide +kernel
theorem dX0_assign_13 : decode cX0_assign 13 = .ok (.iload_n 2, 1) := by decide +kernel
theorem dX0_assign_14 : decode cX0_assign 14 = .ok (.isub, 1) := by decide +kernel
theorem dX0_assign_15 : decode cX0_assign 15 = .ok (.if_icmp .gt 7, 3) := by decide +kernel
theorem dX0_assign_18 : decode cX0_assign 18 = .ok (.iconst 1, 1) := by decide +kernel
theorem dX0_assign_19 : decode cX0_assign 19 = .ok (.goto 4, 3) := by decide +kernel
theorem dX0_assign_22 : decode cX0_assign 22 = .ok (.iconst 0, 1) := by decide +kernel
theorem dX0_assign_23 : decode cX0_assign 23 = .ok (.istore 4, 2) := by decide +kernel
theorem dX0_assign_25 : decode cX0_assign 25 = .ok (.iload 4, 2) := by decide +kernel
theorem dX0_assign_27 : decode cX0_assign 27 = .ok (.ifCond .eq 31, 3) := by decide +kernel
theorem dX0_assign_30 : decode cX0_assign 30 = .ok (.iload_n 3, 1) := by decide +kernel
theorem dX0_assign_31 : decode cX0_assign 31 = .ok (.aload_n 0, 1) := by decide +kernel
theorem dX0_assign_32 : decode cX0_assign 32 = .ok (.getfield 21, 3) := by decide +kernel
theorem dX0_assign_35 : decode cX0_assign 35 = .ok (.arraylength, 1) := by decide +kernel
theorem dX0_assign_36 : decode cX0_assign 36 = .ok (.if_icmp .gt 22, 3) := by decide +kernel
theorem dX0_assign_39 : decode cX0_assign 39 = .ok (.aload_n 1, 1) := by decide +kernel
theorem dX0_assign_40 : decode cX0_assign 40 = .ok (.getfield 21, 3) := by decide +kernel
theorem dX0_assign_43 : decode cX0_assign 43 = .ok (.iload_n 2, 1) := by decide +kernel
theorem dX0_assign_44 : decode cX0_assign 44 = .ok (.aload_n 0, 1) := by decide +kernel
theorem dX0_assign_45 : decode cX0_assign 45 = .ok (.getfield 21, 3) := by decide +kernel
theorem dX0_assign_48 : decode cX0_assign 48 = .ok (.iconst 0, 1) := by decide +kernel
theorem dX0_assign_49 : decode cX0_assign 49 = .ok (.iload_n 3, 1) := by decide +kernel
theorem dX0_assign_50 : decode cX0_assign 50 = .ok (.invokestatic 32, 3) := by decide +kernel
theorem dX0_assign_53 : decode cX0_assign 53 = .ok (.aload_n 0, 1) := by decide +kernel
theorem dX0_assign_54 : decode cX0_assign 54 = .ok (.iload_n 3, 1) := by decide +kernel
theorem dX0_assign_55 : decode cX0_assign 55 = .ok (.putfield 9, 3) := by decide +kernel
theorem dX0_assign_58 : decode cX0_assign 58 = .ok (.return_, 1) := by decide +kernel
theorem dX0_firstPlaceOf_0 : decode cX0_firstPlaceOf 0 = .ok (.aload_n 1, 1) := by decide +kernel
theorem dX0_firstPlaceOf_1 : decode cX0_firstPlaceOf 1 = .ok (.getfield 9, 3) := by decide +kernel
theorem dX0_firstPlaceOf_4 : decode cX0_firstPlaceOf 4 = .ok (.ifCond .ne 5, 3) := by decide +kernel
theorem dX0_firstPlaceOf_7 : decode cX0_firstPlaceOf 7 = .ok (.iconst (-1), 1) := by decide +kernel
theorem dX0_firstPlaceOf_8 : decode cX0_firstPlaceOf 8 = .ok (.ireturn, 1) := by decide +kernel
theorem dX0_firstPlaceOf_9 : decode cX0_firstPlaceOf 9 = .ok (.iload_n 2, 1) := by decide +kernel
theorem dX0_firstPlaceOf_10 : decode cX0_firstPlaceOf 10 = .ok (.istore_n 3, 1) := by decide +kernel
theorem dX0_firstPlaceOf_11 : decode cX0_firstPlaceOf 11 = .ok (.iload_n 3, 1) := by decide +kernel
theorem dX0_firstPlaceOf_12 : decode cX0_firstPlaceOf 12 = .ok (.aload_n 0, 1) := by decide +kernel
theorem dX0_firstPlaceOf_13 : decode cX0_firstPlaceOf 13 = .ok (.getfield 9, 3) := by decide +kernel
theorem dX0_firstPlaceOf_16 : decode cX0_firstPlaceOf 16 = .ok (.aload_n 1, 1) := by decide +kernel
theorem dX0_firstPlaceOf_17 : decode cX0_firstPlaceOf 17 = .ok (.getfield 9, 3) := by decide +kernel
theorem dX0_firstPlaceOf_20 : decode cX0_firstPlaceOf 20 = .ok (.isub, 1) := by decide +kernel
theorem dX0_firstPlaceOf_21 : decode cX0_firstPlaceOf 21 = .ok (.if_icmp .gt 20, 3) := by decide +kernel
theorem dX0_firstPlaceOf_24 : decode cX0_firstPlaceOf 24 = .ok (.aload_n 0, 1) := by decide +kernel
theorem dX0_firstPlaceOf_25 : decode cX0_firstPlaceOf 25 = .ok (.iload_n 3, 1) := by decide +kernel
theorem dX0_firstPlaceOf_26 : decode cX0_firstPlaceOf 26 = .ok (.aload_n 1, 1) := by decide +kernel
theorem dX0_firstPlaceOf_27 : decode cX0_firstPlaceOf 27 = .ok (.invokevirtual 38, 3) := by decide +kernel
theorem dX0_firstPlaceOf_30 : decode cX0_firstPlaceOf 30 = .ok (.ifCond .eq 5, 3) := by decide +kernel
theorem dX0_firstPlaceOf_33 : decode cX0_firstPlaceOf 33 = .ok (.iload_n 3, 1) := by decide +kernel
theorem dX0_firstPlaceOf_34 : decode cX0_firstPlaceOf 34 = .ok (.ireturn, 1) := by decide +kernel
theorem dX0_firstPlaceOf_35 : decode cX0_firstPlaceOf 35 = .ok (.iinc 3 1, 3) := by decide +kernel
theorem dX0_firstPlaceOf_38 : decode cX0_firstPlaceOf 38 = .ok (.goto (-27), 3) := by decide +kernel
theorem dX0_firstPlaceOf_41 : decode cX0_firstPlaceOf 41 = .ok (.iconst (-1), 1) := by decide +kernel
theorem dX0_firstPlaceOf_42 : decode cX0_firstPlaceOf 42 = .ok (.ireturn, 1) := by decide +kernel
theorem dX0_hasAt_0 : decode cX0_hasAt 0 = .ok (.iconst 0, 1) := by decide +kernel
theorem dX0_hasAt_1 : decode cX0_hasAt 1 = .ok (.istore_n 3, 1) := by decide +kernel
theorem dX0_hasAt_2 : decode cX0_hasAt 2 = .ok (.iload_n 3, 1) := by decide +kernel
theorem dX0_hasAt_3 : decode cX0_hasAt 3 = .ok (.aload_n 2, 1) := by decide +kernel
theorem dX0_hasAt_4 : decode cX0_hasAt 4 = .ok (.getfield 9, 3) := by decide +kernel
theorem dX0_hasAt_7 : decode cX0_hasAt 7 = .ok (.if_icmp .ge 26, 3) := by decide +kernel
theorem dX0_hasAt_10 : decode cX0_hasAt 10 = .ok (.aload_n 0, 1) := by decide +kernel
theorem dX0_hasAt_11 : decode cX0_hasAt 11 = .ok (.iload_n 1, 1) := by decide +kernel
theorem dX0_hasAt_12 : decode cX0_hasAt 12 = .ok (.iload_n 3, 1) := by decide +kernel
theorem dX0_hasAt_13 : decode cX0_hasAt 13 = .ok (.iadd, 1) := by decide +kernel
theorem dX0_hasAt_14 : decode cX0_hasAt 14 = .ok (.invokevirtual 42, 3) := by decide +kernel
theorem dX0_hasAt_17 : decode cX0_hasAt 17 = .ok (.aload_n 2, 1) := by decide +kernel
theorem dX0_hasAt_18 : decode cX0_hasAt 18 = .ok (.iload_n 3, 1) := by decide +kernel
theorem dX0_hasAt_19 : decode cX0_hasAt 19 = .ok (.invokevirtual 42, 3) := by decide +kernel
theorem dX0_hasAt_22 : decode cX0_hasAt 22 = .ok (.if_icmp .eq 5, 3) := by decide +kernel
theorem dX0_hasAt_25 : decode cX0_hasAt 25 = .ok (.iconst 0, 1) := by decide +kernel
theorem dX0_hasAt_26 : decode cX0_hasAt 26 = .ok (.ireturn, 1) := by decide +kernel
theorem dX0_hasAt_27 : decode cX0_hasAt 27 = .ok (.iinc 3 1, 3) := by decide +kernel
theorem dX0_hasAt_30 : decode cX0_hasAt 30 = .ok (.goto (-28), 3) := by decide +kernel
theorem dX0_hasAt_33 : decode cX0_hasAt 33 = .ok (.iconst 1, 1) := by decide +kernel
theorem dX0_hasAt_34 : decode cX0_hasAt 34 = .ok (.ireturn, 1) := by decide +kernel
theorem dX0_lineCount_0 : decode cX0_lineCount 0 = .ok (.aload_n 0, 1) := by decide +kernel
theorem dX0_lineCount_1 : decode cX0_lineCount 1 = .ok (.aload_n 0, 1) := by decide +kernel
theorem dX0_lineCount_2 : decode cX0_lineCount 2 = .ok (.getfield 9, 3) := by decide +kernel
theorem dX0_lineCount_5 : decode cX0_lineCount 5 = .ok (.invokevirtual 46, 3) := by decide +kernel
theorem dX0_lineCount_8 : decode cX0_lineCount 8 = .ok (.iconst 1, 1) := by decide +kernel
theorem dX0_lineCount_9 : decode cX0_lineCount 9 = .ok (.iadd, 1) := by decide +kernel
theorem dX0_lineCount_10 : decode cX0_lineCount 10 = .ok (.ireturn, 1) := by decide +kernel
theorem dX0_breaksBefore_0 : decode cX0_breaksBefore 0 = .ok (.iconst 0, 1) := by decide +kernel
theorem dX0_breaksBefore_1 : decode cX0_breaksBefore 1 = .ok (.istore_n 2, 1) := by decide +kernel
theorem dX0_breaksBefore_2 : decode cX0_breaksBefore 2 = .ok (.iconst 0, 1) := by decide +kernel
theorem dX0_breaksBefore_3 : decode cX0_breaksBefore 3 = .ok (.istore_n 3, 1) := by decide +kernel
theorem dX0_breaksBefore_4 : decode cX0_breaksBefore 4 = .ok (.iload_n 3, 1) := by decide +kernel
theorem dX0_breaksBefore_5 : decode cX0_breaksBefore 5 = .ok (.iload_n 1, 1) := by decide +kernel
theorem dX0_breaksBefore_6 : decode cX0_breaksBefore 6 = .ok (.if_icmp .ge 22, 3) := by decide +kernel
theorem dX0_breaksBefore_9 : decode cX0_breaksBefore 9 = .ok (.aload_n 0, 1) := by decide +kernel
theorem dX0_breaksBefore_10 : decode cX0_breaksBefore 10 = .ok (.iload_n 3, 1) := by decide +kernel
theorem dX0_breaksBefore_11 : decode cX0_breaksBefore 11 = .ok (.invokevirtual 42, 3) := by decide +kernel
theorem dX0_breaksBefore_14 : decode cX0_breaksBefore 14 = .ok (.bipush 10, 2) := by decide +kernel
theorem dX0_breaksBefore_16 : decode cX0_breaksBefore 16 = .ok (.if_icmp .ne 6, 3) := by decide +kernel
theorem dX0_breaksBefore_19 : decode cX0_breaksBefore 19 = .ok (.iinc 2 1, 3) := by decide +kernel
theorem dX0_breaksBefore_22 : decode cX0_breaksBefore 22 = .ok (.iinc 3 1, 3) := by decide +kernel
theorem dX0_breaksBefore_25 : decode cX0_breaksBefore 25 = .ok (.goto (-21), 3) := by decide +kernel
theorem dX0_breaksBefore_28 : decode cX0_breaksBefore 28 = .ok (.iload_n 2, 1) := by decide +kernel
theorem dX0_breaksBefore_29 : decode cX0_breaksBefore 29 = .ok (.ireturn, 1) := by decide +kernel
theorem dX0_lineBegin_0 : decode cX0_lineBegin 0 = .ok (.iload_n 1, 1) := by decide +kernel
theorem dX0_lineBegin_1 : decode cX0_lineBegin 1 = .ok (.istore_n 2, 1) := by decide +kernel
theorem dX0_lineBegin_2 : decode cX0_lineBegin 2 = .ok (.iload_n 2, 1) := by decide +kernel
theorem dX0_lineBegin_3 : decode cX0_lineBegin 3 = .ok (.ifCond .le 21, 3) := by decide +kernel
theorem dX0_lineBegin_6 : decode cX0_lineBegin 6 = .ok (.aload_n 0, 1) := by decide +kernel
theorem dX0_lineBegin_7 : decode cX0_lineBegin 7 = .ok (.iload_n 2, 1) := by decide +kernel
theorem dX0_lineBegin_8 : decode cX0_lineBegin 8 = .ok (.iconst 1, 1) := by decide +kernel
theorem dX0_lineBegin_9 : decode cX0_lineBegin 9 = .ok (.isub, 1) := by decide +kernel
theorem dX0_lineBegin_10 : decode cX0_lineBegin 10 = .ok (.invokevirtual 42, 3) := by decide +kernel
theorem dX0_lineBegin_13 : decode cX0_lineBegin 13 = .ok (.bipush 10, 2) := by decide +kernel
theorem dX0_lineBegin_15 : decode cX0_lineBegin 15 = .ok (.if_icmp .eq 9, 3) := by decide +kernel
theorem dX0_lineBegin_18 : decode cX0_lineBegin 18 = .ok (.iinc 2 (-1), 3) := by decide +kernel
theorem dX0_lineBegin_21 : decode cX0_lineBegin 21 = .ok (.goto (-19), 3) := by decide +kernel
theorem dX0_lineBegin_24 : decode cX0_lineBegin 24 = .ok (.iload_n 2, 1) := by decide +kernel
theorem dX0_lineBegin_25 : decode cX0_lineBegin 25 = .ok (.ireturn, 1) := by decide +kernel
theorem dX0_lineEnd_0 : decode cX0_lineEnd 0 = .ok (.iload_n 1, 1) := by decide +kernel
theorem dX0_lineEnd_1 : decode cX0_lineEnd 1 = .ok (.istore_n 2, 1) := by decide +kernel
theorem dX0_lineEnd_2 : decode cX0_lineEnd 2 = .ok (.iload_n 2, 1) := by decide +kernel
theorem dX0_lineEnd_3 : decode cX0_lineEnd 3 = .ok (.aload_n 0, 1) := by decide +kernel
theorem dX0_lineEnd_4 : decode cX0_lineEnd 4 = .ok (.getfield 9, 3) := by decide +kernel
theorem dX0_lineEnd_7 : decode cX0_lineEnd 7 = .ok (.if_icmp .ge 19, 3) := by decide +kernel
theorem dX0_lineEnd_10 : decode cX0_lineEnd 10 = .ok (.aload_n 0, 1) := by decide +kernel
theorem dX0_lineEnd_11 : decode cX0_lineEnd 11 = .ok (.iload_n 2, 1) := by decide +kernel
theorem dX0_lineEnd_12 : decode cX0_lineEnd 12 = .ok (.invokevirtual 42, 3) := by decide +kernel
theorem dX0_lineEnd_15 : decode cX0_lineEnd 15 = .ok (.bipush 10, 2) := by decide +kernel
theorem dX0_lineEnd_17 : decode cX0_lineEnd 17 = .ok (.if_icmp .eq 9, 3) := by decide +kernel
theorem dX0_lineEnd_20 : decode cX0_lineEnd 20 = .ok (.iinc 2 1, 3) := by decide +kernel
theorem dX0_lineEnd_23 : decode cX0_lineEnd 23 = .ok (.goto (-21), 3) := by decide +kernel
theorem dX0_lineEnd_26 : decode cX0_lineEnd 26 = .ok (.iload_n 2, 1) := by decide +kernel
theorem dX0_lineEnd_27 : decode cX0_lineEnd 27 = .ok (.ireturn, 1) := by decide +kernel
theorem dX0_beginOfLine_0 : decode cX0_beginOfLine 0 = .ok (.iconst 0, 1) := by decide +kernel
theorem dX0_beginOfLine_1 : decode cX0_beginOfLine 1 = .ok (.istore_n 2, 1) := by decide +kernel
theorem dX0_beginOfLine_2 : decode cX0_beginOfLine 2 = .ok (.iconst 0, 1) := by decide +kernel
theorem dX0_beginOfLine_3 : decode cX0_beginOfLine 3 = .ok (.istore_n 3, 1) := by decide +kernel
theorem dX0_beginOfLine_4 : decode cX0_beginOfLine 4 = .ok (.iload_n 3, 1) := by decide +kernel
theorem dX0_beginOfLine_5 : decode cX0_beginOfLine 5 = .ok (.iload_n 1, 1) := by decide +kernel
theorem dX0_beginOfLine_6 : decode cX0_beginOfLine 6 = .ok (.if_icmp .ge 17, 3) := by decide +kernel
theorem dX0_beginOfLine_9 : decode cX0_beginOfLine 9 = .ok (.aload_n 0, 1) := by decide +kernel
theorem dX0_beginOfLine_10 : decode cX0_beginOfLine 10 = .ok (.iload_n 2, 1) := by decide +kernel
theorem dX0_beginOfLine_11 : decode cX0_beginOfLine 11 = .ok (.invokevirtual 49, 3) := by decide +kernel
theorem dX0_beginOfLine_14 : decode cX0_beginOfLine 14 = .ok (.iconst 1, 1) := by decide +kernel
theorem dX0_beginOfLine_15 : decode cX0_beginOfLine 15 = .ok (.iadd, 1) := by decide +kernel
theorem dX0_beginOfLine_16 : decode cX0_beginOfLine 16 = .ok (.istore_n 2, 1) := by decide +kernel
theorem dX0_beginOfLine_17 : decode cX0_beginOfLine 17 = .ok (.iinc 3 1, 3) := by decide +kernel
theorem dX0_beginOfLine_20 : decode cX0_beginOfLine 20 = .ok (.goto (-16), 3) := by decide +kernel
theorem dX0_beginOfLine_23 : decode cX0_beginOfLine 23 = .ok (.iload_n 2, 1) := by decide +kernel
theorem dX0_beginOfLine_24 : decode cX0_beginOfLine 24 = .ok (.ireturn, 1) := by decide +kernel
theorem dX1_init_0 : decode cX1_init 0 = .ok (.aload_n 0, 1) := by decide +kernel
theorem dX1_init_1 : decode cX1_init 1 = .ok (.invokespecial 3, 3) := by decide +kernel
theorem dX1_init_4 : decode cX1_init 4 = .ok (.aload_n 0, 1) := by decide +kernel
theorem dX1_init_5 : decode cX1_init 5 = .ok (.new 9, 3) := by decide +kernel
theorem dX1_init_8 : decode cX1_init 8 = .ok (.dup, 1) := by decide +kernel
theorem dX1_init_9 : decode cX1_init 9 = .ok (.bipush 60, 2) := by decide +kernel
theorem dX1_init_11 : decode cX1_init 11 = .ok (.invokespecial 11, 3) := by decide +kernel
theorem dX1_init_14 : decode cX1_init 14 = .ok (.putfield 14, 3) := by decide +kernel
theorem dX1_init_17 : decode cX1_init 17 = .ok (.aload_n 0, 1) := by decide +kernel
theorem dX1_init_18 : decode cX1_init 18 = .ok (.new 20, 3) := by decide +kernel
theorem dX1_init_21 : decode cX1_init 21 = .ok (.dup, 1) := by decide +kernel
theorem dX1_init_22 : decode cX1_init 22 = .ok (.invokespecial 22, 3) := by decide +kernel
theorem dX1_init_25 : decode cX1_init 25 = .ok (.putfield 23, 3) := by decide +kernel
theorem dX1_init_28 : decode cX1_init 28 = .ok (.return_, 1) := by decide +kernel
theorem dX1_firstFault_0 : decode cX1_firstFault 0 = .ok (.aload_n 0, 1) := by decide +kernel
theorem dX1_firstFault_1 : decode cX1_firstFault 1 = .ok (.getfield 23, 3) := by decide +kernel
theorem dX1_firstFault_4 : decode cX1_firstFault 4 = .ok (.invokevirtual 27, 3) := by decide +kernel
theorem dX1_firstFault_7 : decode cX1_firstFault 7 = .ok (.iconst 0, 1) := by decide +kernel
theorem dX1_firstFault_8 : decode cX1_firstFault 8 = .ok (.istore_n 1, 1) := by decide +kernel
theorem dX1_firstFault_9 : decode cX1_firstFault 9 = .ok (.iload_n 1, 1) := by decide +kernel
theorem dX1_firstFault_10 : decode cX1_firstFault 10 = .ok (.aload_n 0, 1) := by decide +kernel
theorem dX1_firstFault_11 : decode cX1_firstFault 11 = .ok (.getfield 14, 3) := by decide +kernel
theorem dX1_firstFault_14 : decode cX1_firstFault 14 = .ok (.invokevirtual 30, 3) := by decide +kernel
theorem dX1_firstFault_17 : decode cX1_firstFault 17 = .ok (.if_icmp .ge 29, 3) := by decide +kernel
theorem dX1_firstFault_20 : decode cX1_firstFault 20 = .ok (.aload_n 0, 1) := by decide +kernel
theorem dX1_firstFault_21 : decode cX1_firstFault 21 = .ok (.getfield 23, 3) := by decide +kernel
theorem dX1_firstFault_24 : decode cX1_firstFault 24 = .ok (.aload_n 0, 1) := by decide +kernel
theorem dX1_firstFault_25 : decode cX1_firstFault 25 = .ok (.getfield 14, 3) := by decide +kernel
theorem dX1_firstFault_28 : decode cX1_firstFault 28 = .ok (.iload_n 1, 1) := by decide +kernel
theorem dX1_firstFault_29 : decode cX1_firstFault 29 = .ok (.invokevirtual 34, 3) := by decide +kernel
theorem dX1_firstFault_32 : decode cX1_firstFault 32 = .ok (.invokevirtual 38, 3) := by decide +kernel
theorem dX1_firstFault_35 : decode cX1_firstFault 35 = .ok (.ifCond .ne 5, 3) := by decide +kernel
theorem dX1_firstFault_38 : decode cX1_firstFault 38 = .ok (.iload_n 1, 1) := by decide +kernel
theorem dX1_firstFault_39 : decode cX1_firstFault 39 = .ok (.ireturn, 1) := by decide +kernel
theorem dX1_firstFault_40 : decode cX1_firstFault 40 = .ok (.iinc 1 1, 3) := by decide +kernel
theorem dX1_firstFault_43 : decode cX1_firstFault 43 = .ok (.goto (-34), 3) := by decide +kernel
theorem dX1_firstFault_46 : decode cX1_firstFault 46 = .ok (.aload_n 0, 1) := by decide +kernel
theorem dX1_firstFault_47 : decode cX1_firstFault 47 = .ok (.getfield 14, 3) := by decide +kernel
theorem dX1_firstFault_50 : decode cX1_firstFault 50 = .ok (.invokevirtual 30, 3) := by decide +kernel
theorem dX1_firstFault_53 : decode cX1_firstFault 53 = .ok (.ireturn, 1) := by decide +kernel
theorem dX1_isComplete_0 : decode cX1_isComplete 0 = .ok (.aload_n 0, 1) := by decide +kernel
theorem dX1_isComplete_1 : decode cX1_isComplete 1 = .ok (.invokevirtual 42, 3) := by decide +kernel
theorem dX1_isComplete_4 : decode cX1_isComplete 4 = .ok (.aload_n 0, 1) := by decide +kernel
theorem dX1_isComplete_5 : decode cX1_isComplete 5 = .ok (.getfield 14, 3) := by decide +kernel
theorem dX1_isComplete_8 : decode cX1_isComplete 8 = .ok (.invokevirtual 30, 3) := by decide +kernel
theorem dX1_isComplete_11 : decode cX1_isComplete 11 = .ok (.if_icmp .ne 17, 3) := by decide +kernel
theorem dX1_isComplete_14 : decode cX1_isComplete 14 = .ok (.aload_n 0, 1) := by decide +kernel
theorem dX1_isComplete_15 : decode cX1_isComplete 15 = .ok (.getfield 23, 3) := by decide +kernel
theorem dX1_isComplete_18 : decode cX1_isComplete 18 = .ok (.invokevirtual 45, 3) := by decide +kernel
theorem dX1_isComplete_21 : decode cX1_isComplete 21 = .ok (.ifCond .eq 7, 3) := by decide +kernel
theorem dX1_isComplete_24 : decode cX1_isComplete 24 = .ok (.iconst 1, 1) := by decide +kernel
theorem dX1_isComplete_25 : decode cX1_isComplete 25 = .ok (.goto 4, 3) := by decide +kernel
theorem dX1_isComplete_28 : decode cX1_isComplete 28 = .ok (.iconst 0, 1) := by decide +kernel
theorem dX1_isComplete_29 : decode cX1_isComplete 29 = .ok (.ireturn, 1) := by decide +kernel
theorem dX1_executeOn_0 : decode cX1_executeOn 0 = .ok (.iconst 0, 1) := by decide +kernel
theorem dX1_executeOn_1 : decode cX1_executeOn 1 = .ok (.istore_n 2, 1) := by decide +kernel
theorem dX1_executeOn_2 : decode cX1_executeOn 2 = .ok (.aload_n 0, 1) := by decide +kernel
theorem dX1_executeOn_3 : decode cX1_executeOn 3 = .ok (.getfield 23, 3) := by decide +kernel
theorem dX1_executeOn_6 : decode cX1_executeOn 6 = .ok (.invokevirtual 27, 3) := by decide +kernel
theorem dX1_executeOn_9 : decode cX1_executeOn 9 = .ok (.iconst 0, 1) := by decide +kernel
theorem dX1_executeOn_10 : decode cX1_executeOn 10 = .ok (.istore_n 3, 1) := by decide +kernel
theorem dX1_executeOn_11 : decode cX1_executeOn 11 = .ok (.iload_n 3, 1) := by decide +kernel
theorem dX1_executeOn_12 : decode cX1_executeOn 12 = .ok (.aload_n 0, 1) := by decide +kernel
theorem dX1_executeOn_13 : decode cX1_executeOn 13 = .ok (.getfield 14, 3) := by decide +kernel
theorem dX1_executeOn_16 : decode cX1_executeOn 16 = .ok (.invokevirtual 30, 3) := by decide +kernel
theorem dX1_executeOn_19 : decode cX1_executeOn 19 = .ok (.if_icmp .ge 66, 3) := by decide +kernel
theorem dX1_executeOn_22 : decode cX1_executeOn 22 = .ok (.aload_n 0, 1) := by decide +kernel
theorem dX1_executeOn_23 : decode cX1_executeOn 23 = .ok (.getfield 23, 3) := by decide +kernel
theorem dX1_executeOn_26 : decode cX1_executeOn 26 = .ok (.aload_n 0, 1) := by decide +kernel
theorem dX1_executeOn_27 : decode cX1_executeOn 27 = .ok (.getfield 14, 3) := by decide +kernel
theorem dX1_executeOn_30 : decode cX1_executeOn 30 = .ok (.iload_n 3, 1) := by decide +kernel
theorem dX1_executeOn_31 : decode cX1_executeOn 31 = .ok (.invokevirtual 34, 3) := by decide +kernel
theorem dX1_executeOn_34 : decode cX1_executeOn 34 = .ok (.invokevirtual 38, 3) := by decide +kernel
theorem dX1_executeOn_37 : decode cX1_executeOn 37 = .ok (.pop, 1) := by decide +kernel
theorem dX1_executeOn_38 : decode cX1_executeOn 38 = .ok (.aload_n 0, 1) := by decide +kernel
theorem dX1_executeOn_39 : decode cX1_executeOn 39 = .ok (.iload_n 3, 1) := by decide +kernel
theorem dX1_executeOn_40 : decode cX1_executeOn 40 = .ok (.iconst 1, 1) := by decide +kernel
theorem dX1_executeOn_41 : decode cX1_executeOn 41 = .ok (.iadd, 1) := by decide +kernel
theorem dX1_executeOn_42 : decode cX1_executeOn 42 = .ok (.invokevirtual 49, 3) := by decide +kernel
theorem dX1_executeOn_45 : decode cX1_executeOn 45 = .ok (.ifCond .eq 34, 3) := by decide +kernel
theorem dX1_executeOn_48 : decode cX1_executeOn 48 = .ok (.aload_n 0, 1) := by decide +kernel
theorem dX1_executeOn_49 : decode cX1_executeOn 49 = .ok (.aload_n 1, 1) := by decide +kernel
theorem dX1_executeOn_50 : decode cX1_executeOn 50 = .ok (.invokevirtual 52, 3) := by decide +kernel
theorem dX1_executeOn_53 : decode cX1_executeOn 53 = .ok (.istore 4, 2) := by decide +kernel
theorem dX1_executeOn_55 : decode cX1_executeOn 55 = .ok (.iload 4, 2) := by decide +kernel
theorem dX1_executeOn_57 : decode cX1_executeOn 57 = .ok (.ifCond .eq 11, 3) := by decide +kernel
theorem dX1_executeOn_60 : decode cX1_executeOn 60 = .ok (.bipush 10, 2) := by decide +kernel
theorem dX1_executeOn_62 : decode cX1_executeOn 62 = .ok (.iload_n 2, 1) := by decide +kernel
theorem dX1_executeOn_63 : decode cX1_executeOn 63 = .ok (.imul, 1) := by decide +kernel
theorem dX1_executeOn_64 : decode cX1_executeOn 64 = .ok (.iload 4, 2) := by decide +kernel
theorem dX1_executeOn_66 : decode cX1_executeOn 66 = .ok (.iadd, 1) := by decide +kernel
theorem dX1_executeOn_67 : decode cX1_executeOn 67 = .ok (.ireturn, 1) := by decide +kernel
theorem dX1_executeOn_68 : decode cX1_executeOn 68 = .ok (.aload_n 0, 1) := by decide +kernel
theorem dX1_executeOn_69 : decode cX1_executeOn 69 = .ok (.aload_n 1, 1) := by decide +kernel
theorem dX1_executeOn_70 : decode cX1_executeOn 70 = .ok (.iload_n 3, 1) := by decide +kernel
theorem dX1_executeOn_71 : decode cX1_executeOn 71 = .ok (.iconst 1, 1) := by decide +kernel
theorem dX1_executeOn_72 : decode cX1_executeOn 72 = .ok (.iadd, 1) := by decide +kernel
theorem dX1_executeOn_73 : decode cX1_executeOn 73 = .ok (.invokevirtual 56, 3) := by decide +kernel
theorem dX1_executeOn_76 : decode cX1_executeOn 76 = .ok (.iinc 2 1, 3) := by decide +kernel
theorem dX1_executeOn_79 : decode cX1_executeOn 79 = .ok (.iinc 3 1, 3) := by decide +kernel
theorem dX1_executeOn_82 : decode cX1_executeOn 82 = .ok (.goto (-71), 3) := by decide +kernel
theorem dX1_executeOn_85 : decode cX1_executeOn 85 = .ok (.iconst 0, 1) := by decide +kernel
theorem dX1_executeOn_86 : decode cX1_executeOn 86 = .ok (.ireturn, 1) := by decide +kernel
theorem dX1_isEndOfCommand_0 : decode cX1_isEndOfCommand 0 = .ok (.iload_n 1, 1) := by decide +kernel
theorem dX1_isEndOfCommand_1 : decode cX1_isEndOfCommand 1 = .ok (.aload_n 0, 1) := by decide +kernel
theorem dX1_isEndOfCommand_2 : decode cX1_isEndOfCommand 2 = .ok (.getfield 14, 3) := by decide +kernel
theorem dX1_isEndOfCommand_5 : decode cX1_isEndOfCommand 5 = .ok (.invokevirtual 30, 3) := by decide +kernel
theorem dX1_isEndOfCommand_8 : decode cX1_isEndOfCommand 8 = .ok (.if_icmp .eq 16, 3) := by decide +kernel
theorem dX1_isEndOfCommand_11 : decode cX1_isEndOfCommand 11 = .ok (.aload_n 0, 1) := by decide +kernel
theorem dX1_isEndOfCommand_12 : decode cX1_isEndOfCommand 12 = .ok (.getfield 14, 3) := by decide +kernel
theorem dX1_isEndOfCommand_15 : decode cX1_isEndOfCommand 15 = .ok (.iload_n 1, 1) := by decide +kernel
theorem dX1_isEndOfCommand_16 : decode cX1_isEndOfCommand 16 = .ok (.invokevirtual 34, 3) := by decide +kernel
theorem dX1_isEndOfCommand_19 : decode cX1_isEndOfCommand 19 = .ok (.bipush 59, 2) := by decide +kernel
theorem dX1_isEndOfCommand_21 : decode cX1_isEndOfCommand 21 = .ok (.if_icmp .ne 7, 3) := by decide +kernel
theorem dX1_isEndOfCommand_24 : decode cX1_isEndOfCommand 24 = .ok (.iconst 1, 1) := by decide +kernel
theorem dX1_isEndOfCommand_25 : decode cX1_isEndOfCommand 25 = .ok (.goto 4, 3) := by decide +kernel
theorem dX1_isEndOfCommand_28 : decode cX1_isEndOfCommand 28 = .ok (.iconst 0, 1) := by decide +kernel
theorem dX1_isEndOfCommand_29 : decode cX1_isEndOfCommand 29 = .ok (.ireturn, 1) := by decide +kernel
theorem dX1_faultOn_0 : decode cX1_faultOn 0 = .ok (.aload_n 0, 1) := by decide +kernel
theorem dX1_faultOn_1 : decode cX1_faultOn 1 = .ok (.getfield 23, 3) := by decide +kernel
theorem dX1_faultOn_4 : decode cX1_faultOn 4 = .ok (.getfield 60, 3) := by decide +kernel
theorem dX1_faultOn_7 : decode cX1_faultOn 7 = .ok (.lookupswitch 96 #[(43, 49), (64, 67), (110, 61), (112, 91), (120, 79)], 49) := by decide +kernel
theorem dX1_faultOn_56 : decode cX1_faultOn 56 = .ok (.aload_n 1, 1) := by decide +kernel
theorem dX1_faultOn_57 : decode cX1_faultOn 57 = .ok (.aload_n 0, 1) := by decide +kernel
theorem dX1_faultOn_58 : decode cX1_faultOn 58 = .ok (.getfield 23, 3) := by decide +kernel
theorem dX1_faultOn_61 : decode cX1_faultOn 61 = .ok (.getfield 64, 3) := by decide +kernel
theorem dX1_faultOn_64 : decode cX1_faultOn 64 = .ok (.invokevirtual 67, 3) := by decide +kernel
theorem dX1_faultOn_67 : decode cX1_faultOn 67 = .ok (.ireturn, 1) := by decide +kernel
theorem dX1_faultOn_68 : decode cX1_faultOn 68 = .ok (.aload_n 1, 1) := by decide +kernel
theorem dX1_faultOn_69 : decode cX1_faultOn 69 = .ok (.iconst 1, 1) := by decide +kernel
theorem dX1_faultOn_70 : decode cX1_faultOn 70 = .ok (.invokevirtual 67, 3) := by decide +kernel
theorem dX1_faultOn_73 : decode cX1_faultOn 73 = .ok (.ireturn, 1) := by decide +kernel
theorem dX1_faultOn_74 : decode cX1_faultOn 74 = .ok (.aload_n 1, 1) := by decide +kernel
theorem dX1_faultOn_75 : decode cX1_faultOn 75 = .ok (.aload_n 0, 1) := by decide +kernel
theorem dX1_faultOn_76 : decode cX1_faultOn 76 = .ok (.getfield 23, 3) := by decide +kernel
theorem dX1_faultOn_79 : decode cX1_faultOn 79 = .ok (.getfield 72, 3) := by decide +kernel
theorem dX1_faultOn_82 : decode cX1_faultOn 82 = .ok (.invokevirtual 75, 3) := by decide +kernel
theorem dX1_faultOn_85 : decode cX1_faultOn 85 = .ok (.ireturn, 1) := by decide +kernel
theorem dX1_faultOn_86 : decode cX1_faultOn 86 = .ok (.aload_n 1, 1) := by decide +kernel
theorem dX1_faultOn_87 : decode cX1_faultOn 87 = .ok (.aload_n 0, 1) := by decide +kernel
theorem dX1_faultOn_88 : decode cX1_faultOn 88 = .ok (.getfield 23, 3) := by decide +kernel
theorem dX1_faultOn_91 : decode cX1_faultOn 91 = .ok (.getfield 72, 3) := by decide +kernel
theorem dX1_faultOn_94 : decode cX1_faultOn 94 = .ok (.invokevirtual 78, 3) := by decide +kernel
theorem dX1_faultOn_97 : decode cX1_faultOn 97 = .ok (.ireturn, 1) := by decide +kernel
theorem dX1_faultOn_98 : decode cX1_faultOn 98 = .ok (.aload_n 1, 1) := by decide +kernel
theorem dX1_faultOn_99 : decode cX1_faultOn 99 = .ok (.invokevirtual 81, 3) := by decide +kernel
theorem dX1_faultOn_102 : decode cX1_faultOn 102 = .ok (.ireturn, 1) := by decide +kernel
theorem dX1_faultOn_103 : decode cX1_faultOn 103 = .ok (.iconst 0, 1) := by decide +kernel
theorem dX1_faultOn_104 : decode cX1_faultOn 104 = .ok (.ireturn, 1) := by decide +kernel
theorem dX1_execute_0 : decode cX1_execute 0 = .ok (.aload_n 0, 1) := by decide +kernel
theorem dX1_execute_1 : decode cX1_execute 1 = .ok (.getfield 23, 3) := by decide +kernel
theorem dX1_execute_4 : decode cX1_execute 4 = .ok (.getfield 60, 3) := by decide +kernel
theorem dX1_execute_7 : decode cX1_execute 7 = .ok (.lookupswitch 210 #[(43, 73), (45, 110), (60, 125), (64, 140), (109, 155), (110, 100), (112, 191), (120, 177)], 73) := by decide +kernel
theorem dX1_execute_80 : decode cX1_execute 80 = .ok (.aload_n 1, 1) := by decide +kernel
theorem dX1_execute_81 : decode cX1_execute 81 = .ok (.aload_n 0, 1) := by decide +kernel
theorem dX1_execute_82 : decode cX1_execute 82 = .ok (.getfield 14, 3) := by decide +kernel
theorem dX1_execute_85 : decode cX1_execute 85 = .ok (.iload_n 2, 1) := by decide +kernel
theorem dX1_execute_86 : decode cX1_execute 86 = .ok (.aload_n 0, 1) := by decide +kernel
theorem dX1_execute_87 : decode cX1_execute 87 = .ok (.getfield 23, 3) := by decide +kernel
theorem dX1_execute_90 : decode cX1_execute 90 = .ok (.getfield 64, 3) := by decide +kernel
theorem dX1_execute_93 : decode cX1_execute 93 = .ok (.isub, 1) := by decide +kernel
theorem dX1_execute_94 : decode cX1_execute 94 = .ok (.aload_n 0, 1) := by decide +kernel
theorem dX1_execute_95 : decode cX1_execute 95 = .ok (.getfield 23, 3) := by decide +kernel
theorem dX1_execute_98 : decode cX1_execute 98 = .ok (.getfield 64, 3) := by decide +kernel
theorem dX1_execute_101 : decode cX1_execute 101 = .ok (.invokevirtual 84, 3) := by decide +kernel
theorem dX1_execute_104 : decode cX1_execute 104 = .ok (.goto 113, 3) := by decide +kernel
theorem dX1_execute_107 : decode cX1_execute 107 = .ok (.aload_n 1, 1) := by decide +kernel
theorem dX1_execute_108 : decode cX1_execute 108 = .ok (.bipush 10, 2) := by decide +kernel
theorem dX1_execute_110 : decode cX1_execute 110 = .ok (.iconst 1, 1) := by decide +kernel
theorem dX1_execute_111 : decode cX1_execute 111 = .ok (.invokevirtual 88, 3) := by decide +kernel
theorem dX1_execute_114 : decode cX1_execute 114 = .ok (.goto 103, 3) := by decide +kernel
theorem dX1_execute_117 : decode cX1_execute 117 = .ok (.aload_n 1, 1) := by decide +kernel
theorem dX1_execute_118 : decode cX1_execute 118 = .ok (.aload_n 0, 1) := by decide +kernel
theorem dX1_execute_119 : decode cX1_execute 119 = .ok (.getfield 23, 3) := by decide +kernel
theorem dX1_execute_122 : decode cX1_execute 122 = .ok (.getfield 72, 3) := by decide +kernel
theorem dX1_execute_125 : decode cX1_execute 125 = .ok (.invokevirtual 92, 3) := by decide +kernel
theorem dX1_execute_128 : decode cX1_execute 128 = .ok (.pop, 1) := by decide +kernel
theorem dX1_execute_129 : decode cX1_execute 129 = .ok (.goto 88, 3) := by decide +kernel
theorem dX1_execute_132 : decode cX1_execute 132 = .ok (.aload_n 1, 1) := by decide +kernel
theorem dX1_execute_133 : decode cX1_execute 133 = .ok (.aload_n 0, 1) := by decide +kernel
theorem dX1_execute_134 : decode cX1_execute 134 = .ok (.getfield 23, 3) := by decide +kernel
theorem dX1_execute_137 : decode cX1_execute 137 = .ok (.getfield 72, 3) := by decide +kernel
theorem dX1_execute_140 : decode cX1_execute 140 = .ok (.invokevirtual 95, 3) := by decide +kernel
theorem dX1_execute_143 : decode cX1_execute 143 = .ok (.pop, 1) := by decide +kernel
theorem dX1_execute_144 : decode cX1_execute 144 = .ok (.goto 73, 3) := by decide +kernel
theorem dX1_execute_147 : decode cX1_execute 147 = .ok (.aload_n 1, 1) := by decide +kernel
theorem dX1_execute_148 : decode cX1_execute 148 = .ok (.aload_n 0, 1) := by decide +kernel
theorem dX1_execute_149 : decode cX1_execute 149 = .ok (.getfield 23, 3) := by decide +kernel
theorem dX1_execute_152 : decode cX1_execute 152 = .ok (.getfield 72, 3) := by decide +kernel
theorem dX1_execute_155 : decode cX1_execute 155 = .ok (.invokevirtual 98, 3) := by decide +kernel
theorem dX1_execute_158 : decode cX1_execute 158 = .ok (.pop, 1) := by decide +kernel
theorem dX1_execute_159 : decode cX1_execute 159 = .ok (.goto 58, 3) := by decide +kernel
theorem dX1_execute_162 : decode cX1_execute 162 = .ok (.aload_n 1, 1) := by decide +kernel
theorem dX1_execute_163 : decode cX1_execute 163 = .ok (.getfield 101, 3) := by decide +kernel
theorem dX1_execute_166 : decode cX1_execute 166 = .ok (.aload_n 0, 1) := by decide +kernel
theorem dX1_execute_167 : decode cX1_execute 167 = .ok (.getfield 23, 3) := by decide +kernel
theorem dX1_execute_170 : decode cX1_execute 170 = .ok (.getfield 72, 3) := by decide +kernel
theorem dX1_execute_173 : decode cX1_execute 173 = .ok (.aload_n 1, 1) := by decide +kernel
theorem dX1_execute_174 : decode cX1_execute 174 = .ok (.getfield 105, 3) := by decide +kernel
theorem dX1_execute_177 : decode cX1_execute 177 = .ok (.iconst 1, 1) := by decide +kernel
theorem dX1_execute_178 : decode cX1_execute 178 = .ok (.invokevirtual 108, 3) := by decide +kernel
theorem dX1_execute_181 : decode cX1_execute 181 = .ok (.goto 36, 3) := by decide +kernel
theorem dX1_execute_184 : decode cX1_execute 184 = .ok (.aload_n 1, 1) := by decide +kernel
theorem dX1_execute_185 : decode cX1_execute 185 = .ok (.aload_n 0, 1) := by decide +kernel
theorem dX1_execute_186 : decode cX1_execute 186 = .ok (.getfield 23, 3) := by decide +kernel
theorem dX1_execute_189 : decode cX1_execute 189 = .ok (.getfield 72, 3) := by decide +kernel
theorem dX1_execute_192 : decode cX1_execute 192 = .ok (.invokevirtual 114, 3) := by decide +kernel
theorem dX1_execute_195 : decode cX1_execute 195 = .ok (.goto 22, 3) := by decide +kernel
theorem dX1_execute_198 : decode cX1_execute 198 = .ok (.aload_n 1, 1) := by decide +kernel
theorem dX1_execute_199 : decode cX1_execute 199 = .ok (.aload_n 1, 1) := by decide +kernel
theorem dX1_execute_200 : decode cX1_execute 200 = .ok (.getfield 117, 3) := by decide +kernel
theorem dX1_execute_203 : decode cX1_execute 203 = .ok (.iconst 0, 1) := by decide +kernel
theorem dX1_execute_204 : decode cX1_execute 204 = .ok (.aload_n 1, 1) := by decide +kernel
theorem dX1_execute_205 : decode cX1_execute 205 = .ok (.getfield 117, 3) := by decide +kernel
theorem dX1_execute_208 : decode cX1_execute 208 = .ok (.invokevirtual 30, 3) := by decide +kernel
theorem dX1_execute_211 : decode cX1_execute 211 = .ok (.invokevirtual 84, 3) := by decide +kernel
theorem dX1_execute_214 : decode cX1_execute 214 = .ok (.goto 3, 3) := by decide +kernel
theorem dX1_execute_217 : decode cX1_execute 217 = .ok (.return_, 1) := by decide +kernel
theorem dX2_init_0 : decode cX2_init 0 = .ok (.aload_n 0, 1) := by decide +kernel
theorem dX2_init_1 : decode cX2_init 1 = .ok (.invokespecial 3, 3) := by decide +kernel
theorem dX2_init_4 : decode cX2_init 4 = .ok (.aload_n 0, 1) := by decide +kernel
theorem dX2_init_5 : decode cX2_init 5 = .ok (.bipush 6, 2) := by decide +kernel
theorem dX2_init_7 : decode cX2_init 7 = .ok (.anewarray 9, 3) := by decide +kernel
theorem dX2_init_10 : decode cX2_init 10 = .ok (.putfield 11, 3) := by decide +kernel
theorem dX2_init_13 : decode cX2_init 13 = .ok (.aload_n 0, 1) := by decide +kernel
theorem dX2_init_14 : decode cX2_init 14 = .ok (.iconst 0, 1) := by decide +kernel
theorem dX2_init_15 : decode cX2_init 15 = .ok (.putfield 17, 3) := by decide +kernel
theorem dX2_init_18 : decode cX2_init 18 = .ok (.aload_n 0, 1) := by decide +kernel
theorem dX2_init_19 : decode cX2_init 19 = .ok (.iconst 0, 1) := by decide +kernel
theorem dX2_init_20 : decode cX2_init 20 = .ok (.putfield 21, 3) := by decide +kernel
theorem dX2_init_23 : decode cX2_init 23 = .ok (.iconst 0, 1) := by decide +kernel
theorem dX2_init_24 : decode cX2_init 24 = .ok (.istore_n 1, 1) := by decide +kernel
theorem dX2_init_25 : decode cX2_init 25 = .ok (.iload_n 1, 1) := by decide +kernel
theorem dX2_init_26 : decode cX2_init 26 = .ok (.aload_n 0, 1) := by decide +kernel
theorem dX2_init_27 : decode cX2_init 27 = .ok (.getfield 11, 3) := by decide +kernel
theorem dX2_init_30 : decode cX2_init 30 = .ok (.arraylength, 1) := by decide +kernel
theorem dX2_init_31 : decode cX2_init 31 = .ok (.if_icmp .ge 22, 3) := by decide +kernel
theorem dX2_init_34 : decode cX2_init 34 = .ok (.aload_n 0, 1) := by decide +kernel
theorem dX2_init_35 : decode cX2_init 35 = .ok (.getfield 11, 3) := by decide +kernel
theorem dX2_init_38 : decode cX2_init 38 = .ok (.iload_n 1, 1) := by decide +kernel
theorem dX2_init_39 : decode cX2_init 39 = .ok (.new 9, 3) := by decide +kernel
theorem dX2_init_42 : decode cX2_init 42 = .ok (.dup, 1) := by decide +kernel
theorem dX2_init_43 : decode cX2_init 43 = .ok (.invokespecial 24, 3) := by decide +kernel
theorem dX2_init_46 : decode cX2_init 46 = .ok (.aastore, 1) := by decide +kernel
theorem dX2_init_47 : decode cX2_init 47 = .ok (.iinc 1 1, 3) := by decide +kernel
theorem dX2_init_50 : decode cX2_init 50 = .ok (.goto (-25), 3) := by decide +kernel
theorem dX2_init_53 : decode cX2_init 53 = .ok (.return_, 1) := by decide +kernel
theorem dX2_count_0 : decode cX2_count 0 = .ok (.aload_n 0, 1) := by decide +kernel
theorem dX2_count_1 : decode cX2_count 1 = .ok (.getfield 21, 3) := by decide +kernel
theorem dX2_count_4 : decode cX2_count 4 = .ok (.ireturn, 1) := by decide +kernel
theorem dX2_save_0 : decode cX2_save 0 = .ok (.aload_n 0, 1) := by decide +kernel
theorem dX2_save_1 : decode cX2_save 1 = .ok (.getfield 17, 3) := by decide +kernel
theorem dX2_save_4 : decode cX2_save 4 = .ok (.aload_n 0, 1) := by decide +kernel
theorem dX2_save_5 : decode cX2_save 5 = .ok (.getfield 11, 3) := by decide +kernel
theorem dX2_save_8 : decode cX2_save 8 = .ok (.arraylength, 1) := by decide +kernel
theorem dX2_save_9 : decode cX2_save 9 = .ok (.if_icmp .ne 8, 3) := by decide +kernel
theorem dX2_save_12 : decode cX2_save 12 = .ok (.aload_n 0, 1) := by decide +kernel
theorem dX2_save_13 : decode cX2_save 13 = .ok (.iconst 0, 1) := by decide +kernel
theorem dX2_save_14 : decode cX2_save 14 = .ok (.putfield 17, 3) := by decide +kernel
theorem dX2_save_17 : decode cX2_save 17 = .ok (.aload_n 0, 1) := by decide +kernel
theorem dX2_save_18 : decode cX2_save 18 = .ok (.getfield 11, 3) := by decide +kernel
theorem dX2_save_21 : decode cX2_save 21 = .ok (.aload_n 0, 1) := by decide +kernel
theorem dX2_save_22 : decode cX2_save 22 = .ok (.getfield 17, 3) := by decide +kernel
theorem dX2_save_25 : decode cX2_save 25 = .ok (.aaload, 1) := by decide +kernel
theorem dX2_save_26 : decode cX2_save 26 = .ok (.aload_n 1, 1) := by decide +kernel
theorem dX2_save_27 : decode cX2_save 27 = .ok (.invokevirtual 25, 3) := by decide +kernel
theorem dX2_save_30 : decode cX2_save 30 = .ok (.aload_n 0, 1) := by decide +kernel
theorem dX2_save_31 : decode cX2_save 31 = .ok (.dup, 1) := by decide +kernel
theorem dX2_save_32 : decode cX2_save 32 = .ok (.getfield 17, 3) := by decide +kernel
theorem dX2_save_35 : decode cX2_save 35 = .ok (.iconst 1, 1) := by decide +kernel
theorem dX2_save_36 : decode cX2_save 36 = .ok (.iadd, 1) := by decide +kernel
theorem dX2_save_37 : decode cX2_save 37 = .ok (.putfield 17, 3) := by decide +kernel
theorem dX2_save_40 : decode cX2_save 40 = .ok (.aload_n 0, 1) := by decide +kernel
theorem dX2_save_41 : decode cX2_save 41 = .ok (.aload_n 0, 1) := by decide +kernel
theorem dX2_save_42 : decode cX2_save 42 = .ok (.getfield 21, 3) := by decide +kernel
theorem dX2_save_45 : decode cX2_save 45 = .ok (.iconst 1, 1) := by decide +kernel
theorem dX2_save_46 : decode cX2_save 46 = .ok (.iadd, 1) := by decide +kernel
theorem dX2_save_47 : decode cX2_save 47 = .ok (.aload_n 0, 1) := by decide +kernel
theorem dX2_save_48 : decode cX2_save 48 = .ok (.getfield 11, 3) := by decide +kernel
theorem dX2_save_51 : decode cX2_save 51 = .ok (.arraylength, 1) := by decide +kernel
theorem dX2_save_52 : decode cX2_save 52 = .ok (.invokestatic 29, 3) := by decide +kernel
theorem dX2_save_55 : decode cX2_save 55 = .ok (.putfield 21, 3) := by decide +kernel
theorem dX2_save_58 : decode cX2_save 58 = .ok (.return_, 1) := by decide +kernel
theorem dX2_restore_0 : decode cX2_restore 0 = .ok (.aload_n 0, 1) := by decide +kernel
theorem dX2_restore_1 : decode cX2_restore 1 = .ok (.aload_n 0, 1) := by decide +kernel
theorem dX2_restore_2 : decode cX2_restore 2 = .ok (.getfield 17, 3) := by decide +kernel
theorem dX2_restore_5 : decode cX2_restore 5 = .ok (.ifCond .le 12, 3) := by decide +kernel
theorem dX2_restore_8 : decode cX2_restore 8 = .ok (.aload_n 0, 1) := by decide +kernel
theorem dX2_restore_9 : decode cX2_restore 9 = .ok (.getfield 17, 3) := by decide +kernel
theorem dX2_restore_12 : decode cX2_restore 12 = .ok (.iconst 1, 1) := by decide +kernel
theorem dX2_restore_13 : decode cX2_restore 13 = .ok (.isub, 1) := by decide +kernel
theorem dX2_restore_14 : decode cX2_restore 14 = .ok (.goto 10, 3) := by decide +kernel
theorem dX2_restore_17 : decode cX2_restore 17 = .ok (.aload_n 0, 1) := by decide +kernel
theorem dX2_restore_18 : decode cX2_restore 18 = .ok (.getfield 11, 3) := by decide +kernel
theorem dX2_restore_21 : decode cX2_restore 21 = .ok (.arraylength, 1) := by decide +kernel
theorem dX2_restore_22 : decode cX2_restore 22 = .ok (.iconst 1, 1) := by decide +kernel
theorem dX2_restore_23 : decode cX2_restore 23 = .ok (.isub, 1) := by decide +kernel
theorem dX2_restore_24 : decode cX2_restore 24 = .ok (.putfield 17, 3) := by decide +kernel
theorem dX2_restore_27 : decode cX2_restore 27 = .ok (.aload_n 0, 1) := by decide +kernel
theorem dX2_restore_28 : decode cX2_restore 28 = .ok (.dup, 1) := by decide +kernel
theorem dX2_restore_29 : decode cX2_restore 29 = .ok (.getfield 21, 3) := by decide +kernel
theorem dX2_restore_32 : decode cX2_restore 32 = .ok (.iconst 1, 1) := by decide +kernel
theorem dX2_restore_33 : decode cX2_restore 33 = .ok (.isub, 1) := by decide +kernel
theorem dX2_restore_34 : decode cX2_restore 34 = .ok (.putfield 21, 3) := by decide +kernel
theorem dX2_restore_37 : decode cX2_restore 37 = .ok (.aload_n 1, 1) := by decide +kernel
theorem dX2_restore_38 : decode cX2_restore 38 = .ok (.aload_n 0, 1) := by decide +kernel
theorem dX2_restore_39 : decode cX2_restore 39 = .ok (.getfield 11, 3) := by decide +kernel
theorem dX2_restore_42 : decode cX2_restore 42 = .ok (.aload_n 0, 1) := by decide +kernel
theorem dX2_restore_43 : decode cX2_restore 43 = .ok (.getfield 17, 3) := by decide +kernel
theorem dX2_restore_46 : decode cX2_restore 46 = .ok (.aaload, 1) := by decide +kernel
theorem dX2_restore_47 : decode cX2_restore 47 = .ok (.invokevirtual 25, 3) := by decide +kernel
theorem dX2_restore_50 : decode cX2_restore 50 = .ok (.return_, 1) := by decide +kernel
theorem dX3_init_0 : decode cX3_init 0 = .ok (.aload_n 0, 1) := by decide +kernel
theorem dX3_init_1 : decode cX3_init 1 = .ok (.invokespecial 3, 3) := by decide +kernel
theorem dX3_init_4 : decode cX3_init 4 = .ok (.aload_n 0, 1) := by decide +kernel
theorem dX3_init_5 : decode cX3_init 5 = .ok (.bipush 8, 2) := by decide +kernel
theorem dX3_init_7 : decode cX3_init 7 = .ok (.putfield 9, 3) := by decide +kernel
theorem dX3_init_10 : decode cX3_init 10 = .ok (.aload_n 0, 1) := by decide +kernel
theorem dX3_init_11 : decode cX3_init 11 = .ok (.iconst 0, 1) := by decide +kernel
theorem dX3_init_12 : decode cX3_init 12 = .ok (.putfield 15, 3) := by decide +kernel
theorem dX3_init_15 : decode cX3_init 15 = .ok (.aload_n 0, 1) := by decide +kernel
theorem dX3_init_16 : decode cX3_init 16 = .ok (.iconst 0, 1) := by decide +kernel
theorem dX3_init_17 : decode cX3_init 17 = .ok (.putfield 18, 3) := by decide +kernel
theorem dX3_init_20 : decode cX3_init 20 = .ok (.aload_n 0, 1) := by decide +kernel
theorem dX3_init_21 : decode cX3_init 21 = .ok (.iconst 0, 1) := by decide +kernel
theorem dX3_init_22 : decode cX3_init 22 = .ok (.putfield 21, 3) := by decide +kernel
theorem dX3_init_25 : decode cX3_init 25 = .ok (.aload_n 0, 1) := by decide +kernel
theorem dX3_init_26 : decode cX3_init 26 = .ok (.iconst 0, 1) := by decide +kernel
theorem dX3_init_27 : decode cX3_init 27 = .ok (.putfield 24, 3) := by decide +kernel
theorem dX3_init_30 : decode cX3_init 30 = .ok (.aload_n 0, 1) := by decide +kernel
theorem dX3_init_31 : decode cX3_init 31 = .ok (.iconst 0, 1) := by decide +kernel
theorem dX3_init_32 : decode cX3_init 32 = .ok (.putfield 27, 3) := by decide +kernel
theorem dX3_init_35 : decode cX3_init 35 = .ok (.return_, 1) := by decide +kernel
theorem dX3_cost_0 : decode cX3_cost 0 = .ok (.aload_n 0, 1) := by decide +kernel
theorem dX3_cost_1 : decode cX3_cost 1 = .ok (.getfield 18, 3) := by decide +kernel
theorem dX3_cost_4 : decode cX3_cost 4 = .ok (.aload_n 0, 1) := by decide +kernel
theorem dX3_cost_5 : decode cX3_cost 5 = .ok (.getfield 21, 3) := by decide +kernel
theorem dX3_cost_8 : decode cX3_cost 8 = .ok (.iadd, 1) := by decide +kernel
theorem dX3_cost_9 : decode cX3_cost 9 = .ok (.ireturn, 1) := by decide +kernel
theorem dX3_moveGap_0 : decode cX3_moveGap 0 = .ok (.iload_n 1, 1) := by decide +kernel
theorem dX3_moveGap_1 : decode cX3_moveGap 1 = .ok (.aload_n 0, 1) := by decide +kernel
theorem dX3_moveGap_2 : decode cX3_moveGap 2 = .ok (.getfield 15, 3) := by decide +kernel
theorem dX3_moveGap_5 : decode cX3_moveGap 5 = .ok (.isub, 1) := by decide +kernel
theorem dX3_moveGap_6 : decode cX3_moveGap 6 = .ok (.invokestatic 30, 3) := by decide +kernel
theorem dX3_moveGap_9 : decode cX3_moveGap 9 = .ok (.istore_n 2, 1) := by decide +kernel
theorem dX3_moveGap_10 : decode cX3_moveGap 10 = .ok (.aload_n 0, 1) := by decide +kernel
theorem dX3_moveGap_11 : decode cX3_moveGap 11 = .ok (.iload_n 1, 1) := by decide +kernel
theorem dX3_moveGap_12 : decode cX3_moveGap 12 = .ok (.putfield 15, 3) := by decide +kernel
theorem dX3_moveGap_15 : decode cX3_moveGap 15 = .ok (.aload_n 0, 1) := by decide +kernel
theorem dX3_moveGap_16 : decode cX3_moveGap 16 = .ok (.dup, 1) := by decide +kernel
theorem dX3_moveGap_17 : decode cX3_moveGap 17 = .ok (.getfield 18, 3) := by decide +kernel
theorem dX3_moveGap_20 : decode cX3_moveGap 20 = .ok (.iload_n 2, 1) := by decide +kernel
theorem dX3_moveGap_21 : decode cX3_moveGap 21 = .ok (.iadd, 1) := by decide +kernel
theorem dX3_moveGap_22 : decode cX3_moveGap 22 = .ok (.putfield 18, 3) := by decide +kernel
theorem dX3_moveGap_25 : decode cX3_moveGap 25 = .ok (.iload_n 2, 1) := by decide +kernel
theorem dX3_moveGap_26 : decode cX3_moveGap 26 = .ok (.ireturn, 1) := by decide +kernel
theorem dX3_insertAt_0 : decode cX3_insertAt 0 = .ok (.aload_n 0, 1) := by decide +kernel
theorem dX3_insertAt_1 : decode cX3_insertAt 1 = .ok (.iload_n 1, 1) := by decide +kernel
theorem dX3_insertAt_2 : decode cX3_insertAt 2 = .ok (.invokevirtual 36, 3) := by decide +kernel
theorem dX3_insertAt_5 : decode cX3_insertAt 5 = .ok (.pop, 1) := by decide +kernel
theorem dX3_insertAt_6 : decode cX3_insertAt 6 = .ok (.iconst 0, 1) := by decide +kernel
theorem dX3_insertAt_7 : decode cX3_insertAt 7 = .ok (.istore 4, 2) := by decide +kernel
theorem dX3_insertAt_9 : decode cX3_insertAt 9 = .ok (.iload 4, 2) := by decide +kernel
theorem dX3_insertAt_11 : decode cX3_insertAt 11 = .ok (.iconst 5, 1) := by decide +kernel
theorem dX3_insertAt_12 : decode cX3_insertAt 12 = .ok (.if_icmp .ge 49, 3) := by decide +kernel
theorem dX3_insertAt_15 : decode cX3_insertAt 15 = .ok (.aload_n 0, 1) := by decide +kernel
theorem dX3_insertAt_16 : decode cX3_insertAt 16 = .ok (.getfield 9, 3) := by decide +kernel
theorem dX3_insertAt_19 : decode cX3_insertAt 19 = .ok (.iload_n 3, 1) := by decide +kernel
theorem dX3_insertAt_20 : decode cX3_insertAt 20 = .ok (.isub, 1) := by decide +kernel
theorem dX3_insertAt_21 : decode cX3_insertAt 21 = .ok (.iload_n 2, 1) := by decide +kernel
theorem dX3_insertAt_22 : decode cX3_insertAt 22 = .ok (.if_icmp .ge 39, 3) := by decide +kernel
theorem dX3_insertAt_25 : decode cX3_insertAt 25 = .ok (.aload_n 0, 1) := by decide +kernel
theorem dX3_insertAt_26 : decode cX3_insertAt 26 = .ok (.dup, 1) := by decide +kernel
theorem dX3_insertAt_27 : decode cX3_insertAt 27 = .ok (.getfield 9, 3) := by decide +kernel
theorem dX3_insertAt_30 : decode cX3_insertAt 30 = .ok (.iconst 2, 1) := by decide +kernel
theorem dX3_insertAt_31 : decode cX3_insertAt 31 = .ok (.imul, 1) := by decide +kernel
theorem dX3_insertAt_32 : decode cX3_insertAt 32 = .ok (.putfield 9, 3) := by decide +kernel
theorem dX3_insertAt_35 : decode cX3_insertAt 35 = .ok (.aload_n 0, 1) := by decide +kernel
theorem dX3_insertAt_36 : decode cX3_insertAt 36 = .ok (.dup, 1) := by decide +kernel
theorem dX3_insertAt_37 : decode cX3_insertAt 37 = .ok (.getfield 21, 3) := by decide +kernel
theorem dX3_insertAt_40 : decode cX3_insertAt 40 = .ok (.iload_n 3, 1) := by decide +kernel
theorem dX3_insertAt_41 : decode cX3_insertAt 41 = .ok (.iadd, 1) := by decide +kernel
theorem dX3_insertAt_42 : decode cX3_insertAt 42 = .ok (.putfield 21, 3) := by decide +kernel
theorem dX3_insertAt_45 : decode cX3_insertAt 45 = .ok (.aload_n 0, 1) := by decide +kernel
theorem dX3_insertAt_46 : decode cX3_insertAt 46 = .ok (.dup, 1) := by decide +kernel
theorem dX3_insertAt_47 : decode cX3_insertAt 47 = .ok (.getfield 24, 3) := by decide +kernel
theorem dX3_insertAt_50 : decode cX3_insertAt 50 = .ok (.iconst 1, 1) := by decide +kernel
theorem dX3_insertAt_51 : decode cX3_insertAt 51 = .ok (.iadd, 1) := by decide +kernel
theorem dX3_insertAt_52 : decode cX3_insertAt 52 = .ok (.putfield 24, 3) := by decide +kernel
theorem dX3_insertAt_55 : decode cX3_insertAt 55 = .ok (.iinc 4 1, 3) := by decide +kernel
theorem dX3_insertAt_58 : decode cX3_insertAt 58 = .ok (.goto (-49), 3) := by decide +kernel
theorem dX3_insertAt_61 : decode cX3_insertAt 61 = .ok (.aload_n 0, 1) := by decide +kernel
theorem dX3_insertAt_62 : decode cX3_insertAt 62 = .ok (.dup, 1) := by decide +kernel
theorem dX3_insertAt_63 : decode cX3_insertAt 63 = .ok (.getfield 15, 3) := by decide +kernel
theorem dX3_insertAt_66 : decode cX3_insertAt 66 = .ok (.iload_n 2, 1) := by decide +kernel
theorem dX3_insertAt_67 : decode cX3_insertAt 67 = .ok (.iadd, 1) := by decide +kernel
theorem dX3_insertAt_68 : decode cX3_insertAt 68 = .ok (.putfield 15, 3) := by decide +kernel
theorem dX3_insertAt_71 : decode cX3_insertAt 71 = .ok (.return_, 1) := by decide +kernel
theorem dX3_deleteAt_0 : decode cX3_deleteAt 0 = .ok (.aload_n 0, 1) := by decide +kernel
theorem dX3_deleteAt_1 : decode cX3_deleteAt 1 = .ok (.iload_n 1, 1) := by decide +kernel
theorem dX3_deleteAt_2 : decode cX3_deleteAt 2 = .ok (.invokevirtual 36, 3) := by decide +kernel
theorem dX3_deleteAt_5 : decode cX3_deleteAt 5 = .ok (.pop, 1) := by decide +kernel
theorem dX3_deleteAt_6 : decode cX3_deleteAt 6 = .ok (.aload_n 0, 1) := by decide +kernel
theorem dX3_deleteAt_7 : decode cX3_deleteAt 7 = .ok (.iload_n 2, 1) := by decide +kernel
theorem dX3_deleteAt_8 : decode cX3_deleteAt 8 = .ok (.putfield 15, 3) := by decide +kernel
theorem dX3_deleteAt_11 : decode cX3_deleteAt 11 = .ok (.iconst 0, 1) := by decide +kernel
theorem dX3_deleteAt_12 : decode cX3_deleteAt 12 = .ok (.istore 4, 2) := by decide +kernel
theorem dX3_deleteAt_14 : decode cX3_deleteAt 14 = .ok (.iload 4, 2) := by decide +kernel
theorem dX3_deleteAt_16 : decode cX3_deleteAt 16 = .ok (.iconst 5, 1) := by decide +kernel
theorem dX3_deleteAt_17 : decode cX3_deleteAt 17 = .ok (.if_icmp .ge 47, 3) := by decide +kernel
theorem dX3_deleteAt_20 : decode cX3_deleteAt 20 = .ok (.aload_n 0, 1) := by decide +kernel
theorem dX3_deleteAt_21 : decode cX3_deleteAt 21 = .ok (.iload_n 3, 1) := by decide +kernel
theorem dX3_deleteAt_22 : decode cX3_deleteAt 22 = .ok (.invokevirtual 39, 3) := by decide +kernel
theorem dX3_deleteAt_25 : decode cX3_deleteAt 25 = .ok (.ifCond .eq 39, 3) := by decide +kernel
theorem dX3_deleteAt_28 : decode cX3_deleteAt 28 = .ok (.aload_n 0, 1) := by decide +kernel
theorem dX3_deleteAt_29 : decode cX3_deleteAt 29 = .ok (.dup, 1) := by decide +kernel
theorem dX3_deleteAt_30 : decode cX3_deleteAt 30 = .ok (.getfield 9, 3) := by decide +kernel
theorem dX3_deleteAt_33 : decode cX3_deleteAt 33 = .ok (.iconst 2, 1) := by decide +kernel
theorem dX3_deleteAt_34 : decode cX3_deleteAt 34 = .ok (.idiv, 1) := by decide +kernel
theorem dX3_deleteAt_35 : decode cX3_deleteAt 35 = .ok (.putfield 9, 3) := by decide +kernel
theorem dX3_deleteAt_38 : decode cX3_deleteAt 38 = .ok (.aload_n 0, 1) := by decide +kernel
theorem dX3_deleteAt_39 : decode cX3_deleteAt 39 = .ok (.dup, 1) := by decide +kernel
theorem dX3_deleteAt_40 : decode cX3_deleteAt 40 = .ok (.getfield 21, 3) := by decide +kernel
theorem dX3_deleteAt_43 : decode cX3_deleteAt 43 = .ok (.iload_n 3, 1) := by decide +kernel
theorem dX3_deleteAt_44 : decode cX3_deleteAt 44 = .ok (.iadd, 1) := by decide +kernel
theorem dX3_deleteAt_45 : decode cX3_deleteAt 45 = .ok (.putfield 21, 3) := by decide +kernel
theorem dX3_deleteAt_48 : decode cX3_deleteAt 48 = .ok (.aload_n 0, 1) := by decide +kernel
theorem dX3_deleteAt_49 : decode cX3_deleteAt 49 = .ok (.dup, 1) := by decide +kernel
theorem dX3_deleteAt_50 : decode cX3_deleteAt 50 = .ok (.getfield 27, 3) := by decide +kernel
theorem dX3_deleteAt_53 : decode cX3_deleteAt 53 = .ok (.iconst 1, 1) := by decide +kernel
theorem dX3_deleteAt_54 : decode cX3_deleteAt 54 = .ok (.iadd, 1) := by decide +kernel
theorem dX3_deleteAt_55 : decode cX3_deleteAt 55 = .ok (.putfield 27, 3) := by decide +kernel
theorem dX3_deleteAt_58 : decode cX3_deleteAt 58 = .ok (.iinc 4 1, 3) := by decide +kernel
theorem dX3_deleteAt_61 : decode cX3_deleteAt 61 = .ok (.goto (-47), 3) := by decide +kernel
theorem dX3_deleteAt_64 : decode cX3_deleteAt 64 = .ok (.return_, 1) := by decide +kernel
theorem dX3_isTooLarge_0 : decode cX3_isTooLarge 0 = .ok (.aload_n 0, 1) := by decide +kernel
theorem dX3_isTooLarge_1 : decode cX3_isTooLarge 1 = .ok (.getfield 9, 3) := by decide +kernel
theorem dX3_isTooLarge_4 : decode cX3_isTooLarge 4 = .ok (.bipush 8, 2) := by decide +kernel
theorem dX3_isTooLarge_6 : decode cX3_isTooLarge 6 = .ok (.if_icmp .le 17, 3) := by decide +kernel
theorem dX3_isTooLarge_9 : decode cX3_isTooLarge 9 = .ok (.iload_n 1, 1) := by decide +kernel
theorem dX3_isTooLarge_10 : decode cX3_isTooLarge 10 = .ok (.aload_n 0, 1) := by decide +kernel
theorem dX3_isTooLarge_11 : decode cX3_isTooLarge 11 = .ok (.getfield 9, 3) := by decide +kernel
theorem dX3_isTooLarge_14 : decode cX3_isTooLarge 14 = .ok (.iconst 4, 1) := by decide +kernel
theorem dX3_isTooLarge_15 : decode cX3_isTooLarge 15 = .ok (.idiv, 1) := by decide +kernel
theorem dX3_isTooLarge_16 : decode cX3_isTooLarge 16 = .ok (.if_icmp .gt 7, 3) := by decide +kernel
theorem dX3_isTooLarge_19 : decode cX3_isTooLarge 19 = .ok (.iconst 1, 1) := by decide +kernel
theorem dX3_isTooLarge_20 : decode cX3_isTooLarge 20 = .ok (.goto 4, 3) := by decide +kernel
theorem dX3_isTooLarge_23 : decode cX3_isTooLarge 23 = .ok (.iconst 0, 1) := by decide +kernel
theorem dX3_isTooLarge_24 : decode cX3_isTooLarge 24 = .ok (.ireturn, 1) := by decide +kernel
theorem dX3_assign_0 : decode cX3_assign 0 = .ok (.aload_n 0, 1) := by decide +kernel
theorem dX3_assign_1 : decode cX3_assign 1 = .ok (.aload_n 1, 1) := by decide +kernel
theorem dX3_assign_2 : decode cX3_assign 2 = .ok (.getfield 9, 3) := by decide +kernel
theorem dX3_assign_5 : decode cX3_assign 5 = .ok (.putfield 9, 3) := by decide +kernel
theorem dX3_assign_8 : decode cX3_assign 8 = .ok (.aload_n 0, 1) := by decide +kernel
theorem dX3_assign_9 : decode cX3_assign 9 = .ok (.aload_n 1, 1) := by decide +kernel
theorem dX3_assign_10 : decode cX3_assign 10 = .ok (.getfield 15, 3) := by decide +kernel
theorem dX3_assign_13 : decode cX3_assign 13 = .ok (.putfield 15, 3) := by decide +kernel
theorem dX3_assign_16 : decode cX3_assign 16 = .ok (.aload_n 0, 1) := by decide +kernel
theorem dX3_assign_17 : decode cX3_assign 17 = .ok (.aload_n 1, 1) := by decide +kernel
theorem dX3_assign_18 : decode cX3_assign 18 = .ok (.getfield 18, 3) := by decide +kernel
theorem dX3_assign_21 : decode cX3_assign 21 = .ok (.putfield 18, 3) := by decide +kernel
theorem dX3_assign_24 : decode cX3_assign 24 = .ok (.aload_n 0, 1) := by decide +kernel
theorem dX3_assign_25 : decode cX3_assign 25 = .ok (.aload_n 1, 1) := by decide +kernel
theorem dX3_assign_26 : decode cX3_assign 26 = .ok (.getfield 21, 3) := by decide +kernel
theorem dX3_assign_29 : decode cX3_assign 29 = .ok (.putfield 21, 3) := by decide +kernel
theorem dX3_assign_32 : decode cX3_assign 32 = .ok (.aload_n 0, 1) := by decide +kernel
theorem dX3_assign_33 : decode cX3_assign 33 = .ok (.aload_n 1, 1) := by decide +kernel
theorem dX3_assign_34 : decode cX3_assign 34 = .ok (.getfield 24, 3) := by decide +kernel
theorem dX3_assign_37 : decode cX3_assign 37 = .ok (.putfield 24, 3) := by decide +kernel
theorem dX3_assign_40 : decode cX3_assign 40 = .ok (.aload_n 0, 1) := by decide +kernel
theorem dX3_assign_41 : decode cX3_assign 41 = .ok (.aload_n 1, 1) := by decide +kernel
theorem dX3_assign_42 : decode cX3_assign 42 = .ok (.getfield 27, 3) := by decide +kernel
theorem dX3_assign_45 : decode cX3_assign 45 = .ok (.putfield 27, 3) := by decide +kernel
theorem dX3_assign_48 : decode cX3_assign 48 = .ok (.return_, 1) := by decide +kernel
theorem dX4_init_0 : decode cX4_init 0 = .ok (.aload_n 0, 1) := by decide +kernel
theorem dX4_init_1 : decode cX4_init 1 = .ok (.invokespecial 3, 3) := by decide +kernel
theorem dX4_init_4 : decode cX4_init 4 = .ok (.aload_n 0, 1) := by decide +kernel
theorem dX4_init_5 : decode cX4_init 5 = .ok (.iconst 4, 1) := by decide +kernel
theorem dX4_init_6 : decode cX4_init 6 = .ok (.newarray .int, 2) := by decide +kernel
theorem dX4_init_8 : decode cX4_init 8 = .ok (.putfield 9, 3) := by decide +kernel
theorem dX4_init_11 : decode cX4_init 11 = .ok (.aload_n 0, 1) := by decide +kernel
theorem dX4_init_12 : decode cX4_init 12 = .ok (.iconst 4, 1) := by decide +kernel
theorem dX4_init_13 : decode cX4_init 13 = .ok (.newarray .int, 2) := by decide +kernel
theorem dX4_init_15 : decode cX4_init 15 = .ok (.putfield 15, 3) := by decide +kernel
theorem dX4_init_18 : decode cX4_init 18 = .ok (.iconst 0, 1) := by decide +kernel
theorem dX4_init_19 : decode cX4_init 19 = .ok (.istore_n 1, 1) := by decide +kernel
theorem dX4_init_20 : decode cX4_init 20 = .ok (.iload_n 1, 1) := by decide +kernel
theorem dX4_init_21 : decode cX4_init 21 = .ok (.iconst 4, 1) := by decide +kernel
theorem dX4_init_22 : decode cX4_init 22 = .ok (.if_icmp .ge 16, 3) := by decide +kernel
theorem dX4_init_25 : decode cX4_init 25 = .ok (.aload_n 0, 1) := by decide +kernel
theorem dX4_init_26 : decode cX4_init 26 = .ok (.getfield 9, 3) := by decide +kernel
theorem dX4_init_29 : decode cX4_init 29 = .ok (.iload_n 1, 1) := by decide +kernel
theorem dX4_init_30 : decode cX4_init 30 = .ok (.iconst (-1), 1) := by decide +kernel
theorem dX4_init_31 : decode cX4_init 31 = .ok (.iastore, 1) := by decide +kernel
theorem dX4_init_32 : decode cX4_init 32 = .ok (.iinc 1 1, 3) := by decide +kernel
theorem dX4_init_35 : decode cX4_init 35 = .ok (.goto (-15), 3) := by decide +kernel
theorem dX4_init_38 : decode cX4_init 38 = .ok (.return_, 1) := by decide +kernel
theorem dX4_positionOf_0 : decode cX4_positionOf 0 = .ok (.iload_n 1, 1) := by decide +kernel
theorem dX4_positionOf_1 : decode cX4_positionOf 1 = .ok (.invokestatic 18, 3) := by decide +kernel
theorem dX4_positionOf_4 : decode cX4_positionOf 4 = .ok (.ifCond .eq 12, 3) := by decide +kernel
theorem dX4_positionOf_7 : decode cX4_positionOf 7 = .ok (.aload_n 0, 1) := by decide +kernel
theorem dX4_positionOf_8 : decode cX4_positionOf 8 = .ok (.getfield 9, 3) := by decide +kernel
theorem dX4_positionOf_11 : decode cX4_positionOf 11 = .ok (.iload_n 1, 1) := by decide +kernel
theorem dX4_positionOf_12 : decode cX4_positionOf 12 = .ok (.iaload, 1) := by decide +kernel
theorem dX4_positionOf_13 : decode cX4_positionOf 13 = .ok (.goto 4, 3) := by decide +kernel
theorem dX4_positionOf_16 : decode cX4_positionOf 16 = .ok (.iconst (-1), 1) := by decide +kernel
theorem dX4_positionOf_17 : decode cX4_positionOf 17 = .ok (.ireturn, 1) := by decide +kernel
theorem dX4_place_0 : decode cX4_place 0 = .ok (.iload_n 1, 1) := by decide +kernel
theorem dX4_place_1 : decode cX4_place 1 = .ok (.invokestatic 18, 3) := by decide +kernel
theorem dX4_place_4 : decode cX4_place 4 = .ok (.ifCond .eq 17, 3) := by decide +kernel
theorem dX4_place_7 : decode cX4_place 7 = .ok (.aload_n 0, 1) := by decide +kernel
theorem dX4_place_8 : decode cX4_place 8 = .ok (.getfield 9, 3) := by decide +kernel
theorem dX4_place_11 : decode cX4_place 11 = .ok (.iload_n 1, 1) := by decide +kernel
theorem dX4_place_12 : decode cX4_place 12 = .ok (.iload_n 2, 1) := by decide +kernel
theorem dX4_place_13 : decode cX4_place 13 = .ok (.iastore, 1) := by decide +kernel
theorem dX4_place_14 : decode cX4_place 14 = .ok (.aload_n 0, 1) := by decide +kernel
theorem dX4_place_15 : decode cX4_place 15 = .ok (.getfield 15, 3) := by decide +kernel
theorem dX4_place_18 : decode cX4_place 18 = .ok (.iload_n 1, 1) := by decide +kernel
theorem dX4_place_19 : decode cX4_place 19 = .ok (.iload_n 3, 1) := by decide +kernel
theorem dX4_place_20 : decode cX4_place 20 = .ok (.iastore, 1) := by decide +kernel
theorem dX4_place_21 : decode cX4_place 21 = .ok (.return_, 1) := by decide +kernel
theorem dX4_shiftForInsertion_0 : decode cX4_shiftForInsertion 0 = .ok (.iconst 0, 1) := by decide +kernel
theorem dX4_shiftForInsertion_1 : decode cX4_shiftForInsertion 1 = .ok (.istore_n 3, 1) := by decide +kernel
theorem dX4_shiftForInsertion_2 : decode cX4_shiftForInsertion 2 = .ok (.iload_n 3, 1) := by decide +kernel
theorem dX4_shiftForInsertion_3 : decode cX4_shiftForInsertion 3 = .ok (.iconst 4, 1) := by decide +kernel
theorem dX4_shiftForInsertion_4 : decode cX4_shiftForInsertion 4 = .ok (.if_icmp .ge 61, 3) := by decide +kernel
theorem dX4_shiftForInsertion_7 : decode cX4_shiftForInsertion 7 = .ok (.aload_n 0, 1) := by decide +kernel
theorem dX4_shiftForInsertion_8 : decode cX4_shiftForInsertion 8 = .ok (.getfield 9, 3) := by decide +kernel
theorem dX4_shiftForInsertion_11 : decode cX4_shiftForInsertion 11 = .ok (.iload_n 3, 1) := by decide +kernel
theorem dX4_shiftForInsertion_12 : decode cX4_shiftForInsertion 12 = .ok (.iaload, 1) := by decide +kernel
theorem dX4_shiftForInsertion_13 : decode cX4_shiftForInsertion 13 = .ok (.iload_n 1, 1) := by decide +kernel
theorem dX4_shiftForInsertion_14 : decode cX4_shiftForInsertion 14 = .ok (.if_icmp .ne 17, 3) := by decide +kernel
theorem dX4_shiftForInsertion_17 : decode cX4_shiftForInsertion 17 = .ok (.aload_n 0, 1) := by decide +kernel
theorem dX4_shiftForInsertion_18 : decode cX4_shiftForInsertion 18 = .ok (.getfield 15, 3) := by decide +kernel
theorem dX4_shiftForInsertion_21 : decode cX4_shiftForInsertion 21 = .ok (.iload_n 3, 1) := by decide +kernel
theorem dX4_shiftForInsertion_22 : decode cX4_shiftForInsertion 22 = .ok (.iaload, 1) := by decide +kernel
theorem dX4_shiftForInsertion_23 : decode cX4_shiftForInsertion 23 = .ok (.iconst 1, 1) := by decide +kernel
theorem dX4_shiftForInsertion_24 : decode cX4_shiftForInsertion 24 = .ok (.if_icmp .ne 7, 3) := by decide +kernel
theorem dX4_shiftForInsertion_27 : decode cX4_shiftForInsertion 27 = .ok (.iconst 1, 1) := by decide +kernel
theorem dX4_shiftForInsertion_28 : decode cX4_shiftForInsertion 28 = .ok (.goto 4, 3) := by decide +kernel
theorem dX4_shiftForInsertion_31 : decode cX4_shiftForInsertion 31 = .ok (.iconst 0, 1) := by decide +kernel
theorem dX4_shiftForInsertion_32 : decode cX4_shiftForInsertion 32 = .ok (.istore 4, 2) := by decide +kernel
theorem dX4_shiftForInsertion_34 : decode cX4_shiftForInsertion 34 = .ok (.aload_n 0, 1) := by decide +kernel
theorem dX4_shiftForInsertion_35 : decode cX4_shiftForInsertion 35 = .ok (.getfield 9, 3) := by decide +kernel
theorem dX4_shiftForInsertion_38 : decode cX4_shiftForInsertion 38 = .ok (.iload_n 3, 1) := by decide +kernel
theorem dX4_shiftForInsertion_39 : decode cX4_shiftForInsertion 39 = .ok (.iaload, 1) := by decide +kernel
theorem dX4_shiftForInsertion_40 : decode cX4_shiftForInsertion 40 = .ok (.iload_n 1, 1) := by decide +kernel
theorem dX4_shiftForInsertion_41 : decode cX4_shiftForInsertion 41 = .ok (.if_icmp .gt 8, 3) := by decide +kernel
theorem dX4_shiftForInsertion_44 : decode cX4_shiftForInsertion 44 = .ok (.iload 4, 2) := by decide +kernel
theorem dX4_shiftForInsertion_46 : decode cX4_shiftForInsertion 46 = .ok (.ifCond .eq 13, 3) := by decide +kernel
theorem dX4_shiftForInsertion_49 : decode cX4_shiftForInsertion 49 = .ok (.aload_n 0, 1) := by decide +kernel
theorem dX4_shiftForInsertion_50 : decode cX4_shiftForInsertion 50 = .ok (.getfield 9, 3) := by decide +kernel
theorem dX4_shiftForInsertion_53 : decode cX4_shiftForInsertion 53 = .ok (.iload_n 3, 1) := by decide +kernel
theorem dX4_shiftForInsertion_54 : decode cX4_shiftForInsertion 54 = .ok (.dup2, 1) := by decide +kernel
theorem dX4_shiftForInsertion_55 : decode cX4_shiftForInsertion 55 = .ok (.iaload, 1) := by decide +kernel
theorem dX4_shiftForInsertion_56 : decode cX4_shiftForInsertion 56 = .ok (.iload_n 2, 1) := by decide +kernel
theorem dX4_shiftForInsertion_57 : decode cX4_shiftForInsertion 57 = .ok (.iadd, 1) := by decide +kernel
theorem dX4_shiftForInsertion_58 : decode cX4_shiftForInsertion 58 = .ok (.iastore, 1) := by decide +kernel
theorem dX4_shiftForInsertion_59 : decode cX4_shiftForInsertion 59 = .ok (.iinc 3 1, 3) := by decide +kernel
theorem dX4_shiftForInsertion_62 : decode cX4_shiftForInsertion 62 = .ok (.goto (-60), 3) := by decide +kernel
theorem dX4_shiftForInsertion_65 : decode cX4_shiftForInsertion 65 = .ok (.return_, 1) := by decide +kernel
theorem dX4_shiftForDeletion_0 : decode cX4_shiftForDeletion 0 = .ok (.iconst 0, 1) := by decide +kernel
theorem dX4_shiftForDeletion_1 : decode cX4_shiftForDeletion 1 = .ok (.istore_n 3, 1) := by decide +kernel
theorem dX4_shiftForDeletion_2 : decode cX4_shiftForDeletion 2 = .ok (.iload_n 3, 1) := by decide +kernel
theorem dX4_shiftForDeletion_3 : decode cX4_shiftForDeletion 3 = .ok (.iconst 4, 1) := by decide +kernel
theorem dX4_shiftForDeletion_4 : decode cX4_shiftForDeletion 4 = .ok (.if_icmp .ge 37, 3) := by decide +kernel
theorem dX4_shiftForDeletion_7 : decode cX4_shiftForDeletion 7 = .ok (.aload_n 0, 1) := by decide +kernel
theorem dX4_shiftForDeletion_8 : decode cX4_shiftForDeletion 8 = .ok (.getfield 9, 3) := by decide +kernel
theorem dX4_shiftForDeletion_11 : decode cX4_shiftForDeletion 11 = .ok (.iload_n 3, 1) := by decide +kernel
theorem dX4_shiftForDeletion_12 : decode cX4_shiftForDeletion 12 = .ok (.iaload, 1) := by decide +kernel
theorem dX4_shiftForDeletion_13 : decode cX4_shiftForDeletion 13 = .ok (.iload_n 1, 1) := by decide +kernel
theorem dX4_shiftForDeletion_14 : decode cX4_shiftForDeletion 14 = .ok (.if_icmp .le 21, 3) := by decide +kernel
theorem dX4_shiftForDeletion_17 : decode cX4_shiftForDeletion 17 = .ok (.aload_n 0, 1) := by decide +kernel
theorem dX4_shiftForDeletion_18 : decode cX4_shiftForDeletion 18 = .ok (.getfield 9, 3) := by decide +kernel
theorem dX4_shiftForDeletion_21 : decode cX4_shiftForDeletion 21 = .ok (.iload_n 3, 1) := by decide +kernel
theorem dX4_shiftForDeletion_22 : decode cX4_shiftForDeletion 22 = .ok (.iload_n 1, 1) := by decide +kernel
theorem dX4_shiftForDeletion_23 : decode cX4_shiftForDeletion 23 = .ok (.aload_n 0, 1) := by decide +kernel
theorem dX4_shiftForDeletion_24 : decode cX4_shiftForDeletion 24 = .ok (.getfield 9, 3) := by decide +kernel
theorem dX4_shiftForDeletion_27 : decode cX4_shiftForDeletion 27 = .ok (.iload_n 3, 1) := by decide +kernel
theorem dX4_shiftForDeletion_28 : decode cX4_shiftForDeletion 28 = .ok (.iaload, 1) := by decide +kernel
theorem dX4_shiftForDeletion_29 : decode cX4_shiftForDeletion 29 = .ok (.iload_n 2, 1) := by decide +kernel
theorem dX4_shiftForDeletion_30 : decode cX4_shiftForDeletion 30 = .ok (.isub, 1) := by decide +kernel
theorem dX4_shiftForDeletion_31 : decode cX4_shiftForDeletion 31 = .ok (.invokestatic 22, 3) := by decide +kernel
theorem dX4_shiftForDeletion_34 : decode cX4_shiftForDeletion 34 = .ok (.iastore, 1) := by decide +kernel
theorem dX4_shiftForDeletion_35 : decode cX4_shiftForDeletion 35 = .ok (.iinc 3 1, 3) := by decide +kernel
theorem dX4_shiftForDeletion_38 : decode cX4_shiftForDeletion 38 = .ok (.goto (-36), 3) := by decide +kernel
theorem dX4_shiftForDeletion_41 : decode cX4_shiftForDeletion 41 = .ok (.return_, 1) := by decide +kernel
theorem dX4_assign_0 : decode cX4_assign 0 = .ok (.iconst 0, 1) := by decide +kernel
theorem dX4_assign_1 : decode cX4_assign 1 = .ok (.istore_n 2, 1) := by decide +kernel
theorem dX4_assign_2 : decode cX4_assign 2 = .ok (.iload_n 2, 1) := by decide +kernel
theorem dX4_assign_3 : decode cX4_assign 3 = .ok (.iconst 4, 1) := by decide +kernel
theorem dX4_assign_4 : decode cX4_assign 4 = .ok (.if_icmp .ge 26, 3) := by decide +kernel
theorem dX4_assign_7 : decode cX4_assign 7 = .ok (.aload_n 0, 1) := by decide +kernel
theorem dX4_assign_8 : decode cX4_assign 8 = .ok (.iload_n 2, 1) := by decide +kernel
theorem dX4_assign_9 : decode cX4_assign 9 = .ok (.aload_n 1, 1) := by decide +kernel
theorem dX4_assign_10 : decode cX4_assign 10 = .ok (.getfield 9, 3) := by decide +kernel
theorem dX4_assign_13 : decode cX4_assign 13 = .ok (.iload_n 2, 1) := by decide +kernel
theorem dX4_assign_14 : decode cX4_assign 14 = .ok (.iaload, 1) := by decide +kernel
theorem dX4_assign_15 : decode cX4_assign 15 = .ok (.aload_n 1, 1) := by decide +kernel
theorem dX4_assign_16 : decode cX4_assign 16 = .ok (.getfield 15, 3) := by decide +kernel
theorem dX4_assign_19 : decode cX4_assign 19 = .ok (.iload_n 2, 1) := by decide +kernel
theorem dX4_assign_20 : decode cX4_assign 20 = .ok (.iaload, 1) := by decide +kernel
theorem dX4_assign_21 : decode cX4_assign 21 = .ok (.invokevirtual 28, 3) := by decide +kernel
theorem dX4_assign_24 : decode cX4_assign 24 = .ok (.iinc 2 1, 3) := by decide +kernel
theorem dX4_assign_27 : decode cX4_assign 27 = .ok (.goto (-25), 3) := by decide +kernel
theorem dX4_assign_30 : decode cX4_assign 30 = .ok (.return_, 1) := by decide +kernel
theorem dX5_init_0 : decode cX5_init 0 = .ok (.aload_n 0, 1) := by decide +kernel
theorem dX5_init_1 : decode cX5_init 1 = .ok (.invokespecial 3, 3) := by decide +kernel
theorem dX5_init_4 : decode cX5_init 4 = .ok (.aload_n 0, 1) := by decide +kernel
theorem dX5_init_5 : decode cX5_init 5 = .ok (.iconst (-1), 1) := by decide +kernel
theorem dX5_init_6 : decode cX5_init 6 = .ok (.putfield 9, 3) := by decide +kernel
theorem dX5_init_9 : decode cX5_init 9 = .ok (.aload_n 0, 1) := by decide +kernel
theorem dX5_init_10 : decode cX5_init 10 = .ok (.iconst 0, 1) := by decide +kernel
theorem dX5_init_11 : decode cX5_init 11 = .ok (.putfield 15, 3) := by decide +kernel
theorem dX5_init_14 : decode cX5_init 14 = .ok (.aload_n 0, 1) := by decide +kernel
theorem dX5_init_15 : decode cX5_init 15 = .ok (.iconst (-1), 1) := by decide +kernel
theorem dX5_init_16 : decode cX5_init 16 = .ok (.putfield 18, 3) := by decide +kernel
theorem dX5_init_19 : decode cX5_init 19 = .ok (.return_, 1) := by decide +kernel
theorem dX5_restart_0 : decode cX5_restart 0 = .ok (.aload_n 0, 1) := by decide +kernel
theorem dX5_restart_1 : decode cX5_restart 1 = .ok (.iconst (-1), 1) := by decide +kernel
theorem dX5_restart_2 : decode cX5_restart 2 = .ok (.putfield 9, 3) := by decide +kernel
theorem dX5_restart_5 : decode cX5_restart 5 = .ok (.aload_n 0, 1) := by decide +kernel
theorem dX5_restart_6 : decode cX5_restart 6 = .ok (.iconst 0, 1) := by decide +kernel
theorem dX5_restart_7 : decode cX5_restart 7 = .ok (.putfield 15, 3) := by decide +kernel
theorem dX5_restart_10 : decode cX5_restart 10 = .ok (.aload_n 0, 1) := by decide +kernel
theorem dX5_restart_11 : decode cX5_restart 11 = .ok (.iconst (-1), 1) := by decide +kernel
theorem dX5_restart_12 : decode cX5_restart 12 = .ok (.putfield 18, 3) := by decide +kernel
theorem dX5_restart_15 : decode cX5_restart 15 = .ok (.return_, 1) := by decide +kernel
theorem dX5_accept_0 : decode cX5_accept 0 = .ok (.aload_n 0, 1) := by decide +kernel
theorem dX5_accept_1 : decode cX5_accept 1 = .ok (.getfield 9, 3) := by decide +kernel
theorem dX5_accept_4 : decode cX5_accept 4 = .ok (.iconst (-1), 1) := by decide +kernel
theorem dX5_accept_5 : decode cX5_accept 5 = .ok (.if_icmp .ne 9, 3) := by decide +kernel
theorem dX5_accept_8 : decode cX5_accept 8 = .ok (.aload_n 0, 1) := by decide +kernel
theorem dX5_accept_9 : decode cX5_accept 9 = .ok (.iload_n 1, 1) := by decide +kernel
theorem dX5_accept_10 : decode cX5_accept 10 = .ok (.invokevirtual 21, 3) := by decide +kernel
theorem dX5_accept_13 : decode cX5_accept 13 = .ok (.ireturn, 1) := by decide +kernel
theorem dX5_accept_14 : decode cX5_accept 14 = .ok (.iload_n 1, 1) := by decide +kernel
theorem dX5_accept_15 : decode cX5_accept 15 = .ok (.bipush 59, 2) := by decide +kernel
theorem dX5_accept_17 : decode cX5_accept 17 = .ok (.if_icmp .ne 8, 3) := by decide +kernel
theorem dX5_accept_20 : decode cX5_accept 20 = .ok (.aload_n 0, 1) := by decide +kernel
theorem dX5_accept_21 : decode cX5_accept 21 = .ok (.invokevirtual 25, 3) := by decide +kernel
theorem dX5_accept_24 : decode cX5_accept 24 = .ok (.ireturn, 1) := by decide +kernel
theorem dX5_accept_25 : decode cX5_accept 25 = .ok (.aload_n 0, 1) := by decide +kernel
theorem dX5_accept_26 : decode cX5_accept 26 = .ok (.getfield 9, 3) := by decide +kernel
theorem dX5_accept_29 : decode cX5_accept 29 = .ok (.bipush 43, 2) := by decide +kernel
theorem dX5_accept_31 : decode cX5_accept 31 = .ok (.if_icmp .ne 11, 3) := by decide +kernel
theorem dX5_accept_34 : decode cX5_accept 34 = .ok (.aload_n 0, 1) := by decide +kernel
theorem dX5_accept_35 : decode cX5_accept 35 = .ok (.iload_n 1, 1) := by decide +kernel
theorem dX5_accept_36 : decode cX5_accept 36 = .ok (.invokevirtual 29, 3) := by decide +kernel
theorem dX5_accept_39 : decode cX5_accept 39 = .ok (.goto 8, 3) := by decide +kernel
theorem dX5_accept_42 : decode cX5_accept 42 = .ok (.aload_n 0, 1) := by decide +kernel
theorem dX5_accept_43 : decode cX5_accept 43 = .ok (.iload_n 1, 1) := by decide +kernel
theorem dX5_accept_44 : decode cX5_accept 44 = .ok (.invokevirtual 32, 3) := by decide +kernel
theorem dX5_accept_47 : decode cX5_accept 47 = .ok (.ireturn, 1) := by decide +kernel
theorem dX5_isAtEnd_0 : decode cX5_isAtEnd 0 = .ok (.aload_n 0, 1) := by decide +kernel
theorem dX5_isAtEnd_1 : decode cX5_isAtEnd 1 = .ok (.getfield 9, 3) := by decide +kernel
theorem dX5_isAtEnd_4 : decode cX5_isAtEnd 4 = .ok (.lookupswitch 61 #[(-1, 44), (43, 46), (110, 59), (112, 59)], 44) := by decide +kernel
theorem dX5_isAtEnd_48 : decode cX5_isAtEnd 48 = .ok (.iconst 0, 1) := by decide +kernel
theorem dX5_isAtEnd_49 : decode cX5_isAtEnd 49 = .ok (.ireturn, 1) := by decide +kernel
theorem dX5_isAtEnd_50 : decode cX5_isAtEnd 50 = .ok (.aload_n 0, 1) := by decide +kernel
theorem dX5_isAtEnd_51 : decode cX5_isAtEnd 51 = .ok (.getfield 15, 3) := by decide +kernel
theorem dX5_isAtEnd_54 : decode cX5_isAtEnd 54 = .ok (.ifCond .le 7, 3) := by decide +kernel
theorem dX5_isAtEnd_57 : decode cX5_isAtEnd 57 = .ok (.iconst 1, 1) := by decide +kernel
theorem dX5_isAtEnd_58 : decode cX5_isAtEnd 58 = .ok (.goto 4, 3) := by decide +kernel
theorem dX5_isAtEnd_61 : decode cX5_isAtEnd 61 = .ok (.iconst 0, 1) := by decide +kernel
theorem dX5_isAtEnd_62 : decode cX5_isAtEnd 62 = .ok (.ireturn, 1) := by decide +kernel
theorem dX5_isAtEnd_63 : decode cX5_isAtEnd 63 = .ok (.iconst 1, 1) := by decide +kernel
theorem dX5_isAtEnd_64 : decode cX5_isAtEnd 64 = .ok (.ireturn, 1) := by decide +kernel
theorem dX5_isAtEnd_65 : decode cX5_isAtEnd 65 = .ok (.aload_n 0, 1) := by decide +kernel
theorem dX5_isAtEnd_66 : decode cX5_isAtEnd 66 = .ok (.getfield 18, 3) := by decide +kernel
theorem dX5_isAtEnd_69 : decode cX5_isAtEnd 69 = .ok (.iconst (-1), 1) := by decide +kernel
theorem dX5_isAtEnd_70 : decode cX5_isAtEnd 70 = .ok (.if_icmp .eq 7, 3) := by decide +kernel
theorem dX5_isAtEnd_73 : decode cX5_isAtEnd 73 = .ok (.iconst 1, 1) := by decide +kernel
theorem dX5_isAtEnd_74 : decode cX5_isAtEnd 74 = .ok (.goto 4, 3) := by decide +kernel
theorem dX5_isAtEnd_77 : decode cX5_isAtEnd 77 = .ok (.iconst 0, 1) := by decide +kernel
theorem dX5_isAtEnd_78 : decode cX5_isAtEnd 78 = .ok (.ireturn, 1) := by decide +kernel
theorem dX5_acceptCommand_0 : decode cX5_acceptCommand 0 = .ok (.iload_n 1, 1) := by decide +kernel
theorem dX5_acceptCommand_1 : decode cX5_acceptCommand 1 = .ok (.lookupswitch 82 #[(43, 75), (45, 75), (60, 75), (64, 75), (109, 75), (110, 75), (112, 75), (120, 75)], 75) := by decide +kernel
theorem dX5_acceptCommand_76 : decode cX5_acceptCommand 76 = .ok (.aload_n 0, 1) := by decide +kernel
theorem dX5_acceptCommand_77 : decode cX5_acceptCommand 77 = .ok (.iload_n 1, 1) := by decide +kernel
theorem dX5_acceptCommand_78 : decode cX5_acceptCommand 78 = .ok (.putfield 9, 3) := by decide +kernel
theorem dX5_acceptCommand_81 : decode cX5_acceptCommand 81 = .ok (.iconst 1, 1) := by decide +kernel
theorem dX5_acceptCommand_82 : decode cX5_acceptCommand 82 = .ok (.ireturn, 1) := by decide +kernel
theorem dX5_acceptCommand_83 : decode cX5_acceptCommand 83 = .ok (.iconst 0, 1) := by decide +kernel
theorem dX5_acceptCommand_84 : decode cX5_acceptCommand 84 = .ok (.ireturn, 1) := by decide +kernel
theorem dX5_acceptSeparator_0 : decode cX5_acceptSeparator 0 = .ok (.aload_n 0, 1) := by decide +kernel
theorem dX5_acceptSeparator_1 : decode cX5_acceptSeparator 1 = .ok (.invokevirtual 35, 3) := by decide +kernel
theorem dX5_acceptSeparator_4 : decode cX5_acceptSeparator 4 = .ok (.ifCond .ne 5, 3) := by decide +kernel
theorem dX5_acceptSeparator_7 : decode cX5_acceptSeparator 7 = .ok (.iconst 0, 1) := by decide +kernel
theorem dX5_acceptSeparator_8 : decode cX5_acceptSeparator 8 = .ok (.ireturn, 1) := by decide +kernel
theorem dX5_acceptSeparator_9 : decode cX5_acceptSeparator 9 = .ok (.aload_n 0, 1) := by decide +kernel
theorem dX5_acceptSeparator_10 : decode cX5_acceptSeparator 10 = .ok (.invokevirtual 38, 3) := by decide +kernel
theorem dX5_acceptSeparator_13 : decode cX5_acceptSeparator 13 = .ok (.iconst 1, 1) := by decide +kernel
theorem dX5_acceptSeparator_14 : decode cX5_acceptSeparator 14 = .ok (.ireturn, 1) := by decide +kernel
theorem dX5_acceptLetter_0 : decode cX5_acceptLetter 0 = .ok (.iload_n 1, 1) := by decide +kernel
theorem dX5_acceptLetter_1 : decode cX5_acceptLetter 1 = .ok (.bipush 97, 2) := by decide +kernel
theorem dX5_acceptLetter_3 : decode cX5_acceptLetter 3 = .ok (.if_icmp .lt 18, 3) := by decide +kernel
theorem dX5_acceptLetter_6 : decode cX5_acceptLetter 6 = .ok (.iload_n 1, 1) := by decide +kernel
theorem dX5_acceptLetter_7 : decode cX5_acceptLetter 7 = .ok (.bipush 122, 2) := by decide +kernel
theorem dX5_acceptLetter_9 : decode cX5_acceptLetter 9 = .ok (.if_icmp .gt 12, 3) := by decide +kernel
theorem dX5_acceptLetter_12 : decode cX5_acceptLetter 12 = .ok (.aload_n 0, 1) := by decide +kernel
theorem dX5_acceptLetter_13 : decode cX5_acceptLetter 13 = .ok (.getfield 15, 3) := by decide +kernel
theorem dX5_acceptLetter_16 : decode cX5_acceptLetter 16 = .ok (.bipush 20, 2) := by decide +kernel
theorem dX5_acceptLetter_18 : decode cX5_acceptLetter 18 = .ok (.if_icmp .ne 5, 3) := by decide +kernel
theorem dX5_acceptLetter_21 : decode cX5_acceptLetter 21 = .ok (.iconst 0, 1) := by decide +kernel
theorem dX5_acceptLetter_22 : decode cX5_acceptLetter 22 = .ok (.ireturn, 1) := by decide +kernel
theorem dX5_acceptLetter_23 : decode cX5_acceptLetter 23 = .ok (.aload_n 0, 1) := by decide +kernel
theorem dX5_acceptLetter_24 : decode cX5_acceptLetter 24 = .ok (.dup, 1) := by decide +kernel
theorem dX5_acceptLetter_25 : decode cX5_acceptLetter 25 = .ok (.getfield 15, 3) := by decide +kernel
theorem dX5_acceptLetter_28 : decode cX5_acceptLetter 28 = .ok (.iconst 1, 1) := by decide +kernel
theorem dX5_acceptLetter_29 : decode cX5_acceptLetter 29 = .ok (.iadd, 1) := by decide +kernel
theorem dX5_acceptLetter_30 : decode cX5_acceptLetter 30 = .ok (.putfield 15, 3) := by decide +kernel
theorem dX5_acceptLetter_33 : decode cX5_acceptLetter 33 = .ok (.iconst 1, 1) := by decide +kernel
theorem dX5_acceptLetter_34 : decode cX5_acceptLetter 34 = .ok (.ireturn, 1) := by decide +kernel
theorem dX5_acceptDigit_0 : decode cX5_acceptDigit 0 = .ok (.aload_n 0, 1) := by decide +kernel
theorem dX5_acceptDigit_1 : decode cX5_acceptDigit 1 = .ok (.getfield 18, 3) := by decide +kernel
theorem dX5_acceptDigit_4 : decode cX5_acceptDigit 4 = .ok (.ifCond .ne 7, 3) := by decide +kernel
theorem dX5_acceptDigit_7 : decode cX5_acceptDigit 7 = .ok (.iconst 1, 1) := by decide +kernel
theorem dX5_acceptDigit_8 : decode cX5_acceptDigit 8 = .ok (.goto 4, 3) := by decide +kernel
theorem dX5_acceptDigit_11 : decode cX5_acceptDigit 11 = .ok (.iconst 0, 1) := by decide +kernel
theorem dX5_acceptDigit_12 : decode cX5_acceptDigit 12 = .ok (.istore_n 2, 1) := by decide +kernel
theorem dX5_acceptDigit_13 : decode cX5_acceptDigit 13 = .ok (.iload_n 1, 1) := by decide +kernel
theorem dX5_acceptDigit_14 : decode cX5_acceptDigit 14 = .ok (.bipush 48, 2) := by decide +kernel
theorem dX5_acceptDigit_16 : decode cX5_acceptDigit 16 = .ok (.if_icmp .lt 13, 3) := by decide +kernel
theorem dX5_acceptDigit_19 : decode cX5_acceptDigit 19 = .ok (.iload_n 1, 1) := by decide +kernel
theorem dX5_acceptDigit_20 : decode cX5_acceptDigit 20 = .ok (.bipush 57, 2) := by decide +kernel
theorem dX5_acceptDigit_22 : decode cX5_acceptDigit 22 = .ok (.if_icmp .gt 7, 3) := by decide +kernel
theorem dX5_acceptDigit_25 : decode cX5_acceptDigit 25 = .ok (.iload_n 2, 1) := by decide +kernel
theorem dX5_acceptDigit_26 : decode cX5_acceptDigit 26 = .ok (.ifCond .eq 5, 3) := by decide +kernel
theorem dX5_acceptDigit_29 : decode cX5_acceptDigit 29 = .ok (.iconst 0, 1) := by decide +kernel
theorem dX5_acceptDigit_30 : decode cX5_acceptDigit 30 = .ok (.ireturn, 1) := by decide +kernel
theorem dX5_acceptDigit_31 : decode cX5_acceptDigit 31 = .ok (.bipush 10, 2) := by decide +kernel
theorem dX5_acceptDigit_33 : decode cX5_acceptDigit 33 = .ok (.iconst 0, 1) := by decide +kernel
theorem dX5_acceptDigit_34 : decode cX5_acceptDigit 34 = .ok (.aload_n 0, 1) := by decide +kernel
theorem dX5_acceptDigit_35 : decode cX5_acceptDigit 35 = .ok (.getfield 18, 3) := by decide +kernel
theorem dX5_acceptDigit_38 : decode cX5_acceptDigit 38 = .ok (.invokestatic 41, 3) := by decide +kernel
theorem dX5_acceptDigit_41 : decode cX5_acceptDigit 41 = .ok (.imul, 1) := by decide +kernel
theorem dX5_acceptDigit_42 : decode cX5_acceptDigit 42 = .ok (.iload_n 1, 1) := by decide +kernel
theorem dX5_acceptDigit_43 : decode cX5_acceptDigit 43 = .ok (.iadd, 1) := by decide +kernel
theorem dX5_acceptDigit_44 : decode cX5_acceptDigit 44 = .ok (.bipush 48, 2) := by decide +kernel
theorem dX5_acceptDigit_46 : decode cX5_acceptDigit 46 = .ok (.isub, 1) := by decide +kernel
theorem dX5_acceptDigit_47 : decode cX5_acceptDigit 47 = .ok (.istore_n 3, 1) := by decide +kernel
theorem dX5_acceptDigit_48 : decode cX5_acceptDigit 48 = .ok (.iload_n 3, 1) := by decide +kernel
theorem dX5_acceptDigit_49 : decode cX5_acceptDigit 49 = .ok (.aload_n 0, 1) := by decide +kernel
theorem dX5_acceptDigit_50 : decode cX5_acceptDigit 50 = .ok (.invokevirtual 47, 3) := by decide +kernel
theorem dX5_acceptDigit_53 : decode cX5_acceptDigit 53 = .ok (.if_icmp .lt 11, 3) := by decide +kernel
theorem dX5_acceptDigit_56 : decode cX5_acceptDigit 56 = .ok (.iload_n 3, 1) := by decide +kernel
theorem dX5_acceptDigit_57 : decode cX5_acceptDigit 57 = .ok (.aload_n 0, 1) := by decide +kernel
theorem dX5_acceptDigit_58 : decode cX5_acceptDigit 58 = .ok (.invokevirtual 51, 3) := by decide +kernel
theorem dX5_acceptDigit_61 : decode cX5_acceptDigit 61 = .ok (.if_icmp .le 5, 3) := by decide +kernel
theorem dX5_acceptDigit_64 : decode cX5_acceptDigit 64 = .ok (.iconst 0, 1) := by decide +kernel
theorem dX5_acceptDigit_65 : decode cX5_acceptDigit 65 = .ok (.ireturn, 1) := by decide +kernel
theorem dX5_acceptDigit_66 : decode cX5_acceptDigit 66 = .ok (.aload_n 0, 1) := by decide +kernel
theorem dX5_acceptDigit_67 : decode cX5_acceptDigit 67 = .ok (.iload_n 3, 1) := by decide +kernel
theorem dX5_acceptDigit_68 : decode cX5_acceptDigit 68 = .ok (.putfield 18, 3) := by decide +kernel
theorem dX5_acceptDigit_71 : decode cX5_acceptDigit 71 = .ok (.iconst 1, 1) := by decide +kernel
theorem dX5_acceptDigit_72 : decode cX5_acceptDigit 72 = .ok (.ireturn, 1) := by decide +kernel
theorem dX5_leastNumber_0 : decode cX5_leastNumber 0 = .ok (.aload_n 0, 1) := by decide +kernel
theorem dX5_leastNumber_1 : decode cX5_leastNumber 1 = .ok (.getfield 9, 3) := by decide +kernel
theorem dX5_leastNumber_4 : decode cX5_leastNumber 4 = .ok (.bipush 45, 2) := by decide +kernel
theorem dX5_leastNumber_6 : decode cX5_leastNumber 6 = .ok (.if_icmp .eq 12, 3) := by decide +kernel
theorem dX5_leastNumber_9 : decode cX5_leastNumber 9 = .ok (.aload_n 0, 1) := by decide +kernel
theorem dX5_leastNumber_10 : decode cX5_leastNumber 10 = .ok (.getfield 9, 3) := by decide +kernel
theorem dX5_leastNumber_13 : decode cX5_leastNumber 13 = .ok (.bipush 60, 2) := by decide +kernel
theorem dX5_leastNumber_15 : decode cX5_leastNumber 15 = .ok (.if_icmp .ne 7, 3) := by decide +kernel
theorem dX5_leastNumber_18 : decode cX5_leastNumber 18 = .ok (.iconst 1, 1) := by decide +kernel
theorem dX5_leastNumber_19 : decode cX5_leastNumber 19 = .ok (.goto 4, 3) := by decide +kernel
theorem dX5_leastNumber_22 : decode cX5_leastNumber 22 = .ok (.iconst 0, 1) := by decide +kernel
theorem dX5_leastNumber_23 : decode cX5_leastNumber 23 = .ok (.ireturn, 1) := by decide +kernel
theorem dX5_greatestNumber_0 : decode cX5_greatestNumber 0 = .ok (.aload_n 0, 1) := by decide +kernel
theorem dX5_greatestNumber_1 : decode cX5_greatestNumber 1 = .ok (.getfield 9, 3) := by decide +kernel
theorem dX5_greatestNumber_4 : decode cX5_greatestNumber 4 = .ok (.lookupswitch 61 #[(45, 52), (60, 52), (64, 55), (109, 59), (120, 59)], 52) := by decide +kernel
theorem dX5_greatestNumber_56 : decode cX5_greatestNumber 56 = .ok (.bipush 99, 2) := by decide +kernel
theorem dX5_greatestNumber_58 : decode cX5_greatestNumber 58 = .ok (.ireturn, 1) := by decide +kernel
theorem dX5_greatestNumber_59 : decode cX5_greatestNumber 59 = .ok (.sipush 256, 3) := by decide +kernel
theorem dX5_greatestNumber_62 : decode cX5_greatestNumber 62 = .ok (.ireturn, 1) := by decide +kernel
theorem dX5_greatestNumber_63 : decode cX5_greatestNumber 63 = .ok (.iconst 3, 1) := by decide +kernel
theorem dX5_greatestNumber_64 : decode cX5_greatestNumber 64 = .ok (.ireturn, 1) := by decide +kernel
theorem dX5_greatestNumber_65 : decode cX5_greatestNumber 65 = .ok (.iconst (-1), 1) := by decide +kernel
theorem dX5_greatestNumber_66 : decode cX5_greatestNumber 66 = .ok (.ireturn, 1) := by decide +kernel
theorem dX6_init_0 : decode cX6_init 0 = .ok (.aload_n 0, 1) := by decide +kernel
theorem dX6_init_1 : decode cX6_init 1 = .ok (.invokespecial 3, 3) := by decide +kernel
theorem dX6_init_4 : decode cX6_init 4 = .ok (.aload_n 0, 1) := by decide +kernel
theorem dX6_init_5 : decode cX6_init 5 = .ok (.new 9, 3) := by decide +kernel
theorem dX6_init_8 : decode cX6_init 8 = .ok (.dup, 1) := by decide +kernel
theorem dX6_init_9 : decode cX6_init 9 = .ok (.sipush 256, 3) := by decide +kernel
theorem dX6_init_12 : decode cX6_init 12 = .ok (.invokespecial 11, 3) := by decide +kernel
theorem dX6_init_15 : decode cX6_init 15 = .ok (.putfield 14, 3) := by decide +kernel
theorem dX6_init_18 : decode cX6_init 18 = .ok (.aload_n 0, 1) := by decide +kernel
theorem dX6_init_19 : decode cX6_init 19 = .ok (.new 9, 3) := by decide +kernel
theorem dX6_init_22 : decode cX6_init 22 = .ok (.dup, 1) := by decide +kernel
theorem dX6_init_23 : decode cX6_init 23 = .ok (.bipush 60, 2) := by decide +kernel
theorem dX6_init_25 : decode cX6_init 25 = .ok (.invokespecial 11, 3) := by decide +kernel
theorem dX6_init_28 : decode cX6_init 28 = .ok (.putfield 20, 3) := by decide +kernel
theorem dX6_init_31 : decode cX6_init 31 = .ok (.aload_n 0, 1) := by decide +kernel
theorem dX6_init_32 : decode cX6_init 32 = .ok (.new 23, 3) := by decide +kernel
theorem dX6_init_35 : decode cX6_init 35 = .ok (.dup, 1) := by decide +kernel
theorem dX6_init_36 : decode cX6_init 36 = .ok (.invokespecial 25, 3) := by decide +kernel
theorem dX6_init_39 : decode cX6_init 39 = .ok (.putfield 26, 3) := by decide +kernel
theorem dX6_init_42 : decode cX6_init 42 = .ok (.aload_n 0, 1) := by decide +kernel
theorem dX6_init_43 : decode cX6_init 43 = .ok (.new 30, 3) := by decide +kernel
theorem dX6_init_46 : decode cX6_init 46 = .ok (.dup, 1) := by decide +kernel
theorem dX6_init_47 : decode cX6_init 47 = .ok (.invokespecial 32, 3) := by decide +kernel
theorem dX6_init_50 : decode cX6_init 50 = .ok (.putfield 33, 3) := by decide +kernel
theorem dX6_init_53 : decode cX6_init 53 = .ok (.aload_n 0, 1) := by decide +kernel
theorem dX6_init_54 : decode cX6_init 54 = .ok (.iconst 0, 1) := by decide +kernel
theorem dX6_init_55 : decode cX6_init 55 = .ok (.putfield 37, 3) := by decide +kernel
theorem dX6_init_58 : decode cX6_init 58 = .ok (.aload_n 0, 1) := by decide +kernel
theorem dX6_init_59 : decode cX6_init 59 = .ok (.iconst 0, 1) := by decide +kernel
theorem dX6_init_60 : decode cX6_init 60 = .ok (.putfield 41, 3) := by decide +kernel
theorem dX6_init_63 : decode cX6_init 63 = .ok (.aload_n 0, 1) := by decide +kernel
theorem dX6_init_64 : decode cX6_init 64 = .ok (.iconst 0, 1) := by decide +kernel
theorem dX6_init_65 : decode cX6_init 65 = .ok (.putfield 44, 3) := by decide +kernel
theorem dX6_init_68 : decode cX6_init 68 = .ok (.return_, 1) := by decide +kernel
theorem dX6_insertFault_0 : decode cX6_insertFault 0 = .ok (.aload_n 0, 1) := by decide +kernel
theorem dX6_insertFault_1 : decode cX6_insertFault 1 = .ok (.getfield 14, 3) := by decide +kernel
theorem dX6_insertFault_4 : decode cX6_insertFault 4 = .ok (.invokevirtual 48, 3) := by decide +kernel
theorem dX6_insertFault_7 : decode cX6_insertFault 7 = .ok (.iload_n 1, 1) := by decide +kernel
theorem dX6_insertFault_8 : decode cX6_insertFault 8 = .ok (.iadd, 1) := by decide +kernel
theorem dX6_insertFault_9 : decode cX6_insertFault 9 = .ok (.sipush 256, 3) := by decide +kernel
theorem dX6_insertFault_12 : decode cX6_insertFault 12 = .ok (.if_icmp .le 7, 3) := by decide +kernel
theorem dX6_insertFault_15 : decode cX6_insertFault 15 = .ok (.iconst 1, 1) := by decide +kernel
theorem dX6_insertFault_16 : decode cX6_insertFault 16 = .ok (.goto 4, 3) := by decide +kernel
theorem dX6_insertFault_19 : decode cX6_insertFault 19 = .ok (.iconst 0, 1) := by decide +kernel
theorem dX6_insertFault_20 : decode cX6_insertFault 20 = .ok (.ireturn, 1) := by decide +kernel
theorem dX6_pasteFault_0 : decode cX6_pasteFault 0 = .ok (.aload_n 0, 1) := by decide +kernel
theorem dX6_pasteFault_1 : decode cX6_pasteFault 1 = .ok (.getfield 20, 3) := by decide +kernel
theorem dX6_pasteFault_4 : decode cX6_pasteFault 4 = .ok (.invokevirtual 48, 3) := by decide +kernel
theorem dX6_pasteFault_7 : decode cX6_pasteFault 7 = .ok (.ifCond .ne 7, 3) := by decide +kernel
theorem dX6_pasteFault_10 : decode cX6_pasteFault 10 = .ok (.iconst 4, 1) := by decide +kernel
theorem dX6_pasteFault_11 : decode cX6_pasteFault 11 = .ok (.goto 14, 3) := by decide +kernel
theorem dX6_pasteFault_14 : decode cX6_pasteFault 14 = .ok (.aload_n 0, 1) := by decide +kernel
theorem dX6_pasteFault_15 : decode cX6_pasteFault 15 = .ok (.aload_n 0, 1) := by decide +kernel
theorem dX6_pasteFault_16 : decode cX6_pasteFault 16 = .ok (.getfield 20, 3) := by decide +kernel
theorem dX6_pasteFault_19 : decode cX6_pasteFault 19 = .ok (.invokevirtual 48, 3) := by decide +kernel
theorem dX6_pasteFault_22 : decode cX6_pasteFault 22 = .ok (.invokevirtual 52, 3) := by decide +kernel
theorem dX6_pasteFault_25 : decode cX6_pasteFault 25 = .ok (.ireturn, 1) := by decide +kernel
theorem dX6_regionFault_0 : decode cX6_regionFault 0 = .ok (.aload_n 0, 1) := by decide +kernel
theorem dX6_regionFault_1 : decode cX6_regionFault 1 = .ok (.getfield 26, 3) := by decide +kernel
theorem dX6_regionFault_4 : decode cX6_regionFault 4 = .ok (.iload_n 1, 1) := by decide +kernel
theorem dX6_regionFault_5 : decode cX6_regionFault 5 = .ok (.invokevirtual 56, 3) := by decide +kernel
theorem dX6_regionFault_8 : decode cX6_regionFault 8 = .ok (.istore_n 2, 1) := by decide +kernel
theorem dX6_regionFault_9 : decode cX6_regionFault 9 = .ok (.iload_n 2, 1) := by decide +kernel
theorem dX6_regionFault_10 : decode cX6_regionFault 10 = .ok (.iconst (-1), 1) := by decide +kernel
theorem dX6_regionFault_11 : decode cX6_regionFault 11 = .ok (.if_icmp .ne 5, 3) := by decide +kernel
theorem dX6_regionFault_14 : decode cX6_regionFault 14 = .ok (.iconst 2, 1) := by decide +kernel
theorem dX6_regionFault_15 : decode cX6_regionFault 15 = .ok (.ireturn, 1) := by decide +kernel
theorem dX6_regionFault_16 : decode cX6_regionFault 16 = .ok (.iload_n 2, 1) := by decide +kernel
theorem dX6_regionFault_17 : decode cX6_regionFault 17 = .ok (.aload_n 0, 1) := by decide +kernel
theorem dX6_regionFault_18 : decode cX6_regionFault 18 = .ok (.getfield 37, 3) := by decide +kernel
theorem dX6_regionFault_21 : decode cX6_regionFault 21 = .ok (.isub, 1) := by decide +kernel
theorem dX6_regionFault_22 : decode cX6_regionFault 22 = .ok (.invokestatic 59, 3) := by decide +kernel
theorem dX6_regionFault_25 : decode cX6_regionFault 25 = .ok (.bipush 60, 2) := by decide +kernel
theorem dX6_regionFault_27 : decode cX6_regionFault 27 = .ok (.if_icmp .le 7, 3) := by decide +kernel
theorem dX6_regionFault_30 : decode cX6_regionFault 30 = .ok (.iconst 3, 1) := by decide +kernel
theorem dX6_regionFault_31 : decode cX6_regionFault 31 = .ok (.goto 4, 3) := by decide +kernel
theorem dX6_regionFault_34 : decode cX6_regionFault 34 = .ok (.iconst 0, 1) := by decide +kernel
theorem dX6_regionFault_35 : decode cX6_regionFault 35 = .ok (.ireturn, 1) := by decide +kernel
theorem dX6_positionFault_0 : decode cX6_positionFault 0 = .ok (.iload_n 1, 1) := by decide +kernel
theorem dX6_positionFault_1 : decode cX6_positionFault 1 = .ok (.aload_n 0, 1) := by decide +kernel
theorem dX6_positionFault_2 : decode cX6_positionFault 2 = .ok (.getfield 14, 3) := by decide +kernel
theorem dX6_positionFault_5 : decode cX6_positionFault 5 = .ok (.invokevirtual 48, 3) := by decide +kernel
theorem dX6_positionFault_8 : decode cX6_positionFault 8 = .ok (.if_icmp .le 7, 3) := by decide +kernel
theorem dX6_positionFault_11 : decode cX6_positionFault 11 = .ok (.iconst 5, 1) := by decide +kernel
theorem dX6_positionFault_12 : decode cX6_positionFault 12 = .ok (.goto 4, 3) := by decide +kernel
theorem dX6_positionFault_15 : decode cX6_positionFault 15 = .ok (.iconst 0, 1) := by decide +kernel
theorem dX6_positionFault_16 : decode cX6_positionFault 16 = .ok (.ireturn, 1) := by decide +kernel
theorem dX6_insertRepeated_0 : decode cX6_insertRepeated 0 = .ok (.aload_n 0, 1) := by decide +kernel
theorem dX6_insertRepeated_1 : decode cX6_insertRepeated 1 = .ok (.iload_n 2, 1) := by decide +kernel
theorem dX6_insertRepeated_2 : decode cX6_insertRepeated 2 = .ok (.invokevirtual 64, 3) := by decide +kernel
theorem dX6_insertRepeated_5 : decode cX6_insertRepeated 5 = .ok (.istore_n 3, 1) := by decide +kernel
theorem dX6_insertRepeated_6 : decode cX6_insertRepeated 6 = .ok (.iconst 0, 1) := by decide +kernel
theorem dX6_insertRepeated_7 : decode cX6_insertRepeated 7 = .ok (.istore 4, 2) := by decide +kernel
theorem dX6_insertRepeated_9 : decode cX6_insertRepeated 9 = .ok (.iload 4, 2) := by decide +kernel
theorem dX6_insertRepeated_11 : decode cX6_insertRepeated 11 = .ok (.iload_n 2, 1) := by decide +kernel
theorem dX6_insertRepeated_12 : decode cX6_insertRepeated 12 = .ok (.if_icmp .ge 21, 3) := by decide +kernel
theorem dX6_insertRepeated_15 : decode cX6_insertRepeated 15 = .ok (.aload_n 0, 1) := by decide +kernel
theorem dX6_insertRepeated_16 : decode cX6_insertRepeated 16 = .ok (.getfield 14, 3) := by decide +kernel
theorem dX6_insertRepeated_19 : decode cX6_insertRepeated 19 = .ok (.iload_n 3, 1) := by decide +kernel
theorem dX6_insertRepeated_20 : decode cX6_insertRepeated 20 = .ok (.iload 4, 2) := by decide +kernel
theorem dX6_insertRepeated_22 : decode cX6_insertRepeated 22 = .ok (.iadd, 1) := by decide +kernel
theorem dX6_insertRepeated_23 : decode cX6_insertRepeated 23 = .ok (.iload_n 1, 1) := by decide +kernel
theorem dX6_insertRepeated_24 : decode cX6_insertRepeated 24 = .ok (.invokevirtual 67, 3) := by decide +kernel
theorem dX6_insertRepeated_27 : decode cX6_insertRepeated 27 = .ok (.iinc 4 1, 3) := by decide +kernel
theorem dX6_insertRepeated_30 : decode cX6_insertRepeated 30 = .ok (.goto (-21), 3) := by decide +kernel
theorem dX6_insertRepeated_33 : decode cX6_insertRepeated 33 = .ok (.aload_n 0, 1) := by decide +kernel
theorem dX6_insertRepeated_34 : decode cX6_insertRepeated 34 = .ok (.aload_n 0, 1) := by decide +kernel
theorem dX6_insertRepeated_35 : decode cX6_insertRepeated 35 = .ok (.invokevirtual 71, 3) := by decide +kernel
theorem dX6_insertRepeated_38 : decode cX6_insertRepeated 38 = .ok (.putfield 41, 3) := by decide +kernel
theorem dX6_insertRepeated_41 : decode cX6_insertRepeated 41 = .ok (.return_, 1) := by decide +kernel
theorem dX6_insertPart_0 : decode cX6_insertPart 0 = .ok (.aload_n 0, 1) := by decide +kernel
theorem dX6_insertPart_1 : decode cX6_insertPart 1 = .ok (.iload_n 3, 1) := by decide +kernel
theorem dX6_insertPart_2 : decode cX6_insertPart 2 = .ok (.invokevirtual 64, 3) := by decide +kernel
theorem dX6_insertPart_5 : decode cX6_insertPart 5 = .ok (.istore 4, 2) := by decide +kernel
theorem dX6_insertPart_7 : decode cX6_insertPart 7 = .ok (.iconst 0, 1) := by decide +kernel
theorem dX6_insertPart_8 : decode cX6_insertPart 8 = .ok (.istore 5, 2) := by decide +kernel
theorem dX6_insertPart_10 : decode cX6_insertPart 10 = .ok (.iload 5, 2) := by decide +kernel
theorem dX6_insertPart_12 : decode cX6_insertPart 12 = .ok (.iload_n 3, 1) := by decide +kernel
theorem dX6_insertPart_13 : decode cX6_insertPart 13 = .ok (.if_icmp .ge 29, 3) := by decide +kernel
theorem dX6_insertPart_16 : decode cX6_insertPart 16 = .ok (.aload_n 0, 1) := by decide +kernel
theorem dX6_insertPart_17 : decode cX6_insertPart 17 = .ok (.getfield 14, 3) := by decide +kernel
theorem dX6_insertPart_20 : decode cX6_insertPart 20 = .ok (.iload 4, 2) := by decide +kernel
theorem dX6_insertPart_22 : decode cX6_insertPart 22 = .ok (.iload 5, 2) := by decide +kernel
theorem dX6_insertPart_24 : decode cX6_insertPart 24 = .ok (.iadd, 1) := by decide +kernel
theorem dX6_insertPart_25 : decode cX6_insertPart 25 = .ok (.aload_n 1, 1) := by decide +kernel
theorem dX6_insertPart_26 : decode cX6_insertPart 26 = .ok (.iload_n 2, 1) := by decide +kernel
theorem dX6_insertPart_27 : decode cX6_insertPart 27 = .ok (.iload 5, 2) := by decide +kernel
theorem dX6_insertPart_29 : decode cX6_insertPart 29 = .ok (.iadd, 1) := by decide +kernel
theorem dX6_insertPart_30 : decode cX6_insertPart 30 = .ok (.invokevirtual 74, 3) := by decide +kernel
theorem dX6_insertPart_33 : decode cX6_insertPart 33 = .ok (.invokevirtual 67, 3) := by decide +kernel
theorem dX6_insertPart_36 : decode cX6_insertPart 36 = .ok (.iinc 5 1, 3) := by decide +kernel
theorem dX6_insertPart_39 : decode cX6_insertPart 39 = .ok (.goto (-29), 3) := by decide +kernel
theorem dX6_insertPart_42 : decode cX6_insertPart 42 = .ok (.aload_n 0, 1) := by decide +kernel
theorem dX6_insertPart_43 : decode cX6_insertPart 43 = .ok (.aload_n 0, 1) := by decide +kernel
theorem dX6_insertPart_44 : decode cX6_insertPart 44 = .ok (.invokevirtual 71, 3) := by decide +kernel
theorem dX6_insertPart_47 : decode cX6_insertPart 47 = .ok (.putfield 41, 3) := by decide +kernel
theorem dX6_insertPart_50 : decode cX6_insertPart 50 = .ok (.return_, 1) := by decide +kernel
theorem dX6_openSpace_0 : decode cX6_openSpace 0 = .ok (.aload_n 0, 1) := by decide +kernel
theorem dX6_openSpace_1 : decode cX6_openSpace 1 = .ok (.getfield 37, 3) := by decide +kernel
theorem dX6_openSpace_4 : decode cX6_openSpace 4 = .ok (.istore_n 2, 1) := by decide +kernel
theorem dX6_openSpace_5 : decode cX6_openSpace 5 = .ok (.aload_n 0, 1) := by decide +kernel
theorem dX6_openSpace_6 : decode cX6_openSpace 6 = .ok (.getfield 33, 3) := by decide +kernel
theorem dX6_openSpace_9 : decode cX6_openSpace 9 = .ok (.iload_n 2, 1) := by decide +kernel
theorem dX6_openSpace_10 : decode cX6_openSpace 10 = .ok (.iload_n 1, 1) := by decide +kernel
theorem dX6_openSpace_11 : decode cX6_openSpace 11 = .ok (.aload_n 0, 1) := by decide +kernel
theorem dX6_openSpace_12 : decode cX6_openSpace 12 = .ok (.getfield 14, 3) := by decide +kernel
theorem dX6_openSpace_15 : decode cX6_openSpace 15 = .ok (.invokevirtual 48, 3) := by decide +kernel
theorem dX6_openSpace_18 : decode cX6_openSpace 18 = .ok (.invokevirtual 77, 3) := by decide +kernel
theorem dX6_openSpace_21 : decode cX6_openSpace 21 = .ok (.aload_n 0, 1) := by decide +kernel
theorem dX6_openSpace_22 : decode cX6_openSpace 22 = .ok (.getfield 26, 3) := by decide +kernel
theorem dX6_openSpace_25 : decode cX6_openSpace 25 = .ok (.iload_n 2, 1) := by decide +kernel
theorem dX6_openSpace_26 : decode cX6_openSpace 26 = .ok (.iload_n 1, 1) := by decide +kernel
theorem dX6_openSpace_27 : decode cX6_openSpace 27 = .ok (.invokevirtual 81, 3) := by decide +kernel
theorem dX6_openSpace_30 : decode cX6_openSpace 30 = .ok (.aload_n 0, 1) := by decide +kernel
theorem dX6_openSpace_31 : decode cX6_openSpace 31 = .ok (.getfield 14, 3) := by decide +kernel
theorem dX6_openSpace_34 : decode cX6_openSpace 34 = .ok (.iload_n 2, 1) := by decide +kernel
theorem dX6_openSpace_35 : decode cX6_openSpace 35 = .ok (.iload_n 1, 1) := by decide +kernel
theorem dX6_openSpace_36 : decode cX6_openSpace 36 = .ok (.invokevirtual 84, 3) := by decide +kernel
theorem dX6_openSpace_39 : decode cX6_openSpace 39 = .ok (.aload_n 0, 1) := by decide +kernel
theorem dX6_openSpace_40 : decode cX6_openSpace 40 = .ok (.iload_n 2, 1) := by decide +kernel
theorem dX6_openSpace_41 : decode cX6_openSpace 41 = .ok (.iload_n 1, 1) := by decide +kernel
theorem dX6_openSpace_42 : decode cX6_openSpace 42 = .ok (.iadd, 1) := by decide +kernel
theorem dX6_openSpace_43 : decode cX6_openSpace 43 = .ok (.putfield 37, 3) := by decide +kernel
theorem dX6_openSpace_46 : decode cX6_openSpace 46 = .ok (.iload_n 2, 1) := by decide +kernel
theorem dX6_openSpace_47 : decode cX6_openSpace 47 = .ok (.ireturn, 1) := by decide +kernel
theorem dX6_deleteBehind_0 : decode cX6_deleteBehind 0 = .ok (.iload_n 1, 1) := by decide +kernel
theorem dX6_deleteBehind_1 : decode cX6_deleteBehind 1 = .ok (.aload_n 0, 1) := by decide +kernel
theorem dX6_deleteBehind_2 : decode cX6_deleteBehind 2 = .ok (.getfield 14, 3) := by decide +kernel
theorem dX6_deleteBehind_5 : decode cX6_deleteBehind 5 = .ok (.invokevirtual 48, 3) := by decide +kernel
theorem dX6_deleteBehind_8 : decode cX6_deleteBehind 8 = .ok (.aload_n 0, 1) := by decide +kernel
theorem dX6_deleteBehind_9 : decode cX6_deleteBehind 9 = .ok (.getfield 37, 3) := by decide +kernel
theorem dX6_deleteBehind_12 : decode cX6_deleteBehind 12 = .ok (.isub, 1) := by decide +kernel
theorem dX6_deleteBehind_13 : decode cX6_deleteBehind 13 = .ok (.invokestatic 87, 3) := by decide +kernel
theorem dX6_deleteBehind_16 : decode cX6_deleteBehind 16 = .ok (.istore_n 2, 1) := by decide +kernel
theorem dX6_deleteBehind_17 : decode cX6_deleteBehind 17 = .ok (.aload_n 0, 1) := by decide +kernel
theorem dX6_deleteBehind_18 : decode cX6_deleteBehind 18 = .ok (.aload_n 0, 1) := by decide +kernel
theorem dX6_deleteBehind_19 : decode cX6_deleteBehind 19 = .ok (.getfield 37, 3) := by decide +kernel
theorem dX6_deleteBehind_22 : decode cX6_deleteBehind 22 = .ok (.iload_n 2, 1) := by decide +kernel
theorem dX6_deleteBehind_23 : decode cX6_deleteBehind 23 = .ok (.invokevirtual 91, 3) := by decide +kernel
theorem dX6_deleteBehind_26 : decode cX6_deleteBehind 26 = .ok (.iload_n 2, 1) := by decide +kernel
theorem dX6_deleteBehind_27 : decode cX6_deleteBehind 27 = .ok (.ireturn, 1) := by decide +kernel
theorem dX6_deleteBefore_0 : decode cX6_deleteBefore 0 = .ok (.iload_n 1, 1) := by decide +kernel
theorem dX6_deleteBefore_1 : decode cX6_deleteBefore 1 = .ok (.aload_n 0, 1) := by decide +kernel
theorem dX6_deleteBefore_2 : decode cX6_deleteBefore 2 = .ok (.getfield 37, 3) := by decide +kernel
theorem dX6_deleteBefore_5 : decode cX6_deleteBefore 5 = .ok (.invokestatic 87, 3) := by decide +kernel
theorem dX6_deleteBefore_8 : decode cX6_deleteBefore 8 = .ok (.istore_n 2, 1) := by decide +kernel
theorem dX6_deleteBefore_9 : decode cX6_deleteBefore 9 = .ok (.aload_n 0, 1) := by decide +kernel
theorem dX6_deleteBefore_10 : decode cX6_deleteBefore 10 = .ok (.aload_n 0, 1) := by decide +kernel
theorem dX6_deleteBefore_11 : decode cX6_deleteBefore 11 = .ok (.getfield 37, 3) := by decide +kernel
theorem dX6_deleteBefore_14 : decode cX6_deleteBefore 14 = .ok (.iload_n 2, 1) := by decide +kernel
theorem dX6_deleteBefore_15 : decode cX6_deleteBefore 15 = .ok (.isub, 1) := by decide +kernel
theorem dX6_deleteBefore_16 : decode cX6_deleteBefore 16 = .ok (.iload_n 2, 1) := by decide +kernel
theorem dX6_deleteBefore_17 : decode cX6_deleteBefore 17 = .ok (.invokevirtual 91, 3) := by decide +kernel
theorem dX6_deleteBefore_20 : decode cX6_deleteBefore 20 = .ok (.iload_n 2, 1) := by decide +kernel
theorem dX6_deleteBefore_21 : decode cX6_deleteBefore 21 = .ok (.ireturn, 1) := by decide +kernel
theorem dX6_deletePart_0 : decode cX6_deletePart 0 = .ok (.iload_n 2, 1) := by decide +kernel
theorem dX6_deletePart_1 : decode cX6_deletePart 1 = .ok (.ifCond .le 45, 3) := by decide +kernel
theorem dX6_deletePart_4 : decode cX6_deletePart 4 = .ok (.aload_n 0, 1) := by decide +kernel
theorem dX6_deletePart_5 : decode cX6_deletePart 5 = .ok (.getfield 14, 3) := by decide +kernel
theorem dX6_deletePart_8 : decode cX6_deletePart 8 = .ok (.iload_n 1, 1) := by decide +kernel
theorem dX6_deletePart_9 : decode cX6_deletePart 9 = .ok (.iload_n 2, 1) := by decide +kernel
theorem dX6_deletePart_10 : decode cX6_deletePart 10 = .ok (.invokevirtual 94, 3) := by decide +kernel
theorem dX6_deletePart_13 : decode cX6_deletePart 13 = .ok (.aload_n 0, 1) := by decide +kernel
theorem dX6_deletePart_14 : decode cX6_deletePart 14 = .ok (.getfield 33, 3) := by decide +kernel
theorem dX6_deletePart_17 : decode cX6_deletePart 17 = .ok (.aload_n 0, 1) := by decide +kernel
theorem dX6_deletePart_18 : decode cX6_deletePart 18 = .ok (.getfield 37, 3) := by decide +kernel
theorem dX6_deletePart_21 : decode cX6_deletePart 21 = .ok (.iload_n 1, 1) := by decide +kernel
theorem dX6_deletePart_22 : decode cX6_deletePart 22 = .ok (.aload_n 0, 1) := by decide +kernel
theorem dX6_deletePart_23 : decode cX6_deletePart 23 = .ok (.getfield 14, 3) := by decide +kernel
theorem dX6_deletePart_26 : decode cX6_deletePart 26 = .ok (.invokevirtual 48, 3) := by decide +kernel
theorem dX6_deletePart_29 : decode cX6_deletePart 29 = .ok (.invokevirtual 97, 3) := by decide +kernel
theorem dX6_deletePart_32 : decode cX6_deletePart 32 = .ok (.aload_n 0, 1) := by decide +kernel
theorem dX6_deletePart_33 : decode cX6_deletePart 33 = .ok (.getfield 26, 3) := by decide +kernel
theorem dX6_deletePart_36 : decode cX6_deletePart 36 = .ok (.iload_n 1, 1) := by decide +kernel
theorem dX6_deletePart_37 : decode cX6_deletePart 37 = .ok (.iload_n 2, 1) := by decide +kernel
theorem dX6_deletePart_38 : decode cX6_deletePart 38 = .ok (.invokevirtual 100, 3) := by decide +kernel
theorem dX6_deletePart_41 : decode cX6_deletePart 41 = .ok (.aload_n 0, 1) := by decide +kernel
theorem dX6_deletePart_42 : decode cX6_deletePart 42 = .ok (.iload_n 1, 1) := by decide +kernel
theorem dX6_deletePart_43 : decode cX6_deletePart 43 = .ok (.putfield 37, 3) := by decide +kernel
theorem dX6_deletePart_46 : decode cX6_deletePart 46 = .ok (.aload_n 0, 1) := by decide +kernel
theorem dX6_deletePart_47 : decode cX6_deletePart 47 = .ok (.aload_n 0, 1) := by decide +kernel
theorem dX6_deletePart_48 : decode cX6_deletePart 48 = .ok (.invokevirtual 71, 3) := by decide +kernel
theorem dX6_deletePart_51 : decode cX6_deletePart 51 = .ok (.putfield 41, 3) := by decide +kernel
theorem dX6_deletePart_54 : decode cX6_deletePart 54 = .ok (.return_, 1) := by decide +kernel
theorem dX6_copyRegion_0 : decode cX6_copyRegion 0 = .ok (.aload_n 0, 1) := by decide +kernel
theorem dX6_copyRegion_1 : decode cX6_copyRegion 1 = .ok (.getfield 26, 3) := by decide +kernel
theorem dX6_copyRegion_4 : decode cX6_copyRegion 4 = .ok (.iload_n 1, 1) := by decide +kernel
theorem dX6_copyRegion_5 : decode cX6_copyRegion 5 = .ok (.invokevirtual 56, 3) := by decide +kernel
theorem dX6_copyRegion_8 : decode cX6_copyRegion 8 = .ok (.istore_n 2, 1) := by decide +kernel
theorem dX6_copyRegion_9 : decode cX6_copyRegion 9 = .ok (.iload_n 2, 1) := by decide +kernel
theorem dX6_copyRegion_10 : decode cX6_copyRegion 10 = .ok (.aload_n 0, 1) := by decide +kernel
theorem dX6_copyRegion_11 : decode cX6_copyRegion 11 = .ok (.getfield 37, 3) := by decide +kernel
theorem dX6_copyRegion_14 : decode cX6_copyRegion 14 = .ok (.invokestatic 87, 3) := by decide +kernel
theorem dX6_copyRegion_17 : decode cX6_copyRegion 17 = .ok (.istore_n 3, 1) := by decide +kernel
theorem dX6_copyRegion_18 : decode cX6_copyRegion 18 = .ok (.aload_n 0, 1) := by decide +kernel
theorem dX6_copyRegion_19 : decode cX6_copyRegion 19 = .ok (.getfield 20, 3) := by decide +kernel
theorem dX6_copyRegion_22 : decode cX6_copyRegion 22 = .ok (.aload_n 0, 1) := by decide +kernel
theorem dX6_copyRegion_23 : decode cX6_copyRegion 23 = .ok (.getfield 14, 3) := by decide +kernel
theorem dX6_copyRegion_26 : decode cX6_copyRegion 26 = .ok (.iload_n 3, 1) := by decide +kernel
theorem dX6_copyRegion_27 : decode cX6_copyRegion 27 = .ok (.iload_n 2, 1) := by decide +kernel
theorem dX6_copyRegion_28 : decode cX6_copyRegion 28 = .ok (.aload_n 0, 1) := by decide +kernel
theorem dX6_copyRegion_29 : decode cX6_copyRegion 29 = .ok (.getfield 37, 3) := by decide +kernel
theorem dX6_copyRegion_32 : decode cX6_copyRegion 32 = .ok (.invokestatic 103, 3) := by decide +kernel
theorem dX6_copyRegion_35 : decode cX6_copyRegion 35 = .ok (.iload_n 3, 1) := by decide +kernel
theorem dX6_copyRegion_36 : decode cX6_copyRegion 36 = .ok (.isub, 1) := by decide +kernel
theorem dX6_copyRegion_37 : decode cX6_copyRegion 37 = .ok (.invokevirtual 106, 3) := by decide +kernel
theorem dX6_copyRegion_40 : decode cX6_copyRegion 40 = .ok (.return_, 1) := by decide +kernel
theorem dX6_cutRegion_0 : decode cX6_cutRegion 0 = .ok (.aload_n 0, 1) := by decide +kernel
theorem dX6_cutRegion_1 : decode cX6_cutRegion 1 = .ok (.iload_n 1, 1) := by decide +kernel
theorem dX6_cutRegion_2 : decode cX6_cutRegion 2 = .ok (.invokevirtual 110, 3) := by decide +kernel
theorem dX6_cutRegion_5 : decode cX6_cutRegion 5 = .ok (.aload_n 0, 1) := by decide +kernel
theorem dX6_cutRegion_6 : decode cX6_cutRegion 6 = .ok (.aload_n 0, 1) := by decide +kernel
theorem dX6_cutRegion_7 : decode cX6_cutRegion 7 = .ok (.getfield 26, 3) := by decide +kernel
theorem dX6_cutRegion_10 : decode cX6_cutRegion 10 = .ok (.iload_n 1, 1) := by decide +kernel
theorem dX6_cutRegion_11 : decode cX6_cutRegion 11 = .ok (.invokevirtual 56, 3) := by decide +kernel
theorem dX6_cutRegion_14 : decode cX6_cutRegion 14 = .ok (.aload_n 0, 1) := by decide +kernel
theorem dX6_cutRegion_15 : decode cX6_cutRegion 15 = .ok (.getfield 37, 3) := by decide +kernel
theorem dX6_cutRegion_18 : decode cX6_cutRegion 18 = .ok (.invokestatic 87, 3) := by decide +kernel
theorem dX6_cutRegion_21 : decode cX6_cutRegion 21 = .ok (.aload_n 0, 1) := by decide +kernel
theorem dX6_cutRegion_22 : decode cX6_cutRegion 22 = .ok (.getfield 20, 3) := by decide +kernel
theorem dX6_cutRegion_25 : decode cX6_cutRegion 25 = .ok (.invokevirtual 48, 3) := by decide +kernel
theorem dX6_cutRegion_28 : decode cX6_cutRegion 28 = .ok (.invokevirtual 91, 3) := by decide +kernel
theorem dX6_cutRegion_31 : decode cX6_cutRegion 31 = .ok (.return_, 1) := by decide +kernel
theorem dX6_moveCaret_0 : decode cX6_moveCaret 0 = .ok (.aload_n 0, 1) := by decide +kernel
theorem dX6_moveCaret_1 : decode cX6_moveCaret 1 = .ok (.iload_n 1, 1) := by decide +kernel
theorem dX6_moveCaret_2 : decode cX6_moveCaret 2 = .ok (.putfield 37, 3) := by decide +kernel
theorem dX6_moveCaret_5 : decode cX6_moveCaret 5 = .ok (.aload_n 0, 1) := by decide +kernel
theorem dX6_moveCaret_6 : decode cX6_moveCaret 6 = .ok (.aload_n 0, 1) := by decide +kernel
theorem dX6_moveCaret_7 : decode cX6_moveCaret 7 = .ok (.invokevirtual 71, 3) := by decide +kernel
theorem dX6_moveCaret_10 : decode cX6_moveCaret 10 = .ok (.putfield 41, 3) := by decide +kernel
theorem dX6_moveCaret_13 : decode cX6_moveCaret 13 = .ok (.aload_n 0, 1) := by decide +kernel
theorem dX6_moveCaret_14 : decode cX6_moveCaret 14 = .ok (.invokevirtual 113, 3) := by decide +kernel
theorem dX6_moveCaret_17 : decode cX6_moveCaret 17 = .ok (.ireturn, 1) := by decide +kernel
theorem dX6_letGapFollow_0 : decode cX6_letGapFollow 0 = .ok (.aload_n 0, 1) := by decide +kernel
theorem dX6_letGapFollow_1 : decode cX6_letGapFollow 1 = .ok (.getfield 44, 3) := by decide +kernel
theorem dX6_letGapFollow_4 : decode cX6_letGapFollow 4 = .ok (.ifCond .eq 17, 3) := by decide +kernel
theorem dX6_letGapFollow_7 : decode cX6_letGapFollow 7 = .ok (.aload_n 0, 1) := by decide +kernel
theorem dX6_letGapFollow_8 : decode cX6_letGapFollow 8 = .ok (.getfield 33, 3) := by decide +kernel
theorem dX6_letGapFollow_11 : decode cX6_letGapFollow 11 = .ok (.aload_n 0, 1) := by decide +kernel
theorem dX6_letGapFollow_12 : decode cX6_letGapFollow 12 = .ok (.getfield 37, 3) := by decide +kernel
theorem dX6_letGapFollow_15 : decode cX6_letGapFollow 15 = .ok (.invokevirtual 116, 3) := by decide +kernel
theorem dX6_letGapFollow_18 : decode cX6_letGapFollow 18 = .ok (.goto 4, 3) := by decide +kernel
theorem dX6_letGapFollow_21 : decode cX6_letGapFollow 21 = .ok (.iconst 0, 1) := by decide +kernel
theorem dX6_letGapFollow_22 : decode cX6_letGapFollow 22 = .ok (.ireturn, 1) := by decide +kernel
theorem dX6_moveUp_0 : decode cX6_moveUp 0 = .ok (.aload_n 0, 1) := by decide +kernel
theorem dX6_moveUp_1 : decode cX6_moveUp 1 = .ok (.getfield 14, 3) := by decide +kernel
theorem dX6_moveUp_4 : decode cX6_moveUp 4 = .ok (.aload_n 0, 1) := by decide +kernel
theorem dX6_moveUp_5 : decode cX6_moveUp 5 = .ok (.getfield 37, 3) := by decide +kernel
theorem dX6_moveUp_8 : decode cX6_moveUp 8 = .ok (.invokevirtual 119, 3) := by decide +kernel
theorem dX6_moveUp_11 : decode cX6_moveUp 11 = .ok (.istore_n 1, 1) := by decide +kernel
theorem dX6_moveUp_12 : decode cX6_moveUp 12 = .ok (.iload_n 1, 1) := by decide +kernel
theorem dX6_moveUp_13 : decode cX6_moveUp 13 = .ok (.ifCond .le 10, 3) := by decide +kernel
theorem dX6_moveUp_16 : decode cX6_moveUp 16 = .ok (.aload_n 0, 1) := by decide +kernel
theorem dX6_moveUp_17 : decode cX6_moveUp 17 = .ok (.iload_n 1, 1) := by decide +kernel
theorem dX6_moveUp_18 : decode cX6_moveUp 18 = .ok (.iconst 1, 1) := by decide +kernel
theorem dX6_moveUp_19 : decode cX6_moveUp 19 = .ok (.isub, 1) := by decide +kernel
theorem dX6_moveUp_20 : decode cX6_moveUp 20 = .ok (.invokevirtual 122, 3) := by decide +kernel
theorem dX6_moveUp_23 : decode cX6_moveUp 23 = .ok (.return_, 1) := by decide +kernel
theorem dX6_moveDown_0 : decode cX6_moveDown 0 = .ok (.aload_n 0, 1) := by decide +kernel
theorem dX6_moveDown_1 : decode cX6_moveDown 1 = .ok (.getfield 14, 3) := by decide +kernel
theorem dX6_moveDown_4 : decode cX6_moveDown 4 = .ok (.aload_n 0, 1) := by decide +kernel
theorem dX6_moveDown_5 : decode cX6_moveDown 5 = .ok (.getfield 37, 3) := by decide +kernel
theorem dX6_moveDown_8 : decode cX6_moveDown 8 = .ok (.invokevirtual 125, 3) := by decide +kernel
theorem dX6_moveDown_11 : decode cX6_moveDown 11 = .ok (.istore_n 1, 1) := by decide +kernel
theorem dX6_moveDown_12 : decode cX6_moveDown 12 = .ok (.iload_n 1, 1) := by decide +kernel
theorem dX6_moveDown_13 : decode cX6_moveDown 13 = .ok (.aload_n 0, 1) := by decide +kernel
theorem dX6_moveDown_14 : decode cX6_moveDown 14 = .ok (.getfield 14, 3) := by decide +kernel
theorem dX6_moveDown_17 : decode cX6_moveDown 17 = .ok (.invokevirtual 48, 3) := by decide +kernel
theorem dX6_moveDown_20 : decode cX6_moveDown 20 = .ok (.if_icmp .ge 10, 3) := by decide +kernel
theorem dX6_moveDown_23 : decode cX6_moveDown 23 = .ok (.aload_n 0, 1) := by decide +kernel
theorem dX6_moveDown_24 : decode cX6_moveDown 24 = .ok (.iload_n 1, 1) := by decide +kernel
theorem dX6_moveDown_25 : decode cX6_moveDown 25 = .ok (.iconst 1, 1) := by decide +kernel
theorem dX6_moveDown_26 : decode cX6_moveDown 26 = .ok (.iadd, 1) := by decide +kernel
theorem dX6_moveDown_27 : decode cX6_moveDown 27 = .ok (.invokevirtual 122, 3) := by decide +kernel
theorem dX6_moveDown_30 : decode cX6_moveDown 30 = .ok (.return_, 1) := by decide +kernel
theorem dX6_moveToGoal_0 : decode cX6_moveToGoal 0 = .ok (.aload_n 0, 1) := by decide +kernel
theorem dX6_moveToGoal_1 : decode cX6_moveToGoal 1 = .ok (.getfield 14, 3) := by decide +kernel
theorem dX6_moveToGoal_4 : decode cX6_moveToGoal 4 = .ok (.iload_n 1, 1) := by decide +kernel
theorem dX6_moveToGoal_5 : decode cX6_moveToGoal 5 = .ok (.invokevirtual 119, 3) := by decide +kernel
theorem dX6_moveToGoal_8 : decode cX6_moveToGoal 8 = .ok (.aload_n 0, 1) := by decide +kernel
theorem dX6_moveToGoal_9 : decode cX6_moveToGoal 9 = .ok (.getfield 41, 3) := by decide +kernel
theorem dX6_moveToGoal_12 : decode cX6_moveToGoal 12 = .ok (.iadd, 1) := by decide +kernel
theorem dX6_moveToGoal_13 : decode cX6_moveToGoal 13 = .ok (.istore_n 2, 1) := by decide +kernel
theorem dX6_moveToGoal_14 : decode cX6_moveToGoal 14 = .ok (.aload_n 0, 1) := by decide +kernel
theorem dX6_moveToGoal_15 : decode cX6_moveToGoal 15 = .ok (.iload_n 2, 1) := by decide +kernel
theorem dX6_moveToGoal_16 : decode cX6_moveToGoal 16 = .ok (.aload_n 0, 1) := by decide +kernel
theorem dX6_moveToGoal_17 : decode cX6_moveToGoal 17 = .ok (.getfield 14, 3) := by decide +kernel
theorem dX6_moveToGoal_20 : decode cX6_moveToGoal 20 = .ok (.iload_n 1, 1) := by decide +kernel
theorem dX6_moveToGoal_21 : decode cX6_moveToGoal 21 = .ok (.invokevirtual 125, 3) := by decide +kernel
theorem dX6_moveToGoal_24 : decode cX6_moveToGoal 24 = .ok (.invokestatic 87, 3) := by decide +kernel
theorem dX6_moveToGoal_27 : decode cX6_moveToGoal 27 = .ok (.putfield 37, 3) := by decide +kernel
theorem dX6_moveToGoal_30 : decode cX6_moveToGoal 30 = .ok (.aload_n 0, 1) := by decide +kernel
theorem dX6_moveToGoal_31 : decode cX6_moveToGoal 31 = .ok (.invokevirtual 113, 3) := by decide +kernel
theorem dX6_moveToGoal_34 : decode cX6_moveToGoal 34 = .ok (.pop, 1) := by decide +kernel
theorem dX6_moveToGoal_35 : decode cX6_moveToGoal 35 = .ok (.return_, 1) := by decide +kernel
theorem dX6_caretColumn_0 : decode cX6_caretColumn 0 = .ok (.aload_n 0, 1) := by decide +kernel
theorem dX6_caretColumn_1 : decode cX6_caretColumn 1 = .ok (.getfield 37, 3) := by decide +kernel
theorem dX6_caretColumn_4 : decode cX6_caretColumn 4 = .ok (.aload_n 0, 1) := by decide +kernel
theorem dX6_caretColumn_5 : decode cX6_caretColumn 5 = .ok (.getfield 14, 3) := by decide +kernel
theorem dX6_caretColumn_8 : decode cX6_caretColumn 8 = .ok (.aload_n 0, 1) := by decide +kernel
theorem dX6_caretColumn_9 : decode cX6_caretColumn 9 = .ok (.getfield 37, 3) := by decide +kernel
theorem dX6_caretColumn_12 : decode cX6_caretColumn 12 = .ok (.invokevirtual 119, 3) := by decide +kernel
theorem dX6_caretColumn_15 : decode cX6_caretColumn 15 = .ok (.isub, 1) := by decide +kernel
theorem dX6_caretColumn_16 : decode cX6_caretColumn 16 = .ok (.ireturn, 1) := by decide +kernel
theorem dX6_cellAt_0 : decode cX6_cellAt 0 = .ok (.iload_n 1, 1) := by decide +kernel
theorem dX6_cellAt_1 : decode cX6_cellAt 1 = .ok (.aload_n 0, 1) := by decide +kernel
theorem dX6_cellAt_2 : decode cX6_cellAt 2 = .ok (.getfield 33, 3) := by decide +kernel
theorem dX6_cellAt_5 : decode cX6_cellAt 5 = .ok (.getfield 128, 3) := by decide +kernel
theorem dX6_cellAt_8 : decode cX6_cellAt 8 = .ok (.if_icmp .ge 12, 3) := by decide +kernel
theorem dX6_cellAt_11 : decode cX6_cellAt 11 = .ok (.aload_n 0, 1) := by decide +kernel
theorem dX6_cellAt_12 : decode cX6_cellAt 12 = .ok (.getfield 14, 3) := by decide +kernel
theorem dX6_cellAt_15 : decode cX6_cellAt 15 = .ok (.iload_n 1, 1) := by decide +kernel
theorem dX6_cellAt_16 : decode cX6_cellAt 16 = .ok (.invokevirtual 74, 3) := by decide +kernel
theorem dX6_cellAt_19 : decode cX6_cellAt 19 = .ok (.ireturn, 1) := by decide +kernel
theorem dX6_cellAt_20 : decode cX6_cellAt 20 = .ok (.aload_n 0, 1) := by decide +kernel
theorem dX6_cellAt_21 : decode cX6_cellAt 21 = .ok (.getfield 33, 3) := by decide +kernel
theorem dX6_cellAt_24 : decode cX6_cellAt 24 = .ok (.getfield 131, 3) := by decide +kernel
theorem dX6_cellAt_27 : decode cX6_cellAt 27 = .ok (.aload_n 0, 1) := by decide +kernel
theorem dX6_cellAt_28 : decode cX6_cellAt 28 = .ok (.getfield 14, 3) := by decide +kernel
theorem dX6_cellAt_31 : decode cX6_cellAt 31 = .ok (.invokevirtual 48, 3) := by decide +kernel
theorem dX6_cellAt_34 : decode cX6_cellAt 34 = .ok (.isub, 1) := by decide +kernel
theorem dX6_cellAt_35 : decode cX6_cellAt 35 = .ok (.istore_n 2, 1) := by decide +kernel
theorem dX6_cellAt_36 : decode cX6_cellAt 36 = .ok (.iload_n 1, 1) := by decide +kernel
theorem dX6_cellAt_37 : decode cX6_cellAt 37 = .ok (.aload_n 0, 1) := by decide +kernel
theorem dX6_cellAt_38 : decode cX6_cellAt 38 = .ok (.getfield 33, 3) := by decide +kernel
theorem dX6_cellAt_41 : decode cX6_cellAt 41 = .ok (.getfield 128, 3) := by decide +kernel
theorem dX6_cellAt_44 : decode cX6_cellAt 44 = .ok (.iload_n 2, 1) := by decide +kernel
theorem dX6_cellAt_45 : decode cX6_cellAt 45 = .ok (.iadd, 1) := by decide +kernel
theorem dX6_cellAt_46 : decode cX6_cellAt 46 = .ok (.if_icmp .ge 7, 3) := by decide +kernel
theorem dX6_cellAt_49 : decode cX6_cellAt 49 = .ok (.iconst (-1), 1) := by decide +kernel
theorem dX6_cellAt_50 : decode cX6_cellAt 50 = .ok (.goto 13, 3) := by decide +kernel
theorem dX6_cellAt_53 : decode cX6_cellAt 53 = .ok (.aload_n 0, 1) := by decide +kernel
theorem dX6_cellAt_54 : decode cX6_cellAt 54 = .ok (.getfield 14, 3) := by decide +kernel
theorem dX6_cellAt_57 : decode cX6_cellAt 57 = .ok (.iload_n 1, 1) := by decide +kernel
theorem dX6_cellAt_58 : decode cX6_cellAt 58 = .ok (.iload_n 2, 1) := by decide +kernel
theorem dX6_cellAt_59 : decode cX6_cellAt 59 = .ok (.isub, 1) := by decide +kernel
theorem dX6_cellAt_60 : decode cX6_cellAt 60 = .ok (.invokevirtual 74, 3) := by decide +kernel
theorem dX6_cellAt_63 : decode cX6_cellAt 63 = .ok (.ireturn, 1) := by decide +kernel
theorem dX6_hash_0 : decode cX6_hash 0 = .ok (.ldc2_w 134, 3) := by decide +kernel
theorem dX6_hash_3 : decode cX6_hash 3 = .ok (.aload_n 0, 1) := by decide +kernel
theorem dX6_hash_4 : decode cX6_hash 4 = .ok (.getfield 14, 3) := by decide +kernel
theorem dX6_hash_7 : decode cX6_hash 7 = .ok (.invokevirtual 48, 3) := by decide +kernel
theorem dX6_hash_10 : decode cX6_hash 10 = .ok (.i2l, 1) := by decide +kernel
theorem dX6_hash_11 : decode cX6_hash 11 = .ok (.ladd, 1) := by decide +kernel
theorem dX6_hash_12 : decode cX6_hash 12 = .ok (.lstore_n 1, 1) := by decide +kernel
theorem dX6_hash_13 : decode cX6_hash 13 = .ok (.ldc2_w 136, 3) := by decide +kernel
theorem dX6_hash_16 : decode cX6_hash 16 = .ok (.lload_n 1, 1) := by decide +kernel
theorem dX6_hash_17 : decode cX6_hash 17 = .ok (.lmul, 1) := by decide +kernel
theorem dX6_hash_18 : decode cX6_hash 18 = .ok (.aload_n 0, 1) := by decide +kernel
theorem dX6_hash_19 : decode cX6_hash 19 = .ok (.getfield 37, 3) := by decide +kernel
theorem dX6_hash_22 : decode cX6_hash 22 = .ok (.i2l, 1) := by decide +kernel
theorem dX6_hash_23 : decode cX6_hash 23 = .ok (.ladd, 1) := by decide +kernel
theorem dX6_hash_24 : decode cX6_hash 24 = .ok (.lstore_n 1, 1) := by decide +kernel
theorem dX6_hash_25 : decode cX6_hash 25 = .ok (.ldc2_w 136, 3) := by decide +kernel
theorem dX6_hash_28 : decode cX6_hash 28 = .ok (.lload_n 1, 1) := by decide +kernel
theorem dX6_hash_29 : decode cX6_hash 29 = .ok (.lmul, 1) := by decide +kernel
theorem dX6_hash_30 : decode cX6_hash 30 = .ok (.aload_n 0, 1) := by decide +kernel
theorem dX6_hash_31 : decode cX6_hash 31 = .ok (.getfield 33, 3) := by decide +kernel
theorem dX6_hash_34 : decode cX6_hash 34 = .ok (.getfield 131, 3) := by decide +kernel
theorem dX6_hash_37 : decode cX6_hash 37 = .ok (.i2l, 1) := by decide +kernel
theorem dX6_hash_38 : decode cX6_hash 38 = .ok (.ladd, 1) := by decide +kernel
theorem dX6_hash_39 : decode cX6_hash 39 = .ok (.lstore_n 1, 1) := by decide +kernel
theorem dX6_hash_40 : decode cX6_hash 40 = .ok (.ldc2_w 136, 3) := by decide +kernel
theorem dX6_hash_43 : decode cX6_hash 43 = .ok (.lload_n 1, 1) := by decide +kernel
theorem dX6_hash_44 : decode cX6_hash 44 = .ok (.lmul, 1) := by decide +kernel
theorem dX6_hash_45 : decode cX6_hash 45 = .ok (.aload_n 0, 1) := by decide +kernel
theorem dX6_hash_46 : decode cX6_hash 46 = .ok (.getfield 33, 3) := by decide +kernel
theorem dX6_hash_49 : decode cX6_hash 49 = .ok (.getfield 128, 3) := by decide +kernel
theorem dX6_hash_52 : decode cX6_hash 52 = .ok (.i2l, 1) := by decide +kernel
theorem dX6_hash_53 : decode cX6_hash 53 = .ok (.ladd, 1) := by decide +kernel
theorem dX6_hash_54 : decode cX6_hash 54 = .ok (.lstore_n 1, 1) := by decide +kernel
theorem dX6_hash_55 : decode cX6_hash 55 = .ok (.ldc2_w 136, 3) := by decide +kernel
theorem dX6_hash_58 : decode cX6_hash 58 = .ok (.lload_n 1, 1) := by decide +kernel
theorem dX6_hash_59 : decode cX6_hash 59 = .ok (.lmul, 1) := by decide +kernel
theorem dX6_hash_60 : decode cX6_hash 60 = .ok (.aload_n 0, 1) := by decide +kernel
theorem dX6_hash_61 : decode cX6_hash 61 = .ok (.getfield 33, 3) := by decide +kernel
theorem dX6_hash_64 : decode cX6_hash 64 = .ok (.getfield 138, 3) := by decide +kernel
theorem dX6_hash_67 : decode cX6_hash 67 = .ok (.i2l, 1) := by decide +kernel
theorem dX6_hash_68 : decode cX6_hash 68 = .ok (.ladd, 1) := by decide +kernel
theorem dX6_hash_69 : decode cX6_hash 69 = .ok (.lstore_n 1, 1) := by decide +kernel
theorem dX6_hash_70 : decode cX6_hash 70 = .ok (.ldc2_w 136, 3) := by decide +kernel
theorem dX6_hash_73 : decode cX6_hash 73 = .ok (.lload_n 1, 1) := by decide +kernel
theorem dX6_hash_74 : decode cX6_hash 74 = .ok (.lmul, 1) := by decide +kernel
theorem dX6_hash_75 : decode cX6_hash 75 = .ok (.aload_n 0, 1) := by decide +kernel
theorem dX6_hash_76 : decode cX6_hash 76 = .ok (.getfield 33, 3) := by decide +kernel
theorem dX6_hash_79 : decode cX6_hash 79 = .ok (.getfield 141, 3) := by decide +kernel
theorem dX6_hash_82 : decode cX6_hash 82 = .ok (.i2l, 1) := by decide +kernel
theorem dX6_hash_83 : decode cX6_hash 83 = .ok (.ladd, 1) := by decide +kernel
theorem dX6_hash_84 : decode cX6_hash 84 = .ok (.lstore_n 1, 1) := by decide +kernel
theorem dX6_hash_85 : decode cX6_hash 85 = .ok (.ldc2_w 136, 3) := by decide +kernel
theorem dX6_hash_88 : decode cX6_hash 88 = .ok (.lload_n 1, 1) := by decide +kernel
theorem dX6_hash_89 : decode cX6_hash 89 = .ok (.lmul, 1) := by decide +kernel
theorem dX6_hash_90 : decode cX6_hash 90 = .ok (.aload_n 0, 1) := by decide +kernel
theorem dX6_hash_91 : decode cX6_hash 91 = .ok (.getfield 33, 3) := by decide +kernel
theorem dX6_hash_94 : decode cX6_hash 94 = .ok (.getfield 144, 3) := by decide +kernel
theorem dX6_hash_97 : decode cX6_hash 97 = .ok (.i2l, 1) := by decide +kernel
theorem dX6_hash_98 : decode cX6_hash 98 = .ok (.ladd, 1) := by decide +kernel
theorem dX6_hash_99 : decode cX6_hash 99 = .ok (.lstore_n 1, 1) := by decide +kernel
theorem dX6_hash_100 : decode cX6_hash 100 = .ok (.ldc2_w 136, 3) := by decide +kernel
theorem dX6_hash_103 : decode cX6_hash 103 = .ok (.lload_n 1, 1) := by decide +kernel
theorem dX6_hash_104 : decode cX6_hash 104 = .ok (.lmul, 1) := by decide +kernel
theorem dX6_hash_105 : decode cX6_hash 105 = .ok (.aload_n 0, 1) := by decide +kernel
theorem dX6_hash_106 : decode cX6_hash 106 = .ok (.getfield 33, 3) := by decide +kernel
theorem dX6_hash_109 : decode cX6_hash 109 = .ok (.getfield 147, 3) := by decide +kernel
theorem dX6_hash_112 : decode cX6_hash 112 = .ok (.i2l, 1) := by decide +kernel
theorem dX6_hash_113 : decode cX6_hash 113 = .ok (.ladd, 1) := by decide +kernel
theorem dX6_hash_114 : decode cX6_hash 114 = .ok (.lstore_n 1, 1) := by decide +kernel
theorem dX6_hash_115 : decode cX6_hash 115 = .ok (.ldc2_w 136, 3) := by decide +kernel
theorem dX6_hash_118 : decode cX6_hash 118 = .ok (.lload_n 1, 1) := by decide +kernel
theorem dX6_hash_119 : decode cX6_hash 119 = .ok (.lmul, 1) := by decide +kernel
theorem dX6_hash_120 : decode cX6_hash 120 = .ok (.aload_n 0, 1) := by decide +kernel
theorem dX6_hash_121 : decode cX6_hash 121 = .ok (.getfield 14, 3) := by decide +kernel
theorem dX6_hash_124 : decode cX6_hash 124 = .ok (.invokevirtual 150, 3) := by decide +kernel
theorem dX6_hash_127 : decode cX6_hash 127 = .ok (.i2l, 1) := by decide +kernel
theorem dX6_hash_128 : decode cX6_hash 128 = .ok (.ladd, 1) := by decide +kernel
theorem dX6_hash_129 : decode cX6_hash 129 = .ok (.lstore_n 1, 1) := by decide +kernel
theorem dX6_hash_130 : decode cX6_hash 130 = .ok (.ldc2_w 136, 3) := by decide +kernel
theorem dX6_hash_133 : decode cX6_hash 133 = .ok (.lload_n 1, 1) := by decide +kernel
theorem dX6_hash_134 : decode cX6_hash 134 = .ok (.lmul, 1) := by decide +kernel
theorem dX6_hash_135 : decode cX6_hash 135 = .ok (.aload_n 0, 1) := by decide +kernel
theorem dX6_hash_136 : decode cX6_hash 136 = .ok (.invokevirtual 71, 3) := by decide +kernel
theorem dX6_hash_139 : decode cX6_hash 139 = .ok (.i2l, 1) := by decide +kernel
theorem dX6_hash_140 : decode cX6_hash 140 = .ok (.ladd, 1) := by decide +kernel
theorem dX6_hash_141 : decode cX6_hash 141 = .ok (.lstore_n 1, 1) := by decide +kernel
theorem dX6_hash_142 : decode cX6_hash 142 = .ok (.ldc2_w 136, 3) := by decide +kernel
theorem dX6_hash_145 : decode cX6_hash 145 = .ok (.lload_n 1, 1) := by decide +kernel
theorem dX6_hash_146 : decode cX6_hash 146 = .ok (.lmul, 1) := by decide +kernel
theorem dX6_hash_147 : decode cX6_hash 147 = .ok (.aload_n 0, 1) := by decide +kernel
theorem dX6_hash_148 : decode cX6_hash 148 = .ok (.getfield 44, 3) := by decide +kernel
theorem dX6_hash_151 : decode cX6_hash 151 = .ok (.ifCond .eq 7, 3) := by decide +kernel
theorem dX6_hash_154 : decode cX6_hash 154 = .ok (.iconst 1, 1) := by decide +kernel
theorem dX6_hash_155 : decode cX6_hash 155 = .ok (.goto 4, 3) := by decide +kernel
theorem dX6_hash_158 : decode cX6_hash 158 = .ok (.iconst 0, 1) := by decide +kernel
theorem dX6_hash_159 : decode cX6_hash 159 = .ok (.i2l, 1) := by decide +kernel
theorem dX6_hash_160 : decode cX6_hash 160 = .ok (.ladd, 1) := by decide +kernel
theorem dX6_hash_161 : decode cX6_hash 161 = .ok (.lstore_n 1, 1) := by decide +kernel
theorem dX6_hash_162 : decode cX6_hash 162 = .ok (.iconst 0, 1) := by decide +kernel
theorem dX6_hash_163 : decode cX6_hash 163 = .ok (.istore_n 3, 1) := by decide +kernel
theorem dX6_hash_164 : decode cX6_hash 164 = .ok (.iload_n 3, 1) := by decide +kernel
theorem dX6_hash_165 : decode cX6_hash 165 = .ok (.iconst 4, 1) := by decide +kernel
theorem dX6_hash_166 : decode cX6_hash 166 = .ok (.if_icmp .ge 25, 3) := by decide +kernel
theorem dX6_hash_169 : decode cX6_hash 169 = .ok (.ldc2_w 136, 3) := by decide +kernel
theorem dX6_hash_172 : decode cX6_hash 172 = .ok (.lload_n 1, 1) := by decide +kernel
theorem dX6_hash_173 : decode cX6_hash 173 = .ok (.lmul, 1) := by decide +kernel
theorem dX6_hash_174 : decode cX6_hash 174 = .ok (.aload_n 0, 1) := by decide +kernel
theorem dX6_hash_175 : decode cX6_hash 175 = .ok (.getfield 26, 3) := by decide +kernel
theorem dX6_hash_178 : decode cX6_hash 178 = .ok (.iload_n 3, 1) := by decide +kernel
theorem dX6_hash_179 : decode cX6_hash 179 = .ok (.invokevirtual 56, 3) := by decide +kernel
theorem dX6_hash_182 : decode cX6_hash 182 = .ok (.i2l, 1) := by decide +kernel
theorem dX6_hash_183 : decode cX6_hash 183 = .ok (.ladd, 1) := by decide +kernel
theorem dX6_hash_184 : decode cX6_hash 184 = .ok (.lstore_n 1, 1) := by decide +kernel
theorem dX6_hash_185 : decode cX6_hash 185 = .ok (.iinc 3 1, 3) := by decide +kernel
theorem dX6_hash_188 : decode cX6_hash 188 = .ok (.goto (-24), 3) := by decide +kernel
theorem dX6_hash_191 : decode cX6_hash 191 = .ok (.lload_n 1, 1) := by decide +kernel
theorem dX6_hash_192 : decode cX6_hash 192 = .ok (.aload_n 0, 1) := by decide +kernel
theorem dX6_hash_193 : decode cX6_hash 193 = .ok (.getfield 14, 3) := by decide +kernel
theorem dX6_hash_196 : decode cX6_hash 196 = .ok (.invokestatic 153, 3) := by decide +kernel
theorem dX6_hash_199 : decode cX6_hash 199 = .ok (.lstore_n 1, 1) := by decide +kernel
theorem dX6_hash_200 : decode cX6_hash 200 = .ok (.ldc2_w 136, 3) := by decide +kernel
theorem dX6_hash_203 : decode cX6_hash 203 = .ok (.lload_n 1, 1) := by decide +kernel
theorem dX6_hash_204 : decode cX6_hash 204 = .ok (.lmul, 1) := by decide +kernel
theorem dX6_hash_205 : decode cX6_hash 205 = .ok (.aload_n 0, 1) := by decide +kernel
theorem dX6_hash_206 : decode cX6_hash 206 = .ok (.getfield 20, 3) := by decide +kernel
theorem dX6_hash_209 : decode cX6_hash 209 = .ok (.invokevirtual 48, 3) := by decide +kernel
theorem dX6_hash_212 : decode cX6_hash 212 = .ok (.i2l, 1) := by decide +kernel
theorem dX6_hash_213 : decode cX6_hash 213 = .ok (.ladd, 1) := by decide +kernel
theorem dX6_hash_214 : decode cX6_hash 214 = .ok (.aload_n 0, 1) := by decide +kernel
theorem dX6_hash_215 : decode cX6_hash 215 = .ok (.getfield 20, 3) := by decide +kernel
theorem dX6_hash_218 : decode cX6_hash 218 = .ok (.invokestatic 153, 3) := by decide +kernel
theorem dX6_hash_221 : decode cX6_hash 221 = .ok (.lreturn, 1) := by decide +kernel
theorem dX6_hashOn_0 : decode cX6_hashOn 0 = .ok (.lload_n 0, 1) := by decide +kernel
theorem dX6_hashOn_1 : decode cX6_hashOn 1 = .ok (.lstore_n 3, 1) := by decide +kernel
theorem dX6_hashOn_2 : decode cX6_hashOn 2 = .ok (.iconst 0, 1) := by decide +kernel
theorem dX6_hashOn_3 : decode cX6_hashOn 3 = .ok (.istore 5, 2) := by decide +kernel
theorem dX6_hashOn_5 : decode cX6_hashOn 5 = .ok (.iload 5, 2) := by decide +kernel
theorem dX6_hashOn_7 : decode cX6_hashOn 7 = .ok (.aload_n 2, 1) := by decide +kernel
theorem dX6_hashOn_8 : decode cX6_hashOn 8 = .ok (.invokevirtual 48, 3) := by decide +kernel
theorem dX6_hashOn_11 : decode cX6_hashOn 11 = .ok (.if_icmp .ge 23, 3) := by decide +kernel
theorem dX6_hashOn_14 : decode cX6_hashOn 14 = .ok (.ldc2_w 136, 3) := by decide +kernel
theorem dX6_hashOn_17 : decode cX6_hashOn 17 = .ok (.lload_n 3, 1) := by decide +kernel
theorem dX6_hashOn_18 : decode cX6_hashOn 18 = .ok (.lmul, 1) := by decide +kernel
theorem dX6_hashOn_19 : decode cX6_hashOn 19 = .ok (.aload_n 2, 1) := by decide +kernel
theorem dX6_hashOn_20 : decode cX6_hashOn 20 = .ok (.iload 5, 2) := by decide +kernel
theorem dX6_hashOn_22 : decode cX6_hashOn 22 = .ok (.invokevirtual 74, 3) := by decide +kernel
theorem dX6_hashOn_25 : decode cX6_hashOn 25 = .ok (.i2l, 1) := by decide +kernel
theorem dX6_hashOn_26 : decode cX6_hashOn 26 = .ok (.ladd, 1) := by decide +kernel
theorem dX6_hashOn_27 : decode cX6_hashOn 27 = .ok (.lstore_n 3, 1) := by decide +kernel
theorem dX6_hashOn_28 : decode cX6_hashOn 28 = .ok (.iinc 5 1, 3) := by decide +kernel
theorem dX6_hashOn_31 : decode cX6_hashOn 31 = .ok (.goto (-26), 3) := by decide +kernel
theorem dX6_hashOn_34 : decode cX6_hashOn 34 = .ok (.lload_n 3, 1) := by decide +kernel
theorem dX6_hashOn_35 : decode cX6_hashOn 35 = .ok (.lreturn, 1) := by decide +kernel
theorem dX6_assign_0 : decode cX6_assign 0 = .ok (.aload_n 0, 1) := by decide +kernel
theorem dX6_assign_1 : decode cX6_assign 1 = .ok (.getfield 14, 3) := by decide +kernel
theorem dX6_assign_4 : decode cX6_assign 4 = .ok (.aload_n 1, 1) := by decide +kernel
theorem dX6_assign_5 : decode cX6_assign 5 = .ok (.getfield 14, 3) := by decide +kernel
theorem dX6_assign_8 : decode cX6_assign 8 = .ok (.iconst 0, 1) := by decide +kernel
theorem dX6_assign_9 : decode cX6_assign 9 = .ok (.aload_n 1, 1) := by decide +kernel
theorem dX6_assign_10 : decode cX6_assign 10 = .ok (.getfield 14, 3) := by decide +kernel
theorem dX6_assign_13 : decode cX6_assign 13 = .ok (.invokevirtual 48, 3) := by decide +kernel
theorem dX6_assign_16 : decode cX6_assign 16 = .ok (.invokevirtual 106, 3) := by decide +kernel
theorem dX6_assign_19 : decode cX6_assign 19 = .ok (.aload_n 0, 1) := by decide +kernel
theorem dX6_assign_20 : decode cX6_assign 20 = .ok (.getfield 20, 3) := by decide +kernel
theorem dX6_assign_23 : decode cX6_assign 23 = .ok (.aload_n 1, 1) := by decide +kernel
theorem dX6_assign_24 : decode cX6_assign 24 = .ok (.getfield 20, 3) := by decide +kernel
theorem dX6_assign_27 : decode cX6_assign 27 = .ok (.iconst 0, 1) := by decide +kernel
theorem dX6_assign_28 : decode cX6_assign 28 = .ok (.aload_n 1, 1) := by decide +kernel
theorem dX6_assign_29 : decode cX6_assign 29 = .ok (.getfield 20, 3) := by decide +kernel
theorem dX6_assign_32 : decode cX6_assign 32 = .ok (.invokevirtual 48, 3) := by decide +kernel
theorem dX6_assign_35 : decode cX6_assign 35 = .ok (.invokevirtual 106, 3) := by decide +kernel
theorem dX6_assign_38 : decode cX6_assign 38 = .ok (.aload_n 0, 1) := by decide +kernel
theorem dX6_assign_39 : decode cX6_assign 39 = .ok (.getfield 26, 3) := by decide +kernel
theorem dX6_assign_42 : decode cX6_assign 42 = .ok (.aload_n 1, 1) := by decide +kernel
theorem dX6_assign_43 : decode cX6_assign 43 = .ok (.getfield 26, 3) := by decide +kernel
theorem dX6_assign_46 : decode cX6_assign 46 = .ok (.invokevirtual 157, 3) := by decide +kernel
theorem dX6_assign_49 : decode cX6_assign 49 = .ok (.aload_n 0, 1) := by decide +kernel
theorem dX6_assign_50 : decode cX6_assign 50 = .ok (.getfield 33, 3) := by decide +kernel
theorem dX6_assign_53 : decode cX6_assign 53 = .ok (.aload_n 1, 1) := by decide +kernel
theorem dX6_assign_54 : decode cX6_assign 54 = .ok (.getfield 33, 3) := by decide +kernel
theorem dX6_assign_57 : decode cX6_assign 57 = .ok (.invokevirtual 160, 3) := by decide +kernel
theorem dX6_assign_60 : decode cX6_assign 60 = .ok (.aload_n 0, 1) := by decide +kernel
theorem dX6_assign_61 : decode cX6_assign 61 = .ok (.aload_n 1, 1) := by decide +kernel
theorem dX6_assign_62 : decode cX6_assign 62 = .ok (.getfield 37, 3) := by decide +kernel
theorem dX6_assign_65 : decode cX6_assign 65 = .ok (.putfield 37, 3) := by decide +kernel
theorem dX6_assign_68 : decode cX6_assign 68 = .ok (.aload_n 0, 1) := by decide +kernel
theorem dX6_assign_69 : decode cX6_assign 69 = .ok (.aload_n 1, 1) := by decide +kernel
theorem dX6_assign_70 : decode cX6_assign 70 = .ok (.getfield 41, 3) := by decide +kernel
theorem dX6_assign_73 : decode cX6_assign 73 = .ok (.putfield 41, 3) := by decide +kernel
theorem dX6_assign_76 : decode cX6_assign 76 = .ok (.aload_n 0, 1) := by decide +kernel
theorem dX6_assign_77 : decode cX6_assign 77 = .ok (.aload_n 1, 1) := by decide +kernel
theorem dX6_assign_78 : decode cX6_assign 78 = .ok (.getfield 44, 3) := by decide +kernel
theorem dX6_assign_81 : decode cX6_assign 81 = .ok (.putfield 44, 3) := by decide +kernel
theorem dX6_assign_84 : decode cX6_assign 84 = .ok (.return_, 1) := by decide +kernel
theorem dX7_init_0 : decode cX7_init 0 = .ok (.aload_n 0, 1) := by decide +kernel
theorem dX7_init_1 : decode cX7_init 1 = .ok (.invokespecial 1, 3) := by decide +kernel
theorem dX7_init_4 : decode cX7_init 4 = .ok (.aload_n 0, 1) := by decide +kernel
theorem dX7_init_5 : decode cX7_init 5 = .ok (.new 7, 3) := by decide +kernel
theorem dX7_init_8 : decode cX7_init 8 = .ok (.dup, 1) := by decide +kernel
theorem dX7_init_9 : decode cX7_init 9 = .ok (.invokespecial 9, 3) := by decide +kernel
theorem dX7_init_12 : decode cX7_init 12 = .ok (.putfield 10, 3) := by decide +kernel
theorem dX7_init_15 : decode cX7_init 15 = .ok (.aload_n 0, 1) := by decide +kernel
theorem dX7_init_16 : decode cX7_init 16 = .ok (.new 16, 3) := by decide +kernel
theorem dX7_init_19 : decode cX7_init 19 = .ok (.dup, 1) := by decide +kernel
theorem dX7_init_20 : decode cX7_init 20 = .ok (.invokespecial 18, 3) := by decide +kernel
theorem dX7_init_23 : decode cX7_init 23 = .ok (.putfield 19, 3) := by decide +kernel
theorem dX7_init_26 : decode cX7_init 26 = .ok (.aload_n 0, 1) := by decide +kernel
theorem dX7_init_27 : decode cX7_init 27 = .ok (.new 23, 3) := by decide +kernel
theorem dX7_init_30 : decode cX7_init 30 = .ok (.dup, 1) := by decide +kernel
theorem dX7_init_31 : decode cX7_init 31 = .ok (.invokespecial 25, 3) := by decide +kernel
theorem dX7_init_34 : decode cX7_init 34 = .ok (.putfield 26, 3) := by decide +kernel
theorem dX7_init_37 : decode cX7_init 37 = .ok (.aload_n 0, 1) := by decide +kernel
theorem dX7_init_38 : decode cX7_init 38 = .ok (.new 30, 3) := by decide +kernel
theorem dX7_init_41 : decode cX7_init 41 = .ok (.dup, 1) := by decide +kernel
theorem dX7_init_42 : decode cX7_init 42 = .ok (.invokespecial 32, 3) := by decide +kernel
theorem dX7_init_45 : decode cX7_init 45 = .ok (.putfield 33, 3) := by decide +kernel
theorem dX7_init_48 : decode cX7_init 48 = .ok (.return_, 1) := by decide +kernel
theorem dX7_type_0 : decode cX7_type 0 = .ok (.iload_n 1, 1) := by decide +kernel
theorem dX7_type_1 : decode cX7_type 1 = .ok (.invokestatic 37, 3) := by decide +kernel
theorem dX7_type_4 : decode cX7_type 4 = .ok (.invokestatic 41, 3) := by decide +kernel
theorem dX7_type_7 : decode cX7_type 7 = .ok (.aload_n 0, 1) := by decide +kernel
theorem dX7_type_8 : decode cX7_type 8 = .ok (.getfield 10, 3) := by decide +kernel
theorem dX7_type_11 : decode cX7_type 11 = .ok (.iconst 1, 1) := by decide +kernel
theorem dX7_type_12 : decode cX7_type 12 = .ok (.invokevirtual 45, 3) := by decide +kernel
theorem dX7_type_15 : decode cX7_type 15 = .ok (.ifCond .ne 7, 3) := by decide +kernel
theorem dX7_type_18 : decode cX7_type 18 = .ok (.iconst 1, 1) := by decide +kernel
theorem dX7_type_19 : decode cX7_type 19 = .ok (.goto 4, 3) := by decide +kernel
theorem dX7_type_22 : decode cX7_type 22 = .ok (.iconst 0, 1) := by decide +kernel
theorem dX7_type_23 : decode cX7_type 23 = .ok (.invokestatic 49, 3) := by decide +kernel
theorem dX7_type_26 : decode cX7_type 26 = .ok (.aload_n 0, 1) := by decide +kernel
theorem dX7_type_27 : decode cX7_type 27 = .ok (.getfield 19, 3) := by decide +kernel
theorem dX7_type_30 : decode cX7_type 30 = .ok (.aload_n 0, 1) := by decide +kernel
theorem dX7_type_31 : decode cX7_type 31 = .ok (.getfield 10, 3) := by decide +kernel
theorem dX7_type_34 : decode cX7_type 34 = .ok (.invokevirtual 52, 3) := by decide +kernel
theorem dX7_type_37 : decode cX7_type 37 = .ok (.aload_n 0, 1) := by decide +kernel
theorem dX7_type_38 : decode cX7_type 38 = .ok (.getfield 10, 3) := by decide +kernel
theorem dX7_type_41 : decode cX7_type 41 = .ok (.iload_n 1, 1) := by decide +kernel
theorem dX7_type_42 : decode cX7_type 42 = .ok (.iconst 1, 1) := by decide +kernel
theorem dX7_type_43 : decode cX7_type 43 = .ok (.invokevirtual 56, 3) := by decide +kernel
theorem dX7_type_46 : decode cX7_type 46 = .ok (.aload_n 0, 1) := by decide +kernel
theorem dX7_type_47 : decode cX7_type 47 = .ok (.getfield 10, 3) := by decide +kernel
theorem dX7_type_50 : decode cX7_type 50 = .ok (.getfield 60, 3) := by decide +kernel
theorem dX7_type_53 : decode cX7_type 53 = .ok (.invokevirtual 64, 3) := by decide +kernel
theorem dX7_type_56 : decode cX7_type 56 = .ok (.ireturn, 1) := by decide +kernel
theorem dX7_fill_0 : decode cX7_fill 0 = .ok (.iload_n 1, 1) := by decide +kernel
theorem dX7_fill_1 : decode cX7_fill 1 = .ok (.invokestatic 37, 3) := by decide +kernel
theorem dX7_fill_4 : decode cX7_fill 4 = .ok (.ifCond .eq 14, 3) := by decide +kernel
theorem dX7_fill_7 : decode cX7_fill 7 = .ok (.iload_n 2, 1) := by decide +kernel
theorem dX7_fill_8 : decode cX7_fill 8 = .ok (.invokestatic 70, 3) := by decide +kernel
theorem dX7_fill_11 : decode cX7_fill 11 = .ok (.ifCond .eq 7, 3) := by decide +kernel
theorem dX7_fill_14 : decode cX7_fill 14 = .ok (.iconst 1, 1) := by decide +kernel
theorem dX7_fill_15 : decode cX7_fill 15 = .ok (.goto 4, 3) := by decide +kernel
theorem dX7_fill_18 : decode cX7_fill 18 = .ok (.iconst 0, 1) := by decide +kernel
theorem dX7_fill_19 : decode cX7_fill 19 = .ok (.invokestatic 41, 3) := by decide +kernel
theorem dX7_fill_22 : decode cX7_fill 22 = .ok (.aload_n 0, 1) := by decide +kernel
theorem dX7_fill_23 : decode cX7_fill 23 = .ok (.getfield 10, 3) := by decide +kernel
theorem dX7_fill_26 : decode cX7_fill 26 = .ok (.iload_n 2, 1) := by decide +kernel
theorem dX7_fill_27 : decode cX7_fill 27 = .ok (.invokevirtual 45, 3) := by decide +kernel
theorem dX7_fill_30 : decode cX7_fill 30 = .ok (.ifCond .ne 7, 3) := by decide +kernel
theorem dX7_fill_33 : decode cX7_fill 33 = .ok (.iconst 1, 1) := by decide +kernel
theorem dX7_fill_34 : decode cX7_fill 34 = .ok (.goto 4, 3) := by decide +kernel
theorem dX7_fill_37 : decode cX7_fill 37 = .ok (.iconst 0, 1) := by decide +kernel
theorem dX7_fill_38 : decode cX7_fill 38 = .ok (.invokestatic 49, 3) := by decide +kernel
theorem dX7_fill_41 : decode cX7_fill 41 = .ok (.aload_n 0, 1) := by decide +kernel
theorem dX7_fill_42 : decode cX7_fill 42 = .ok (.getfield 19, 3) := by decide +kernel
theorem dX7_fill_45 : decode cX7_fill 45 = .ok (.aload_n 0, 1) := by decide +kernel
theorem dX7_fill_46 : decode cX7_fill 46 = .ok (.getfield 10, 3) := by decide +kernel
theorem dX7_fill_49 : decode cX7_fill 49 = .ok (.invokevirtual 52, 3) := by decide +kernel
theorem dX7_fill_52 : decode cX7_fill 52 = .ok (.aload_n 0, 1) := by decide +kernel
theorem dX7_fill_53 : decode cX7_fill 53 = .ok (.getfield 10, 3) := by decide +kernel
theorem dX7_fill_56 : decode cX7_fill 56 = .ok (.iload_n 1, 1) := by decide +kernel
theorem dX7_fill_57 : decode cX7_fill 57 = .ok (.iload_n 2, 1) := by decide +kernel
theorem dX7_fill_58 : decode cX7_fill 58 = .ok (.invokevirtual 56, 3) := by decide +kernel
theorem dX7_fill_61 : decode cX7_fill 61 = .ok (.aload_n 0, 1) := by decide +kernel
theorem dX7_fill_62 : decode cX7_fill 62 = .ok (.getfield 10, 3) := by decide +kernel
theorem dX7_fill_65 : decode cX7_fill 65 = .ok (.getfield 60, 3) := by decide +kernel
theorem dX7_fill_68 : decode cX7_fill 68 = .ok (.invokevirtual 64, 3) := by decide +kernel
theorem dX7_fill_71 : decode cX7_fill 71 = .ok (.ireturn, 1) := by decide +kernel
theorem dX7_erase_0 : decode cX7_erase 0 = .ok (.iload_n 1, 1) := by decide +kernel
theorem dX7_erase_1 : decode cX7_erase 1 = .ok (.invokestatic 70, 3) := by decide +kernel
theorem dX7_erase_4 : decode cX7_erase 4 = .ok (.invokestatic 41, 3) := by decide +kernel
theorem dX7_erase_7 : decode cX7_erase 7 = .ok (.aload_n 0, 1) := by decide +kernel
theorem dX7_erase_8 : decode cX7_erase 8 = .ok (.getfield 19, 3) := by decide +kernel
theorem dX7_erase_11 : decode cX7_erase 11 = .ok (.aload_n 0, 1) := by decide +kernel
theorem dX7_erase_12 : decode cX7_erase 12 = .ok (.getfield 10, 3) := by decide +kernel
theorem dX7_erase_15 : decode cX7_erase 15 = .ok (.invokevirtual 52, 3) := by decide +kernel
theorem dX7_erase_18 : decode cX7_erase 18 = .ok (.aload_n 0, 1) := by decide +kernel
theorem dX7_erase_19 : decode cX7_erase 19 = .ok (.getfield 10, 3) := by decide +kernel
theorem dX7_erase_22 : decode cX7_erase 22 = .ok (.iload_n 1, 1) := by decide +kernel
theorem dX7_erase_23 : decode cX7_erase 23 = .ok (.invokevirtual 73, 3) := by decide +kernel
theorem dX7_erase_26 : decode cX7_erase 26 = .ok (.ireturn, 1) := by decide +kernel
theorem dX7_backspace_0 : decode cX7_backspace 0 = .ok (.iload_n 1, 1) := by decide +kernel
theorem dX7_backspace_1 : decode cX7_backspace 1 = .ok (.invokestatic 70, 3) := by decide +kernel
theorem dX7_backspace_4 : decode cX7_backspace 4 = .ok (.invokestatic 41, 3) := by decide +kernel
theorem dX7_backspace_7 : decode cX7_backspace 7 = .ok (.aload_n 0, 1) := by decide +kernel
theorem dX7_backspace_8 : decode cX7_backspace 8 = .ok (.getfield 19, 3) := by decide +kernel
theorem dX7_backspace_11 : decode cX7_backspace 11 = .ok (.aload_n 0, 1) := by decide +kernel
theorem dX7_backspace_12 : decode cX7_backspace 12 = .ok (.getfield 10, 3) := by decide +kernel
theorem dX7_backspace_15 : decode cX7_backspace 15 = .ok (.invokevirtual 52, 3) := by decide +kernel
theorem dX7_backspace_18 : decode cX7_backspace 18 = .ok (.aload_n 0, 1) := by decide +kernel
theorem dX7_backspace_19 : decode cX7_backspace 19 = .ok (.getfield 10, 3) := by decide +kernel
theorem dX7_backspace_22 : decode cX7_backspace 22 = .ok (.iload_n 1, 1) := by decide +kernel
theorem dX7_backspace_23 : decode cX7_backspace 23 = .ok (.invokevirtual 76, 3) := by decide +kernel
theorem dX7_backspace_26 : decode cX7_backspace 26 = .ok (.ireturn, 1) := by decide +kernel
theorem dX7_moveTo_0 : decode cX7_moveTo 0 = .ok (.aload_n 0, 1) := by decide +kernel
theorem dX7_moveTo_1 : decode cX7_moveTo 1 = .ok (.iload_n 1, 1) := by decide +kernel
theorem dX7_moveTo_2 : decode cX7_moveTo 2 = .ok (.invokevirtual 79, 3) := by decide +kernel
theorem dX7_moveTo_5 : decode cX7_moveTo 5 = .ok (.invokestatic 82, 3) := by decide +kernel
theorem dX7_moveTo_8 : decode cX7_moveTo 8 = .ok (.aload_n 0, 1) := by decide +kernel
theorem dX7_moveTo_9 : decode cX7_moveTo 9 = .ok (.getfield 19, 3) := by decide +kernel
theorem dX7_moveTo_12 : decode cX7_moveTo 12 = .ok (.aload_n 0, 1) := by decide +kernel
theorem dX7_moveTo_13 : decode cX7_moveTo 13 = .ok (.getfield 10, 3) := by decide +kernel
theorem dX7_moveTo_16 : decode cX7_moveTo 16 = .ok (.invokevirtual 52, 3) := by decide +kernel
theorem dX7_moveTo_19 : decode cX7_moveTo 19 = .ok (.aload_n 0, 1) := by decide +kernel
theorem dX7_moveTo_20 : decode cX7_moveTo 20 = .ok (.getfield 10, 3) := by decide +kernel
theorem dX7_moveTo_23 : decode cX7_moveTo 23 = .ok (.iload_n 1, 1) := by decide +kernel
theorem dX7_moveTo_24 : decode cX7_moveTo 24 = .ok (.invokevirtual 85, 3) := by decide +kernel
theorem dX7_moveTo_27 : decode cX7_moveTo 27 = .ok (.ireturn, 1) := by decide +kernel
theorem dX7_moveBy_0 : decode cX7_moveBy 0 = .ok (.iload_n 1, 1) := by decide +kernel
theorem dX7_moveBy_1 : decode cX7_moveBy 1 = .ok (.bipush (-100), 2) := by decide +kernel
theorem dX7_moveBy_3 : decode cX7_moveBy 3 = .ok (.if_icmp .lt 13, 3) := by decide +kernel
theorem dX7_moveBy_6 : decode cX7_moveBy 6 = .ok (.iload_n 1, 1) := by decide +kernel
theorem dX7_moveBy_7 : decode cX7_moveBy 7 = .ok (.bipush 100, 2) := by decide +kernel
theorem dX7_moveBy_9 : decode cX7_moveBy 9 = .ok (.if_icmp .gt 7, 3) := by decide +kernel
theorem dX7_moveBy_12 : decode cX7_moveBy 12 = .ok (.iconst 1, 1) := by decide +kernel
theorem dX7_moveBy_13 : decode cX7_moveBy 13 = .ok (.goto 4, 3) := by decide +kernel
theorem dX7_moveBy_16 : decode cX7_moveBy 16 = .ok (.iconst 0, 1) := by decide +kernel
theorem dX7_moveBy_17 : decode cX7_moveBy 17 = .ok (.invokestatic 41, 3) := by decide +kernel
theorem dX7_moveBy_20 : decode cX7_moveBy 20 = .ok (.aload_n 0, 1) := by decide +kernel
theorem dX7_moveBy_21 : decode cX7_moveBy 21 = .ok (.getfield 19, 3) := by decide +kernel
theorem dX7_moveBy_24 : decode cX7_moveBy 24 = .ok (.aload_n 0, 1) := by decide +kernel
theorem dX7_moveBy_25 : decode cX7_moveBy 25 = .ok (.getfield 10, 3) := by decide +kernel
theorem dX7_moveBy_28 : decode cX7_moveBy 28 = .ok (.invokevirtual 52, 3) := by decide +kernel
theorem dX7_moveBy_31 : decode cX7_moveBy 31 = .ok (.aload_n 0, 1) := by decide +kernel
theorem dX7_moveBy_32 : decode cX7_moveBy 32 = .ok (.getfield 10, 3) := by decide +kernel
theorem dX7_moveBy_35 : decode cX7_moveBy 35 = .ok (.iconst 0, 1) := by decide +kernel
theorem dX7_moveBy_36 : decode cX7_moveBy 36 = .ok (.aload_n 0, 1) := by decide +kernel
theorem dX7_moveBy_37 : decode cX7_moveBy 37 = .ok (.getfield 10, 3) := by decide +kernel
theorem dX7_moveBy_40 : decode cX7_moveBy 40 = .ok (.getfield 60, 3) := by decide +kernel
theorem dX7_moveBy_43 : decode cX7_moveBy 43 = .ok (.invokevirtual 64, 3) := by decide +kernel
theorem dX7_moveBy_46 : decode cX7_moveBy 46 = .ok (.aload_n 0, 1) := by decide +kernel
theorem dX7_moveBy_47 : decode cX7_moveBy 47 = .ok (.getfield 10, 3) := by decide +kernel
theorem dX7_moveBy_50 : decode cX7_moveBy 50 = .ok (.getfield 88, 3) := by decide +kernel
theorem dX7_moveBy_53 : decode cX7_moveBy 53 = .ok (.iload_n 1, 1) := by decide +kernel
theorem dX7_moveBy_54 : decode cX7_moveBy 54 = .ok (.iadd, 1) := by decide +kernel
theorem dX7_moveBy_55 : decode cX7_moveBy 55 = .ok (.invokestatic 92, 3) := by decide +kernel
theorem dX7_moveBy_58 : decode cX7_moveBy 58 = .ok (.invokestatic 98, 3) := by decide +kernel
theorem dX7_moveBy_61 : decode cX7_moveBy 61 = .ok (.invokevirtual 85, 3) := by decide +kernel
theorem dX7_moveBy_64 : decode cX7_moveBy 64 = .ok (.pop, 1) := by decide +kernel
theorem dX7_moveBy_65 : decode cX7_moveBy 65 = .ok (.aload_n 0, 1) := by decide +kernel
theorem dX7_moveBy_66 : decode cX7_moveBy 66 = .ok (.getfield 10, 3) := by decide +kernel
theorem dX7_moveBy_69 : decode cX7_moveBy 69 = .ok (.getfield 88, 3) := by decide +kernel
theorem dX7_moveBy_72 : decode cX7_moveBy 72 = .ok (.ireturn, 1) := by decide +kernel
theorem dX7_up_0 : decode cX7_up 0 = .ok (.aload_n 0, 1) := by decide +kernel
theorem dX7_up_1 : decode cX7_up 1 = .ok (.getfield 19, 3) := by decide +kernel
theorem dX7_up_4 : decode cX7_up 4 = .ok (.aload_n 0, 1) := by decide +kernel
theorem dX7_up_5 : decode cX7_up 5 = .ok (.getfield 10, 3) := by decide +kernel
theorem dX7_up_8 : decode cX7_up 8 = .ok (.invokevirtual 52, 3) := by decide +kernel
theorem dX7_up_11 : decode cX7_up 11 = .ok (.aload_n 0, 1) := by decide +kernel
theorem dX7_up_12 : decode cX7_up 12 = .ok (.getfield 10, 3) := by decide +kernel
theorem dX7_up_15 : decode cX7_up 15 = .ok (.invokevirtual 101, 3) := by decide +kernel
theorem dX7_up_18 : decode cX7_up 18 = .ok (.aload_n 0, 1) := by decide +kernel
theorem dX7_up_19 : decode cX7_up 19 = .ok (.getfield 10, 3) := by decide +kernel
theorem dX7_up_22 : decode cX7_up 22 = .ok (.getfield 88, 3) := by decide +kernel
theorem dX7_up_25 : decode cX7_up 25 = .ok (.ireturn, 1) := by decide +kernel
theorem dX7_down_0 : decode cX7_down 0 = .ok (.aload_n 0, 1) := by decide +kernel
theorem dX7_down_1 : decode cX7_down 1 = .ok (.getfield 19, 3) := by decide +kernel
theorem dX7_down_4 : decode cX7_down 4 = .ok (.aload_n 0, 1) := by decide +kernel
theorem dX7_down_5 : decode cX7_down 5 = .ok (.getfield 10, 3) := by decide +kernel
theorem dX7_down_8 : decode cX7_down 8 = .ok (.invokevirtual 52, 3) := by decide +kernel
theorem dX7_down_11 : decode cX7_down 11 = .ok (.aload_n 0, 1) := by decide +kernel
theorem dX7_down_12 : decode cX7_down 12 = .ok (.getfield 10, 3) := by decide +kernel
theorem dX7_down_15 : decode cX7_down 15 = .ok (.invokevirtual 104, 3) := by decide +kernel
theorem dX7_down_18 : decode cX7_down 18 = .ok (.aload_n 0, 1) := by decide +kernel
theorem dX7_down_19 : decode cX7_down 19 = .ok (.getfield 10, 3) := by decide +kernel
theorem dX7_down_22 : decode cX7_down 22 = .ok (.getfield 88, 3) := by decide +kernel
theorem dX7_down_25 : decode cX7_down 25 = .ok (.ireturn, 1) := by decide +kernel
theorem dX7_moveInLine_0 : decode cX7_moveInLine 0 = .ok (.aload_n 0, 1) := by decide +kernel
theorem dX7_moveInLine_1 : decode cX7_moveInLine 1 = .ok (.getfield 19, 3) := by decide +kernel
theorem dX7_moveInLine_4 : decode cX7_moveInLine 4 = .ok (.aload_n 0, 1) := by decide +kernel
theorem dX7_moveInLine_5 : decode cX7_moveInLine 5 = .ok (.getfield 10, 3) := by decide +kernel
theorem dX7_moveInLine_8 : decode cX7_moveInLine 8 = .ok (.invokevirtual 52, 3) := by decide +kernel
theorem dX7_moveInLine_11 : decode cX7_moveInLine 11 = .ok (.aload_n 0, 1) := by decide +kernel
theorem dX7_moveInLine_12 : decode cX7_moveInLine 12 = .ok (.getfield 10, 3) := by decide +kernel
theorem dX7_moveInLine_15 : decode cX7_moveInLine 15 = .ok (.getfield 60, 3) := by decide +kernel
theorem dX7_moveInLine_18 : decode cX7_moveInLine 18 = .ok (.aload_n 0, 1) := by decide +kernel
theorem dX7_moveInLine_19 : decode cX7_moveInLine 19 = .ok (.getfield 10, 3) := by decide +kernel
theorem dX7_moveInLine_22 : decode cX7_moveInLine 22 = .ok (.getfield 88, 3) := by decide +kernel
theorem dX7_moveInLine_25 : decode cX7_moveInLine 25 = .ok (.invokevirtual 107, 3) := by decide +kernel
theorem dX7_moveInLine_28 : decode cX7_moveInLine 28 = .ok (.istore_n 2, 1) := by decide +kernel
theorem dX7_moveInLine_29 : decode cX7_moveInLine 29 = .ok (.aload_n 0, 1) := by decide +kernel
theorem dX7_moveInLine_30 : decode cX7_moveInLine 30 = .ok (.getfield 10, 3) := by decide +kernel
theorem dX7_moveInLine_33 : decode cX7_moveInLine 33 = .ok (.getfield 60, 3) := by decide +kernel
theorem dX7_moveInLine_36 : decode cX7_moveInLine 36 = .ok (.aload_n 0, 1) := by decide +kernel
theorem dX7_moveInLine_37 : decode cX7_moveInLine 37 = .ok (.getfield 10, 3) := by decide +kernel
theorem dX7_moveInLine_40 : decode cX7_moveInLine 40 = .ok (.getfield 88, 3) := by decide +kernel
theorem dX7_moveInLine_43 : decode cX7_moveInLine 43 = .ok (.invokevirtual 110, 3) := by decide +kernel
theorem dX7_moveInLine_46 : decode cX7_moveInLine 46 = .ok (.istore_n 3, 1) := by decide +kernel
theorem dX7_moveInLine_47 : decode cX7_moveInLine 47 = .ok (.aload_n 0, 1) := by decide +kernel
theorem dX7_moveInLine_48 : decode cX7_moveInLine 48 = .ok (.getfield 10, 3) := by decide +kernel
theorem dX7_moveInLine_51 : decode cX7_moveInLine 51 = .ok (.iload_n 1, 1) := by decide +kernel
theorem dX7_moveInLine_52 : decode cX7_moveInLine 52 = .ok (.ifCond .eq 7, 3) := by decide +kernel
theorem dX7_moveInLine_55 : decode cX7_moveInLine 55 = .ok (.iload_n 3, 1) := by decide +kernel
theorem dX7_moveInLine_56 : decode cX7_moveInLine 56 = .ok (.goto 4, 3) := by decide +kernel
theorem dX7_moveInLine_59 : decode cX7_moveInLine 59 = .ok (.iload_n 2, 1) := by decide +kernel
theorem dX7_moveInLine_60 : decode cX7_moveInLine 60 = .ok (.invokevirtual 85, 3) := by decide +kernel
theorem dX7_moveInLine_63 : decode cX7_moveInLine 63 = .ok (.pop, 1) := by decide +kernel
theorem dX7_moveInLine_64 : decode cX7_moveInLine 64 = .ok (.aload_n 0, 1) := by decide +kernel
theorem dX7_moveInLine_65 : decode cX7_moveInLine 65 = .ok (.getfield 10, 3) := by decide +kernel
theorem dX7_moveInLine_68 : decode cX7_moveInLine 68 = .ok (.getfield 88, 3) := by decide +kernel
theorem dX7_moveInLine_71 : decode cX7_moveInLine 71 = .ok (.ireturn, 1) := by decide +kernel
theorem dX7_setEager_0 : decode cX7_setEager 0 = .ok (.aload_n 0, 1) := by decide +kernel
theorem dX7_setEager_1 : decode cX7_setEager 1 = .ok (.getfield 19, 3) := by decide +kernel
theorem dX7_setEager_4 : decode cX7_setEager 4 = .ok (.aload_n 0, 1) := by decide +kernel
theorem dX7_setEager_5 : decode cX7_setEager 5 = .ok (.getfield 10, 3) := by decide +kernel
theorem dX7_setEager_8 : decode cX7_setEager 8 = .ok (.invokevirtual 52, 3) := by decide +kernel
theorem dX7_setEager_11 : decode cX7_setEager 11 = .ok (.aload_n 0, 1) := by decide +kernel
theorem dX7_setEager_12 : decode cX7_setEager 12 = .ok (.getfield 10, 3) := by decide +kernel
theorem dX7_setEager_15 : decode cX7_setEager 15 = .ok (.iload_n 1, 1) := by decide +kernel
theorem dX7_setEager_16 : decode cX7_setEager 16 = .ok (.putfield 113, 3) := by decide +kernel
theorem dX7_setEager_19 : decode cX7_setEager 19 = .ok (.aload_n 0, 1) := by decide +kernel
theorem dX7_setEager_20 : decode cX7_setEager 20 = .ok (.getfield 10, 3) := by decide +kernel
theorem dX7_setEager_23 : decode cX7_setEager 23 = .ok (.invokevirtual 117, 3) := by decide +kernel
theorem dX7_setEager_26 : decode cX7_setEager 26 = .ok (.ireturn, 1) := by decide +kernel
theorem dX7_setMark_0 : decode cX7_setMark 0 = .ok (.iload_n 1, 1) := by decide +kernel
theorem dX7_setMark_1 : decode cX7_setMark 1 = .ok (.invokestatic 120, 3) := by decide +kernel
theorem dX7_setMark_4 : decode cX7_setMark 4 = .ok (.invokestatic 82, 3) := by decide +kernel
theorem dX7_setMark_7 : decode cX7_setMark 7 = .ok (.iload_n 2, 1) := by decide +kernel
theorem dX7_setMark_8 : decode cX7_setMark 8 = .ok (.ifCond .eq 8, 3) := by decide +kernel
theorem dX7_setMark_11 : decode cX7_setMark 11 = .ok (.iload_n 2, 1) := by decide +kernel
theorem dX7_setMark_12 : decode cX7_setMark 12 = .ok (.iconst 1, 1) := by decide +kernel
theorem dX7_setMark_13 : decode cX7_setMark 13 = .ok (.if_icmp .ne 7, 3) := by decide +kernel
theorem dX7_setMark_16 : decode cX7_setMark 16 = .ok (.iconst 1, 1) := by decide +kernel
theorem dX7_setMark_17 : decode cX7_setMark 17 = .ok (.goto 4, 3) := by decide +kernel
theorem dX7_setMark_20 : decode cX7_setMark 20 = .ok (.iconst 0, 1) := by decide +kernel
theorem dX7_setMark_21 : decode cX7_setMark 21 = .ok (.invokestatic 41, 3) := by decide +kernel
theorem dX7_setMark_24 : decode cX7_setMark 24 = .ok (.aload_n 0, 1) := by decide +kernel
theorem dX7_setMark_25 : decode cX7_setMark 25 = .ok (.getfield 19, 3) := by decide +kernel
theorem dX7_setMark_28 : decode cX7_setMark 28 = .ok (.aload_n 0, 1) := by decide +kernel
theorem dX7_setMark_29 : decode cX7_setMark 29 = .ok (.getfield 10, 3) := by decide +kernel
theorem dX7_setMark_32 : decode cX7_setMark 32 = .ok (.invokevirtual 52, 3) := by decide +kernel
theorem dX7_setMark_35 : decode cX7_setMark 35 = .ok (.aload_n 0, 1) := by decide +kernel
theorem dX7_setMark_36 : decode cX7_setMark 36 = .ok (.getfield 10, 3) := by decide +kernel
theorem dX7_setMark_39 : decode cX7_setMark 39 = .ok (.getfield 123, 3) := by decide +kernel
theorem dX7_setMark_42 : decode cX7_setMark 42 = .ok (.iload_n 1, 1) := by decide +kernel
theorem dX7_setMark_43 : decode cX7_setMark 43 = .ok (.invokevirtual 127, 3) := by decide +kernel
theorem dX7_setMark_46 : decode cX7_setMark 46 = .ok (.istore_n 3, 1) := by decide +kernel
theorem dX7_setMark_47 : decode cX7_setMark 47 = .ok (.aload_n 0, 1) := by decide +kernel
theorem dX7_setMark_48 : decode cX7_setMark 48 = .ok (.getfield 10, 3) := by decide +kernel
theorem dX7_setMark_51 : decode cX7_setMark 51 = .ok (.getfield 123, 3) := by decide +kernel
theorem dX7_setMark_54 : decode cX7_setMark 54 = .ok (.iload_n 1, 1) := by decide +kernel
theorem dX7_setMark_55 : decode cX7_setMark 55 = .ok (.aload_n 0, 1) := by decide +kernel
theorem dX7_setMark_56 : decode cX7_setMark 56 = .ok (.getfield 10, 3) := by decide +kernel
theorem dX7_setMark_59 : decode cX7_setMark 59 = .ok (.getfield 88, 3) := by decide +kernel
theorem dX7_setMark_62 : decode cX7_setMark 62 = .ok (.iload_n 2, 1) := by decide +kernel
theorem dX7_setMark_63 : decode cX7_setMark 63 = .ok (.invokevirtual 132, 3) := by decide +kernel
theorem dX7_setMark_66 : decode cX7_setMark 66 = .ok (.iload_n 3, 1) := by decide +kernel
theorem dX7_setMark_67 : decode cX7_setMark 67 = .ok (.ireturn, 1) := by decide +kernel
theorem dX7_copy_0 : decode cX7_copy 0 = .ok (.iload_n 1, 1) := by decide +kernel
theorem dX7_copy_1 : decode cX7_copy 1 = .ok (.invokestatic 120, 3) := by decide +kernel
theorem dX7_copy_4 : decode cX7_copy 4 = .ok (.invokestatic 82, 3) := by decide +kernel
theorem dX7_copy_7 : decode cX7_copy 7 = .ok (.aload_n 0, 1) := by decide +kernel
theorem dX7_copy_8 : decode cX7_copy 8 = .ok (.getfield 10, 3) := by decide +kernel
theorem dX7_copy_11 : decode cX7_copy 11 = .ok (.iload_n 1, 1) := by decide +kernel
theorem dX7_copy_12 : decode cX7_copy 12 = .ok (.invokevirtual 136, 3) := by decide +kernel
theorem dX7_copy_15 : decode cX7_copy 15 = .ok (.ifCond .ne 7, 3) := by decide +kernel
theorem dX7_copy_18 : decode cX7_copy 18 = .ok (.iconst 1, 1) := by decide +kernel
theorem dX7_copy_19 : decode cX7_copy 19 = .ok (.goto 4, 3) := by decide +kernel
theorem dX7_copy_22 : decode cX7_copy 22 = .ok (.iconst 0, 1) := by decide +kernel
theorem dX7_copy_23 : decode cX7_copy 23 = .ok (.invokestatic 49, 3) := by decide +kernel
theorem dX7_copy_26 : decode cX7_copy 26 = .ok (.aload_n 0, 1) := by decide +kernel
theorem dX7_copy_27 : decode cX7_copy 27 = .ok (.getfield 19, 3) := by decide +kernel
theorem dX7_copy_30 : decode cX7_copy 30 = .ok (.aload_n 0, 1) := by decide +kernel
theorem dX7_copy_31 : decode cX7_copy 31 = .ok (.getfield 10, 3) := by decide +kernel
theorem dX7_copy_34 : decode cX7_copy 34 = .ok (.invokevirtual 52, 3) := by decide +kernel
theorem dX7_copy_37 : decode cX7_copy 37 = .ok (.aload_n 0, 1) := by decide +kernel
theorem dX7_copy_38 : decode cX7_copy 38 = .ok (.getfield 10, 3) := by decide +kernel
theorem dX7_copy_41 : decode cX7_copy 41 = .ok (.iload_n 1, 1) := by decide +kernel
theorem dX7_copy_42 : decode cX7_copy 42 = .ok (.invokevirtual 139, 3) := by decide +kernel
theorem dX7_copy_45 : decode cX7_copy 45 = .ok (.aload_n 0, 1) := by decide +kernel
theorem dX7_copy_46 : decode cX7_copy 46 = .ok (.getfield 10, 3) := by decide +kernel
theorem dX7_copy_49 : decode cX7_copy 49 = .ok (.getfield 143, 3) := by decide +kernel
theorem dX7_copy_52 : decode cX7_copy 52 = .ok (.invokevirtual 64, 3) := by decide +kernel
theorem dX7_copy_55 : decode cX7_copy 55 = .ok (.ireturn, 1) := by decide +kernel
theorem dX7_cut_0 : decode cX7_cut 0 = .ok (.iload_n 1, 1) := by decide +kernel
theorem dX7_cut_1 : decode cX7_cut 1 = .ok (.invokestatic 120, 3) := by decide +kernel
theorem dX7_cut_4 : decode cX7_cut 4 = .ok (.invokestatic 82, 3) := by decide +kernel
theorem dX7_cut_7 : decode cX7_cut 7 = .ok (.aload_n 0, 1) := by decide +kernel
theorem dX7_cut_8 : decode cX7_cut 8 = .ok (.getfield 10, 3) := by decide +kernel
theorem dX7_cut_11 : decode cX7_cut 11 = .ok (.iload_n 1, 1) := by decide +kernel
theorem dX7_cut_12 : decode cX7_cut 12 = .ok (.invokevirtual 136, 3) := by decide +kernel
theorem dX7_cut_15 : decode cX7_cut 15 = .ok (.ifCond .ne 7, 3) := by decide +kernel
theorem dX7_cut_18 : decode cX7_cut 18 = .ok (.iconst 1, 1) := by decide +kernel
theorem dX7_cut_19 : decode cX7_cut 19 = .ok (.goto 4, 3) := by decide +kernel
theorem dX7_cut_22 : decode cX7_cut 22 = .ok (.iconst 0, 1) := by decide +kernel
theorem dX7_cut_23 : decode cX7_cut 23 = .ok (.invokestatic 49, 3) := by decide +kernel
theorem dX7_cut_26 : decode cX7_cut 26 = .ok (.aload_n 0, 1) := by decide +kernel
theorem dX7_cut_27 : decode cX7_cut 27 = .ok (.getfield 19, 3) := by decide +kernel
theorem dX7_cut_30 : decode cX7_cut 30 = .ok (.aload_n 0, 1) := by decide +kernel
theorem dX7_cut_31 : decode cX7_cut 31 = .ok (.getfield 10, 3) := by decide +kernel
theorem dX7_cut_34 : decode cX7_cut 34 = .ok (.invokevirtual 52, 3) := by decide +kernel
theorem dX7_cut_37 : decode cX7_cut 37 = .ok (.aload_n 0, 1) := by decide +kernel
theorem dX7_cut_38 : decode cX7_cut 38 = .ok (.getfield 10, 3) := by decide +kernel
theorem dX7_cut_41 : decode cX7_cut 41 = .ok (.iload_n 1, 1) := by decide +kernel
theorem dX7_cut_42 : decode cX7_cut 42 = .ok (.invokevirtual 146, 3) := by decide +kernel
theorem dX7_cut_45 : decode cX7_cut 45 = .ok (.aload_n 0, 1) := by decide +kernel
theorem dX7_cut_46 : decode cX7_cut 46 = .ok (.getfield 10, 3) := by decide +kernel
theorem dX7_cut_49 : decode cX7_cut 49 = .ok (.getfield 143, 3) := by decide +kernel
theorem dX7_cut_52 : decode cX7_cut 52 = .ok (.invokevirtual 64, 3) := by decide +kernel
theorem dX7_cut_55 : decode cX7_cut 55 = .ok (.ireturn, 1) := by decide +kernel
theorem dX7_paste_0 : decode cX7_paste 0 = .ok (.aload_n 0, 1) := by decide +kernel
theorem dX7_paste_1 : decode cX7_paste 1 = .ok (.getfield 10, 3) := by decide +kernel
theorem dX7_paste_4 : decode cX7_paste 4 = .ok (.invokevirtual 149, 3) := by decide +kernel
theorem dX7_paste_7 : decode cX7_paste 7 = .ok (.ifCond .ne 7, 3) := by decide +kernel
theorem dX7_paste_10 : decode cX7_paste 10 = .ok (.iconst 1, 1) := by decide +kernel
theorem dX7_paste_11 : decode cX7_paste 11 = .ok (.goto 4, 3) := by decide +kernel
theorem dX7_paste_14 : decode cX7_paste 14 = .ok (.iconst 0, 1) := by decide +kernel
theorem dX7_paste_15 : decode cX7_paste 15 = .ok (.invokestatic 49, 3) := by decide +kernel
theorem dX7_paste_18 : decode cX7_paste 18 = .ok (.aload_n 0, 1) := by decide +kernel
theorem dX7_paste_19 : decode cX7_paste 19 = .ok (.getfield 19, 3) := by decide +kernel
theorem dX7_paste_22 : decode cX7_paste 22 = .ok (.aload_n 0, 1) := by decide +kernel
theorem dX7_paste_23 : decode cX7_paste 23 = .ok (.getfield 10, 3) := by decide +kernel
theorem dX7_paste_26 : decode cX7_paste 26 = .ok (.invokevirtual 52, 3) := by decide +kernel
theorem dX7_paste_29 : decode cX7_paste 29 = .ok (.aload_n 0, 1) := by decide +kernel
theorem dX7_paste_30 : decode cX7_paste 30 = .ok (.getfield 10, 3) := by decide +kernel
theorem dX7_paste_33 : decode cX7_paste 33 = .ok (.aload_n 0, 1) := by decide +kernel
theorem dX7_paste_34 : decode cX7_paste 34 = .ok (.getfield 10, 3) := by decide +kernel
theorem dX7_paste_37 : decode cX7_paste 37 = .ok (.getfield 143, 3) := by decide +kernel
theorem dX7_paste_40 : decode cX7_paste 40 = .ok (.iconst 0, 1) := by decide +kernel
theorem dX7_paste_41 : decode cX7_paste 41 = .ok (.aload_n 0, 1) := by decide +kernel
theorem dX7_paste_42 : decode cX7_paste 42 = .ok (.getfield 10, 3) := by decide +kernel
theorem dX7_paste_45 : decode cX7_paste 45 = .ok (.getfield 143, 3) := by decide +kernel
theorem dX7_paste_48 : decode cX7_paste 48 = .ok (.invokevirtual 64, 3) := by decide +kernel
theorem dX7_paste_51 : decode cX7_paste 51 = .ok (.invokevirtual 152, 3) := by decide +kernel
theorem dX7_paste_54 : decode cX7_paste 54 = .ok (.aload_n 0, 1) := by decide +kernel
theorem dX7_paste_55 : decode cX7_paste 55 = .ok (.getfield 10, 3) := by decide +kernel
theorem dX7_paste_58 : decode cX7_paste 58 = .ok (.getfield 60, 3) := by decide +kernel
theorem dX7_paste_61 : decode cX7_paste 61 = .ok (.invokevirtual 64, 3) := by decide +kernel
theorem dX7_paste_64 : decode cX7_paste 64 = .ok (.ireturn, 1) := by decide +kernel
theorem dX7_mark_0 : decode cX7_mark 0 = .ok (.iload_n 1, 1) := by decide +kernel
theorem dX7_mark_1 : decode cX7_mark 1 = .ok (.invokestatic 120, 3) := by decide +kernel
theorem dX7_mark_4 : decode cX7_mark 4 = .ok (.invokestatic 82, 3) := by decide +kernel
theorem dX7_mark_7 : decode cX7_mark 7 = .ok (.aload_n 0, 1) := by decide +kernel
theorem dX7_mark_8 : decode cX7_mark 8 = .ok (.getfield 10, 3) := by decide +kernel
theorem dX7_mark_11 : decode cX7_mark 11 = .ok (.getfield 123, 3) := by decide +kernel
theorem dX7_mark_14 : decode cX7_mark 14 = .ok (.iload_n 1, 1) := by decide +kernel
theorem dX7_mark_15 : decode cX7_mark 15 = .ok (.invokevirtual 127, 3) := by decide +kernel
theorem dX7_mark_18 : decode cX7_mark 18 = .ok (.ireturn, 1) := by decide +kernel
theorem dX7_clip_0 : decode cX7_clip 0 = .ok (.iload_n 1, 1) := by decide +kernel
theorem dX7_clip_1 : decode cX7_clip 1 = .ok (.ifCond .lt 7, 3) := by decide +kernel
theorem dX7_clip_4 : decode cX7_clip 4 = .ok (.iconst 1, 1) := by decide +kernel
theorem dX7_clip_5 : decode cX7_clip 5 = .ok (.goto 4, 3) := by decide +kernel
theorem dX7_clip_8 : decode cX7_clip 8 = .ok (.iconst 0, 1) := by decide +kernel
theorem dX7_clip_9 : decode cX7_clip 9 = .ok (.invokestatic 82, 3) := by decide +kernel
theorem dX7_clip_12 : decode cX7_clip 12 = .ok (.aload_n 0, 1) := by decide +kernel
theorem dX7_clip_13 : decode cX7_clip 13 = .ok (.getfield 10, 3) := by decide +kernel
theorem dX7_clip_16 : decode cX7_clip 16 = .ok (.getfield 143, 3) := by decide +kernel
theorem dX7_clip_19 : decode cX7_clip 19 = .ok (.iload_n 1, 1) := by decide +kernel
theorem dX7_clip_20 : decode cX7_clip 20 = .ok (.invokevirtual 156, 3) := by decide +kernel
theorem dX7_clip_23 : decode cX7_clip 23 = .ok (.ireturn, 1) := by decide +kernel
theorem dX7_find_0 : decode cX7_find 0 = .ok (.aload_n 0, 1) := by decide +kernel
theorem dX7_find_1 : decode cX7_find 1 = .ok (.iload_n 1, 1) := by decide +kernel
theorem dX7_find_2 : decode cX7_find 2 = .ok (.invokevirtual 79, 3) := by decide +kernel
theorem dX7_find_5 : decode cX7_find 5 = .ok (.invokestatic 82, 3) := by decide +kernel
theorem dX7_find_8 : decode cX7_find 8 = .ok (.aload_n 0, 1) := by decide +kernel
theorem dX7_find_9 : decode cX7_find 9 = .ok (.getfield 10, 3) := by decide +kernel
theorem dX7_find_12 : decode cX7_find 12 = .ok (.getfield 60, 3) := by decide +kernel
theorem dX7_find_15 : decode cX7_find 15 = .ok (.aload_n 0, 1) := by decide +kernel
theorem dX7_find_16 : decode cX7_find 16 = .ok (.getfield 10, 3) := by decide +kernel
theorem dX7_find_19 : decode cX7_find 19 = .ok (.getfield 143, 3) := by decide +kernel
theorem dX7_find_22 : decode cX7_find 22 = .ok (.iload_n 1, 1) := by decide +kernel
theorem dX7_find_23 : decode cX7_find 23 = .ok (.invokevirtual 159, 3) := by decide +kernel
theorem dX7_find_26 : decode cX7_find 26 = .ok (.ireturn, 1) := by decide +kernel
theorem dX7_length_0 : decode cX7_length 0 = .ok (.aload_n 0, 1) := by decide +kernel
theorem dX7_length_1 : decode cX7_length 1 = .ok (.getfield 10, 3) := by decide +kernel
theorem dX7_length_4 : decode cX7_length 4 = .ok (.getfield 60, 3) := by decide +kernel
theorem dX7_length_7 : decode cX7_length 7 = .ok (.invokevirtual 64, 3) := by decide +kernel
theorem dX7_length_10 : decode cX7_length 10 = .ok (.ireturn, 1) := by decide +kernel
theorem dX7_caret_0 : decode cX7_caret 0 = .ok (.aload_n 0, 1) := by decide +kernel
theorem dX7_caret_1 : decode cX7_caret 1 = .ok (.getfield 10, 3) := by decide +kernel
theorem dX7_caret_4 : decode cX7_caret 4 = .ok (.getfield 88, 3) := by decide +kernel
theorem dX7_caret_7 : decode cX7_caret 7 = .ok (.ireturn, 1) := by decide +kernel
theorem dX7_byteAt_0 : decode cX7_byteAt 0 = .ok (.iload_n 1, 1) := by decide +kernel
theorem dX7_byteAt_1 : decode cX7_byteAt 1 = .ok (.ifCond .lt 21, 3) := by decide +kernel
theorem dX7_byteAt_4 : decode cX7_byteAt 4 = .ok (.iload_n 1, 1) := by decide +kernel
theorem dX7_byteAt_5 : decode cX7_byteAt 5 = .ok (.aload_n 0, 1) := by decide +kernel
theorem dX7_byteAt_6 : decode cX7_byteAt 6 = .ok (.getfield 10, 3) := by decide +kernel
theorem dX7_byteAt_9 : decode cX7_byteAt 9 = .ok (.getfield 60, 3) := by decide +kernel
theorem dX7_byteAt_12 : decode cX7_byteAt 12 = .ok (.invokevirtual 64, 3) := by decide +kernel
theorem dX7_byteAt_15 : decode cX7_byteAt 15 = .ok (.if_icmp .ge 7, 3) := by decide +kernel
theorem dX7_byteAt_18 : decode cX7_byteAt 18 = .ok (.iconst 1, 1) := by decide +kernel
theorem dX7_byteAt_19 : decode cX7_byteAt 19 = .ok (.goto 4, 3) := by decide +kernel
theorem dX7_byteAt_22 : decode cX7_byteAt 22 = .ok (.iconst 0, 1) := by decide +kernel
theorem dX7_byteAt_23 : decode cX7_byteAt 23 = .ok (.invokestatic 82, 3) := by decide +kernel
theorem dX7_byteAt_26 : decode cX7_byteAt 26 = .ok (.aload_n 0, 1) := by decide +kernel
theorem dX7_byteAt_27 : decode cX7_byteAt 27 = .ok (.getfield 10, 3) := by decide +kernel
theorem dX7_byteAt_30 : decode cX7_byteAt 30 = .ok (.getfield 60, 3) := by decide +kernel
theorem dX7_byteAt_33 : decode cX7_byteAt 33 = .ok (.iload_n 1, 1) := by decide +kernel
theorem dX7_byteAt_34 : decode cX7_byteAt 34 = .ok (.invokevirtual 156, 3) := by decide +kernel
theorem dX7_byteAt_37 : decode cX7_byteAt 37 = .ok (.ireturn, 1) := by decide +kernel
theorem dX7_lines_0 : decode cX7_lines 0 = .ok (.aload_n 0, 1) := by decide +kernel
theorem dX7_lines_1 : decode cX7_lines 1 = .ok (.getfield 10, 3) := by decide +kernel
theorem dX7_lines_4 : decode cX7_lines 4 = .ok (.getfield 60, 3) := by decide +kernel
theorem dX7_lines_7 : decode cX7_lines 7 = .ok (.invokevirtual 163, 3) := by decide +kernel
theorem dX7_lines_10 : decode cX7_lines 10 = .ok (.ireturn, 1) := by decide +kernel
theorem dX7_lineOf_0 : decode cX7_lineOf 0 = .ok (.aload_n 0, 1) := by decide +kernel
theorem dX7_lineOf_1 : decode cX7_lineOf 1 = .ok (.iload_n 1, 1) := by decide +kernel
theorem dX7_lineOf_2 : decode cX7_lineOf 2 = .ok (.invokevirtual 79, 3) := by decide +kernel
theorem dX7_lineOf_5 : decode cX7_lineOf 5 = .ok (.invokestatic 82, 3) := by decide +kernel
theorem dX7_lineOf_8 : decode cX7_lineOf 8 = .ok (.aload_n 0, 1) := by decide +kernel
theorem dX7_lineOf_9 : decode cX7_lineOf 9 = .ok (.getfield 10, 3) := by decide +kernel
theorem dX7_lineOf_12 : decode cX7_lineOf 12 = .ok (.getfield 60, 3) := by decide +kernel
theorem dX7_lineOf_15 : decode cX7_lineOf 15 = .ok (.iload_n 1, 1) := by decide +kernel
theorem dX7_lineOf_16 : decode cX7_lineOf 16 = .ok (.invokevirtual 166, 3) := by decide +kernel
theorem dX7_lineOf_19 : decode cX7_lineOf 19 = .ok (.ireturn, 1) := by decide +kernel
theorem dX7_columnOf_0 : decode cX7_columnOf 0 = .ok (.aload_n 0, 1) := by decide +kernel
theorem dX7_columnOf_1 : decode cX7_columnOf 1 = .ok (.iload_n 1, 1) := by decide +kernel
theorem dX7_columnOf_2 : decode cX7_columnOf 2 = .ok (.invokevirtual 79, 3) := by decide +kernel
theorem dX7_columnOf_5 : decode cX7_columnOf 5 = .ok (.invokestatic 82, 3) := by decide +kernel
theorem dX7_columnOf_8 : decode cX7_columnOf 8 = .ok (.iload_n 1, 1) := by decide +kernel
theorem dX7_columnOf_9 : decode cX7_columnOf 9 = .ok (.aload_n 0, 1) := by decide +kernel
theorem dX7_columnOf_10 : decode cX7_columnOf 10 = .ok (.getfield 10, 3) := by decide +kernel
theorem dX7_columnOf_13 : decode cX7_columnOf 13 = .ok (.getfield 60, 3) := by decide +kernel
theorem dX7_columnOf_16 : decode cX7_columnOf 16 = .ok (.iload_n 1, 1) := by decide +kernel
theorem dX7_columnOf_17 : decode cX7_columnOf 17 = .ok (.invokevirtual 107, 3) := by decide +kernel
theorem dX7_columnOf_20 : decode cX7_columnOf 20 = .ok (.isub, 1) := by decide +kernel
theorem dX7_columnOf_21 : decode cX7_columnOf 21 = .ok (.ireturn, 1) := by decide +kernel
theorem dX7_lineStart_0 : decode cX7_lineStart 0 = .ok (.aload_n 0, 1) := by decide +kernel
theorem dX7_lineStart_1 : decode cX7_lineStart 1 = .ok (.iload_n 1, 1) := by decide +kernel
theorem dX7_lineStart_2 : decode cX7_lineStart 2 = .ok (.invokevirtual 169, 3) := by decide +kernel
theorem dX7_lineStart_5 : decode cX7_lineStart 5 = .ok (.invokestatic 82, 3) := by decide +kernel
theorem dX7_lineStart_8 : decode cX7_lineStart 8 = .ok (.aload_n 0, 1) := by decide +kernel
theorem dX7_lineStart_9 : decode cX7_lineStart 9 = .ok (.getfield 10, 3) := by decide +kernel
theorem dX7_lineStart_12 : decode cX7_lineStart 12 = .ok (.getfield 60, 3) := by decide +kernel
theorem dX7_lineStart_15 : decode cX7_lineStart 15 = .ok (.iload_n 1, 1) := by decide +kernel
theorem dX7_lineStart_16 : decode cX7_lineStart 16 = .ok (.invokevirtual 172, 3) := by decide +kernel
theorem dX7_lineStart_19 : decode cX7_lineStart 19 = .ok (.ireturn, 1) := by decide +kernel
theorem dX7_lineLength_0 : decode cX7_lineLength 0 = .ok (.aload_n 0, 1) := by decide +kernel
theorem dX7_lineLength_1 : decode cX7_lineLength 1 = .ok (.iload_n 1, 1) := by decide +kernel
theorem dX7_lineLength_2 : decode cX7_lineLength 2 = .ok (.invokevirtual 169, 3) := by decide +kernel
theorem dX7_lineLength_5 : decode cX7_lineLength 5 = .ok (.invokestatic 82, 3) := by decide +kernel
theorem dX7_lineLength_8 : decode cX7_lineLength 8 = .ok (.aload_n 0, 1) := by decide +kernel
theorem dX7_lineLength_9 : decode cX7_lineLength 9 = .ok (.getfield 10, 3) := by decide +kernel
theorem dX7_lineLength_12 : decode cX7_lineLength 12 = .ok (.getfield 60, 3) := by decide +kernel
theorem dX7_lineLength_15 : decode cX7_lineLength 15 = .ok (.iload_n 1, 1) := by decide +kernel
theorem dX7_lineLength_16 : decode cX7_lineLength 16 = .ok (.invokevirtual 172, 3) := by decide +kernel
theorem dX7_lineLength_19 : decode cX7_lineLength 19 = .ok (.istore_n 2, 1) := by decide +kernel
theorem dX7_lineLength_20 : decode cX7_lineLength 20 = .ok (.aload_n 0, 1) := by decide +kernel
theorem dX7_lineLength_21 : decode cX7_lineLength 21 = .ok (.getfield 10, 3) := by decide +kernel
theorem dX7_lineLength_24 : decode cX7_lineLength 24 = .ok (.getfield 60, 3) := by decide +kernel
theorem dX7_lineLength_27 : decode cX7_lineLength 27 = .ok (.iload_n 2, 1) := by decide +kernel
theorem dX7_lineLength_28 : decode cX7_lineLength 28 = .ok (.invokevirtual 110, 3) := by decide +kernel
theorem dX7_lineLength_31 : decode cX7_lineLength 31 = .ok (.iload_n 2, 1) := by decide +kernel
theorem dX7_lineLength_32 : decode cX7_lineLength 32 = .ok (.isub, 1) := by decide +kernel
theorem dX7_lineLength_33 : decode cX7_lineLength 33 = .ok (.ireturn, 1) := by decide +kernel
theorem dX7_capacity_0 : decode cX7_capacity 0 = .ok (.aload_n 0, 1) := by decide +kernel
theorem dX7_capacity_1 : decode cX7_capacity 1 = .ok (.getfield 10, 3) := by decide +kernel
theorem dX7_capacity_4 : decode cX7_capacity 4 = .ok (.getfield 175, 3) := by decide +kernel
theorem dX7_capacity_7 : decode cX7_capacity 7 = .ok (.getfield 178, 3) := by decide +kernel
theorem dX7_capacity_10 : decode cX7_capacity 10 = .ok (.ireturn, 1) := by decide +kernel
theorem dX7_gapStart_0 : decode cX7_gapStart 0 = .ok (.aload_n 0, 1) := by decide +kernel
theorem dX7_gapStart_1 : decode cX7_gapStart 1 = .ok (.getfield 10, 3) := by decide +kernel
theorem dX7_gapStart_4 : decode cX7_gapStart 4 = .ok (.getfield 175, 3) := by decide +kernel
theorem dX7_gapStart_7 : decode cX7_gapStart 7 = .ok (.getfield 181, 3) := by decide +kernel
theorem dX7_gapStart_10 : decode cX7_gapStart 10 = .ok (.ireturn, 1) := by decide +kernel
theorem dX7_cell_0 : decode cX7_cell 0 = .ok (.iload_n 1, 1) := by decide +kernel
theorem dX7_cell_1 : decode cX7_cell 1 = .ok (.ifCond .lt 21, 3) := by decide +kernel
theorem dX7_cell_4 : decode cX7_cell 4 = .ok (.iload_n 1, 1) := by decide +kernel
theorem dX7_cell_5 : decode cX7_cell 5 = .ok (.aload_n 0, 1) := by decide +kernel
theorem dX7_cell_6 : decode cX7_cell 6 = .ok (.getfield 10, 3) := by decide +kernel
theorem dX7_cell_9 : decode cX7_cell 9 = .ok (.getfield 175, 3) := by decide +kernel
theorem dX7_cell_12 : decode cX7_cell 12 = .ok (.getfield 178, 3) := by decide +kernel
theorem dX7_cell_15 : decode cX7_cell 15 = .ok (.if_icmp .ge 7, 3) := by decide +kernel
theorem dX7_cell_18 : decode cX7_cell 18 = .ok (.iconst 1, 1) := by decide +kernel
theorem dX7_cell_19 : decode cX7_cell 19 = .ok (.goto 4, 3) := by decide +kernel
theorem dX7_cell_22 : decode cX7_cell 22 = .ok (.iconst 0, 1) := by decide +kernel
theorem dX7_cell_23 : decode cX7_cell 23 = .ok (.invokestatic 82, 3) := by decide +kernel
theorem dX7_cell_26 : decode cX7_cell 26 = .ok (.aload_n 0, 1) := by decide +kernel
theorem dX7_cell_27 : decode cX7_cell 27 = .ok (.getfield 10, 3) := by decide +kernel
theorem dX7_cell_30 : decode cX7_cell 30 = .ok (.iload_n 1, 1) := by decide +kernel
theorem dX7_cell_31 : decode cX7_cell 31 = .ok (.invokevirtual 184, 3) := by decide +kernel
theorem dX7_cell_34 : decode cX7_cell 34 = .ok (.ireturn, 1) := by decide +kernel
theorem dX7_carried_0 : decode cX7_carried 0 = .ok (.aload_n 0, 1) := by decide +kernel
theorem dX7_carried_1 : decode cX7_carried 1 = .ok (.getfield 10, 3) := by decide +kernel
theorem dX7_carried_4 : decode cX7_carried 4 = .ok (.getfield 175, 3) := by decide +kernel
theorem dX7_carried_7 : decode cX7_carried 7 = .ok (.getfield 187, 3) := by decide +kernel
theorem dX7_carried_10 : decode cX7_carried 10 = .ok (.ireturn, 1) := by decide +kernel
theorem dX7_copied_0 : decode cX7_copied 0 = .ok (.aload_n 0, 1) := by decide +kernel
theorem dX7_copied_1 : decode cX7_copied 1 = .ok (.getfield 10, 3) := by decide +kernel
theorem dX7_copied_4 : decode cX7_copied 4 = .ok (.getfield 175, 3) := by decide +kernel
theorem dX7_copied_7 : decode cX7_copied 7 = .ok (.getfield 190, 3) := by decide +kernel
theorem dX7_copied_10 : decode cX7_copied 10 = .ok (.ireturn, 1) := by decide +kernel
theorem dX7_growths_0 : decode cX7_growths 0 = .ok (.aload_n 0, 1) := by decide +kernel
