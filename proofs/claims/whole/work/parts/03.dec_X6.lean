theorem dX6_init_0 : decode cX6_init 0 = .ok (.aload_n 0, 1) := by decide +kernel
theorem dX6_init_1 : decode cX6_init 1 = .ok (.invokespecial 1, 3) := by decide +kernel
theorem dX6_init_4 : decode cX6_init 4 = .ok (.aload_n 0, 1) := by decide +kernel
theorem dX6_init_5 : decode cX6_init 5 = .ok (.new 7, 3) := by decide +kernel
theorem dX6_init_8 : decode cX6_init 8 = .ok (.dup, 1) := by decide +kernel
theorem dX6_init_9 : decode cX6_init 9 = .ok (.invokespecial 9, 3) := by decide +kernel
theorem dX6_init_12 : decode cX6_init 12 = .ok (.putfield 10, 3) := by decide +kernel
theorem dX6_init_15 : decode cX6_init 15 = .ok (.aload_n 0, 1) := by decide +kernel
theorem dX6_init_16 : decode cX6_init 16 = .ok (.new 16, 3) := by decide +kernel
theorem dX6_init_19 : decode cX6_init 19 = .ok (.dup, 1) := by decide +kernel
theorem dX6_init_20 : decode cX6_init 20 = .ok (.invokespecial 18, 3) := by decide +kernel
theorem dX6_init_23 : decode cX6_init 23 = .ok (.putfield 19, 3) := by decide +kernel
theorem dX6_init_26 : decode cX6_init 26 = .ok (.aload_n 0, 1) := by decide +kernel
theorem dX6_init_27 : decode cX6_init 27 = .ok (.new 23, 3) := by decide +kernel
theorem dX6_init_30 : decode cX6_init 30 = .ok (.dup, 1) := by decide +kernel
theorem dX6_init_31 : decode cX6_init 31 = .ok (.invokespecial 25, 3) := by decide +kernel
theorem dX6_init_34 : decode cX6_init 34 = .ok (.putfield 26, 3) := by decide +kernel
theorem dX6_init_37 : decode cX6_init 37 = .ok (.aload_n 0, 1) := by decide +kernel
theorem dX6_init_38 : decode cX6_init 38 = .ok (.new 30, 3) := by decide +kernel
theorem dX6_init_41 : decode cX6_init 41 = .ok (.dup, 1) := by decide +kernel
theorem dX6_init_42 : decode cX6_init 42 = .ok (.invokespecial 32, 3) := by decide +kernel
theorem dX6_init_45 : decode cX6_init 45 = .ok (.putfield 33, 3) := by decide +kernel
theorem dX6_init_48 : decode cX6_init 48 = .ok (.aload_n 0, 1) := by decide +kernel
theorem dX6_init_49 : decode cX6_init 49 = .ok (.new 37, 3) := by decide +kernel
theorem dX6_init_52 : decode cX6_init 52 = .ok (.dup, 1) := by decide +kernel
theorem dX6_init_53 : decode cX6_init 53 = .ok (.invokespecial 39, 3) := by decide +kernel
theorem dX6_init_56 : decode cX6_init 56 = .ok (.putfield 40, 3) := by decide +kernel
theorem dX6_init_59 : decode cX6_init 59 = .ok (.return_, 1) := by decide +kernel
theorem dX6_lines_0 : decode cX6_lines 0 = .ok (.iload_n 1, 1) := by decide +kernel
theorem dX6_lines_1 : decode cX6_lines 1 = .ok (.iconst 1, 1) := by decide +kernel
theorem dX6_lines_2 : decode cX6_lines 2 = .ok (.if_icmp .lt 9, 3) := by decide +kernel
theorem dX6_lines_5 : decode cX6_lines 5 = .ok (.iload_n 1, 1) := by decide +kernel
theorem dX6_lines_6 : decode cX6_lines 6 = .ok (.bipush 10, 2) := by decide +kernel
theorem dX6_lines_8 : decode cX6_lines 8 = .ok (.if_icmp .le 6, 3) := by decide +kernel
theorem dX6_lines_11 : decode cX6_lines 11 = .ok (.bipush (-102), 2) := by decide +kernel
theorem dX6_lines_13 : decode cX6_lines 13 = .ok (.ireturn, 1) := by decide +kernel
theorem dX6_lines_14 : decode cX6_lines 14 = .ok (.aload_n 0, 1) := by decide +kernel
theorem dX6_lines_15 : decode cX6_lines 15 = .ok (.getfield 10, 3) := by decide +kernel
theorem dX6_lines_18 : decode cX6_lines 18 = .ok (.getfield 44, 3) := by decide +kernel
theorem dX6_lines_21 : decode cX6_lines 21 = .ok (.istore_n 2, 1) := by decide +kernel
theorem dX6_lines_22 : decode cX6_lines 22 = .ok (.aload_n 0, 1) := by decide +kernel
theorem dX6_lines_23 : decode cX6_lines 23 = .ok (.getfield 10, 3) := by decide +kernel
theorem dX6_lines_26 : decode cX6_lines 26 = .ok (.iload_n 1, 1) := by decide +kernel
theorem dX6_lines_27 : decode cX6_lines 27 = .ok (.invokevirtual 48, 3) := by decide +kernel
theorem dX6_lines_30 : decode cX6_lines 30 = .ok (.aload_n 0, 1) := by decide +kernel
theorem dX6_lines_31 : decode cX6_lines 31 = .ok (.invokevirtual 52, 3) := by decide +kernel
theorem dX6_lines_34 : decode cX6_lines 34 = .ok (.iload_n 2, 1) := by decide +kernel
theorem dX6_lines_35 : decode cX6_lines 35 = .ok (.ireturn, 1) := by decide +kernel
theorem dX6_way_0 : decode cX6_way 0 = .ok (.aload_n 0, 1) := by decide +kernel
theorem dX6_way_1 : decode cX6_way 1 = .ok (.getfield 10, 3) := by decide +kernel
theorem dX6_way_4 : decode cX6_way 4 = .ok (.iload_n 1, 1) := by decide +kernel
theorem dX6_way_5 : decode cX6_way 5 = .ok (.invokevirtual 55, 3) := by decide +kernel
theorem dX6_way_8 : decode cX6_way 8 = .ok (.ifCond .eq 10, 3) := by decide +kernel
theorem dX6_way_11 : decode cX6_way 11 = .ok (.iload_n 2, 1) := by decide +kernel
theorem dX6_way_12 : decode cX6_way 12 = .ok (.invokestatic 59, 3) := by decide +kernel
theorem dX6_way_15 : decode cX6_way 15 = .ok (.ifCond .ne 6, 3) := by decide +kernel
theorem dX6_way_18 : decode cX6_way 18 = .ok (.bipush (-102), 2) := by decide +kernel
theorem dX6_way_20 : decode cX6_way 20 = .ok (.ireturn, 1) := by decide +kernel
theorem dX6_way_21 : decode cX6_way 21 = .ok (.aload_n 0, 1) := by decide +kernel
theorem dX6_way_22 : decode cX6_way 22 = .ok (.getfield 10, 3) := by decide +kernel
theorem dX6_way_25 : decode cX6_way 25 = .ok (.getfield 62, 3) := by decide +kernel
theorem dX6_way_28 : decode cX6_way 28 = .ok (.bipush 10, 2) := by decide +kernel
theorem dX6_way_30 : decode cX6_way 30 = .ok (.if_icmp .lt 6, 3) := by decide +kernel
theorem dX6_way_33 : decode cX6_way 33 = .ok (.bipush (-104), 2) := by decide +kernel
theorem dX6_way_35 : decode cX6_way 35 = .ok (.ireturn, 1) := by decide +kernel
theorem dX6_way_36 : decode cX6_way 36 = .ok (.aload_n 0, 1) := by decide +kernel
theorem dX6_way_37 : decode cX6_way 37 = .ok (.invokevirtual 52, 3) := by decide +kernel
theorem dX6_way_40 : decode cX6_way 40 = .ok (.aload_n 0, 1) := by decide +kernel
theorem dX6_way_41 : decode cX6_way 41 = .ok (.getfield 10, 3) := by decide +kernel
theorem dX6_way_44 : decode cX6_way 44 = .ok (.iload_n 1, 1) := by decide +kernel
theorem dX6_way_45 : decode cX6_way 45 = .ok (.iload_n 2, 1) := by decide +kernel
theorem dX6_way_46 : decode cX6_way 46 = .ok (.invokevirtual 65, 3) := by decide +kernel
theorem dX6_way_49 : decode cX6_way 49 = .ok (.ireturn, 1) := by decide +kernel
theorem dX6_sum_0 : decode cX6_sum 0 = .ok (.aload_n 0, 1) := by decide +kernel
theorem dX6_sum_1 : decode cX6_sum 1 = .ok (.getfield 10, 3) := by decide +kernel
theorem dX6_sum_4 : decode cX6_sum 4 = .ok (.iload_n 1, 1) := by decide +kernel
theorem dX6_sum_5 : decode cX6_sum 5 = .ok (.invokevirtual 69, 3) := by decide +kernel
theorem dX6_sum_8 : decode cX6_sum 8 = .ok (.ifCond .ne 6, 3) := by decide +kernel
theorem dX6_sum_11 : decode cX6_sum 11 = .ok (.bipush (-101), 2) := by decide +kernel
theorem dX6_sum_13 : decode cX6_sum 13 = .ok (.ireturn, 1) := by decide +kernel
theorem dX6_sum_14 : decode cX6_sum 14 = .ok (.iload_n 2, 1) := by decide +kernel
theorem dX6_sum_15 : decode cX6_sum 15 = .ok (.invokestatic 59, 3) := by decide +kernel
theorem dX6_sum_18 : decode cX6_sum 18 = .ok (.ifCond .ne 6, 3) := by decide +kernel
theorem dX6_sum_21 : decode cX6_sum 21 = .ok (.bipush (-102), 2) := by decide +kernel
theorem dX6_sum_23 : decode cX6_sum 23 = .ok (.ireturn, 1) := by decide +kernel
theorem dX6_sum_24 : decode cX6_sum 24 = .ok (.aload_n 0, 1) := by decide +kernel
theorem dX6_sum_25 : decode cX6_sum 25 = .ok (.getfield 10, 3) := by decide +kernel
theorem dX6_sum_28 : decode cX6_sum 28 = .ok (.getfield 72, 3) := by decide +kernel
theorem dX6_sum_31 : decode cX6_sum 31 = .ok (.iload_n 1, 1) := by decide +kernel
theorem dX6_sum_32 : decode cX6_sum 32 = .ok (.iaload, 1) := by decide +kernel
theorem dX6_sum_33 : decode cX6_sum 33 = .ok (.istore_n 3, 1) := by decide +kernel
theorem dX6_sum_34 : decode cX6_sum 34 = .ok (.aload_n 0, 1) := by decide +kernel
theorem dX6_sum_35 : decode cX6_sum 35 = .ok (.getfield 10, 3) := by decide +kernel
theorem dX6_sum_38 : decode cX6_sum 38 = .ok (.getfield 72, 3) := by decide +kernel
theorem dX6_sum_41 : decode cX6_sum 41 = .ok (.iload_n 1, 1) := by decide +kernel
theorem dX6_sum_42 : decode cX6_sum 42 = .ok (.iload_n 2, 1) := by decide +kernel
theorem dX6_sum_43 : decode cX6_sum 43 = .ok (.iastore, 1) := by decide +kernel
theorem dX6_sum_44 : decode cX6_sum 44 = .ok (.aload_n 0, 1) := by decide +kernel
theorem dX6_sum_45 : decode cX6_sum 45 = .ok (.invokevirtual 52, 3) := by decide +kernel
theorem dX6_sum_48 : decode cX6_sum 48 = .ok (.iload_n 3, 1) := by decide +kernel
theorem dX6_sum_49 : decode cX6_sum 49 = .ok (.ireturn, 1) := by decide +kernel
theorem dX6_over_0 : decode cX6_over 0 = .ok (.aload_n 0, 1) := by decide +kernel
theorem dX6_over_1 : decode cX6_over 1 = .ok (.getfield 10, 3) := by decide +kernel
theorem dX6_over_4 : decode cX6_over 4 = .ok (.iload_n 1, 1) := by decide +kernel
theorem dX6_over_5 : decode cX6_over 5 = .ok (.invokevirtual 69, 3) := by decide +kernel
theorem dX6_over_8 : decode cX6_over 8 = .ok (.ifCond .ne 6, 3) := by decide +kernel
theorem dX6_over_11 : decode cX6_over 11 = .ok (.bipush (-101), 2) := by decide +kernel
theorem dX6_over_13 : decode cX6_over 13 = .ok (.ireturn, 1) := by decide +kernel
theorem dX6_over_14 : decode cX6_over 14 = .ok (.aload_n 0, 1) := by decide +kernel
theorem dX6_over_15 : decode cX6_over 15 = .ok (.getfield 10, 3) := by decide +kernel
theorem dX6_over_18 : decode cX6_over 18 = .ok (.iload_n 2, 1) := by decide +kernel
theorem dX6_over_19 : decode cX6_over 19 = .ok (.invokevirtual 55, 3) := by decide +kernel
theorem dX6_over_22 : decode cX6_over 22 = .ok (.ifCond .ne 6, 3) := by decide +kernel
theorem dX6_over_25 : decode cX6_over 25 = .ok (.bipush (-102), 2) := by decide +kernel
theorem dX6_over_27 : decode cX6_over 27 = .ok (.ireturn, 1) := by decide +kernel
theorem dX6_over_28 : decode cX6_over 28 = .ok (.aload_n 0, 1) := by decide +kernel
theorem dX6_over_29 : decode cX6_over 29 = .ok (.getfield 10, 3) := by decide +kernel
theorem dX6_over_32 : decode cX6_over 32 = .ok (.getfield 76, 3) := by decide +kernel
theorem dX6_over_35 : decode cX6_over 35 = .ok (.iload_n 1, 1) := by decide +kernel
theorem dX6_over_36 : decode cX6_over 36 = .ok (.iaload, 1) := by decide +kernel
theorem dX6_over_37 : decode cX6_over 37 = .ok (.istore_n 3, 1) := by decide +kernel
theorem dX6_over_38 : decode cX6_over 38 = .ok (.aload_n 0, 1) := by decide +kernel
theorem dX6_over_39 : decode cX6_over 39 = .ok (.getfield 10, 3) := by decide +kernel
theorem dX6_over_42 : decode cX6_over 42 = .ok (.getfield 76, 3) := by decide +kernel
theorem dX6_over_45 : decode cX6_over 45 = .ok (.iload_n 1, 1) := by decide +kernel
theorem dX6_over_46 : decode cX6_over 46 = .ok (.iload_n 2, 1) := by decide +kernel
theorem dX6_over_47 : decode cX6_over 47 = .ok (.iastore, 1) := by decide +kernel
theorem dX6_over_48 : decode cX6_over 48 = .ok (.aload_n 0, 1) := by decide +kernel
theorem dX6_over_49 : decode cX6_over 49 = .ok (.invokevirtual 52, 3) := by decide +kernel
theorem dX6_over_52 : decode cX6_over 52 = .ok (.iload_n 3, 1) := by decide +kernel
theorem dX6_over_53 : decode cX6_over 53 = .ok (.ireturn, 1) := by decide +kernel
theorem dX6_on_0 : decode cX6_on 0 = .ok (.aload_n 0, 1) := by decide +kernel
theorem dX6_on_1 : decode cX6_on 1 = .ok (.getfield 10, 3) := by decide +kernel
theorem dX6_on_4 : decode cX6_on 4 = .ok (.iload_n 1, 1) := by decide +kernel
theorem dX6_on_5 : decode cX6_on 5 = .ok (.invokevirtual 69, 3) := by decide +kernel
theorem dX6_on_8 : decode cX6_on 8 = .ok (.ifCond .ne 6, 3) := by decide +kernel
theorem dX6_on_11 : decode cX6_on 11 = .ok (.bipush (-101), 2) := by decide +kernel
theorem dX6_on_13 : decode cX6_on 13 = .ok (.ireturn, 1) := by decide +kernel
theorem dX6_on_14 : decode cX6_on 14 = .ok (.aload_n 0, 1) := by decide +kernel
theorem dX6_on_15 : decode cX6_on 15 = .ok (.getfield 10, 3) := by decide +kernel
theorem dX6_on_18 : decode cX6_on 18 = .ok (.getfield 79, 3) := by decide +kernel
theorem dX6_on_21 : decode cX6_on 21 = .ok (.iload_n 1, 1) := by decide +kernel
theorem dX6_on_22 : decode cX6_on 22 = .ok (.invokestatic 82, 3) := by decide +kernel
theorem dX6_on_25 : decode cX6_on 25 = .ok (.istore_n 3, 1) := by decide +kernel
theorem dX6_on_26 : decode cX6_on 26 = .ok (.aload_n 0, 1) := by decide +kernel
theorem dX6_on_27 : decode cX6_on 27 = .ok (.getfield 10, 3) := by decide +kernel
theorem dX6_on_30 : decode cX6_on 30 = .ok (.aload_n 0, 1) := by decide +kernel
theorem dX6_on_31 : decode cX6_on 31 = .ok (.getfield 10, 3) := by decide +kernel
theorem dX6_on_34 : decode cX6_on 34 = .ok (.getfield 79, 3) := by decide +kernel
theorem dX6_on_37 : decode cX6_on 37 = .ok (.iload_n 1, 1) := by decide +kernel
theorem dX6_on_38 : decode cX6_on 38 = .ok (.iload_n 2, 1) := by decide +kernel
theorem dX6_on_39 : decode cX6_on 39 = .ok (.invokestatic 85, 3) := by decide +kernel
theorem dX6_on_42 : decode cX6_on 42 = .ok (.putfield 79, 3) := by decide +kernel
theorem dX6_on_45 : decode cX6_on 45 = .ok (.aload_n 0, 1) := by decide +kernel
theorem dX6_on_46 : decode cX6_on 46 = .ok (.invokevirtual 52, 3) := by decide +kernel
theorem dX6_on_49 : decode cX6_on 49 = .ok (.iload_n 3, 1) := by decide +kernel
theorem dX6_on_50 : decode cX6_on 50 = .ok (.ireturn, 1) := by decide +kernel
theorem dX6_bad_0 : decode cX6_bad 0 = .ok (.aload_n 0, 1) := by decide +kernel
theorem dX6_bad_1 : decode cX6_bad 1 = .ok (.getfield 10, 3) := by decide +kernel
theorem dX6_bad_4 : decode cX6_bad 4 = .ok (.iload_n 1, 1) := by decide +kernel
theorem dX6_bad_5 : decode cX6_bad 5 = .ok (.invokevirtual 69, 3) := by decide +kernel
theorem dX6_bad_8 : decode cX6_bad 8 = .ok (.ifCond .ne 6, 3) := by decide +kernel
theorem dX6_bad_11 : decode cX6_bad 11 = .ok (.bipush (-101), 2) := by decide +kernel
theorem dX6_bad_13 : decode cX6_bad 13 = .ok (.ireturn, 1) := by decide +kernel
theorem dX6_bad_14 : decode cX6_bad 14 = .ok (.aload_n 0, 1) := by decide +kernel
theorem dX6_bad_15 : decode cX6_bad 15 = .ok (.getfield 10, 3) := by decide +kernel
theorem dX6_bad_18 : decode cX6_bad 18 = .ok (.getfield 89, 3) := by decide +kernel
theorem dX6_bad_21 : decode cX6_bad 21 = .ok (.iload_n 1, 1) := by decide +kernel
theorem dX6_bad_22 : decode cX6_bad 22 = .ok (.invokestatic 82, 3) := by decide +kernel
theorem dX6_bad_25 : decode cX6_bad 25 = .ok (.istore_n 3, 1) := by decide +kernel
theorem dX6_bad_26 : decode cX6_bad 26 = .ok (.aload_n 0, 1) := by decide +kernel
theorem dX6_bad_27 : decode cX6_bad 27 = .ok (.getfield 10, 3) := by decide +kernel
theorem dX6_bad_30 : decode cX6_bad 30 = .ok (.aload_n 0, 1) := by decide +kernel
theorem dX6_bad_31 : decode cX6_bad 31 = .ok (.getfield 10, 3) := by decide +kernel
theorem dX6_bad_34 : decode cX6_bad 34 = .ok (.getfield 89, 3) := by decide +kernel
theorem dX6_bad_37 : decode cX6_bad 37 = .ok (.iload_n 1, 1) := by decide +kernel
theorem dX6_bad_38 : decode cX6_bad 38 = .ok (.iload_n 2, 1) := by decide +kernel
theorem dX6_bad_39 : decode cX6_bad 39 = .ok (.invokestatic 85, 3) := by decide +kernel
theorem dX6_bad_42 : decode cX6_bad 42 = .ok (.putfield 89, 3) := by decide +kernel
theorem dX6_bad_45 : decode cX6_bad 45 = .ok (.iload_n 3, 1) := by decide +kernel
theorem dX6_bad_46 : decode cX6_bad 46 = .ok (.ireturn, 1) := by decide +kernel
theorem dX6_back_0 : decode cX6_back 0 = .ok (.aload_n 0, 1) := by decide +kernel
theorem dX6_back_1 : decode cX6_back 1 = .ok (.getfield 10, 3) := by decide +kernel
theorem dX6_back_4 : decode cX6_back 4 = .ok (.getfield 62, 3) := by decide +kernel
theorem dX6_back_7 : decode cX6_back 7 = .ok (.ifCond .ne 6, 3) := by decide +kernel
theorem dX6_back_10 : decode cX6_back 10 = .ok (.bipush (-103), 2) := by decide +kernel
theorem dX6_back_12 : decode cX6_back 12 = .ok (.ireturn, 1) := by decide +kernel
theorem dX6_back_13 : decode cX6_back 13 = .ok (.aload_n 0, 1) := by decide +kernel
theorem dX6_back_14 : decode cX6_back 14 = .ok (.getfield 10, 3) := by decide +kernel
theorem dX6_back_17 : decode cX6_back 17 = .ok (.invokevirtual 92, 3) := by decide +kernel
theorem dX6_back_20 : decode cX6_back 20 = .ok (.aload_n 0, 1) := by decide +kernel
theorem dX6_back_21 : decode cX6_back 21 = .ok (.invokevirtual 52, 3) := by decide +kernel
theorem dX6_back_24 : decode cX6_back 24 = .ok (.aload_n 0, 1) := by decide +kernel
theorem dX6_back_25 : decode cX6_back 25 = .ok (.getfield 10, 3) := by decide +kernel
theorem dX6_back_28 : decode cX6_back 28 = .ok (.getfield 62, 3) := by decide +kernel
theorem dX6_back_31 : decode cX6_back 31 = .ok (.ireturn, 1) := by decide +kernel
theorem dX6_told_0 : decode cX6_told 0 = .ok (.aload_n 0, 1) := by decide +kernel
theorem dX6_told_1 : decode cX6_told 1 = .ok (.getfield 10, 3) := by decide +kernel
theorem dX6_told_4 : decode cX6_told 4 = .ok (.iload_n 1, 1) := by decide +kernel
theorem dX6_told_5 : decode cX6_told 5 = .ok (.invokevirtual 69, 3) := by decide +kernel
theorem dX6_told_8 : decode cX6_told 8 = .ok (.ifCond .ne 6, 3) := by decide +kernel
theorem dX6_told_11 : decode cX6_told 11 = .ok (.bipush (-101), 2) := by decide +kernel
theorem dX6_told_13 : decode cX6_told 13 = .ok (.ireturn, 1) := by decide +kernel
theorem dX6_told_14 : decode cX6_told 14 = .ok (.iload_n 2, 1) := by decide +kernel
theorem dX6_told_15 : decode cX6_told 15 = .ok (.tableswitch 73 0 3 #[29, 39, 49, 61], 29) := by decide +kernel
theorem dX6_told_44 : decode cX6_told 44 = .ok (.aload_n 0, 1) := by decide +kernel
theorem dX6_told_45 : decode cX6_told 45 = .ok (.getfield 10, 3) := by decide +kernel
theorem dX6_told_48 : decode cX6_told 48 = .ok (.getfield 76, 3) := by decide +kernel
theorem dX6_told_51 : decode cX6_told 51 = .ok (.iload_n 1, 1) := by decide +kernel
theorem dX6_told_52 : decode cX6_told 52 = .ok (.iaload, 1) := by decide +kernel
theorem dX6_told_53 : decode cX6_told 53 = .ok (.ireturn, 1) := by decide +kernel
theorem dX6_told_54 : decode cX6_told 54 = .ok (.aload_n 0, 1) := by decide +kernel
theorem dX6_told_55 : decode cX6_told 55 = .ok (.getfield 10, 3) := by decide +kernel
theorem dX6_told_58 : decode cX6_told 58 = .ok (.getfield 72, 3) := by decide +kernel
theorem dX6_told_61 : decode cX6_told 61 = .ok (.iload_n 1, 1) := by decide +kernel
theorem dX6_told_62 : decode cX6_told 62 = .ok (.iaload, 1) := by decide +kernel
theorem dX6_told_63 : decode cX6_told 63 = .ok (.ireturn, 1) := by decide +kernel
theorem dX6_told_64 : decode cX6_told 64 = .ok (.aload_n 0, 1) := by decide +kernel
theorem dX6_told_65 : decode cX6_told 65 = .ok (.getfield 10, 3) := by decide +kernel
theorem dX6_told_68 : decode cX6_told 68 = .ok (.getfield 79, 3) := by decide +kernel
theorem dX6_told_71 : decode cX6_told 71 = .ok (.iload_n 1, 1) := by decide +kernel
theorem dX6_told_72 : decode cX6_told 72 = .ok (.invokestatic 82, 3) := by decide +kernel
theorem dX6_told_75 : decode cX6_told 75 = .ok (.ireturn, 1) := by decide +kernel
theorem dX6_told_76 : decode cX6_told 76 = .ok (.aload_n 0, 1) := by decide +kernel
theorem dX6_told_77 : decode cX6_told 77 = .ok (.getfield 10, 3) := by decide +kernel
theorem dX6_told_80 : decode cX6_told 80 = .ok (.getfield 89, 3) := by decide +kernel
theorem dX6_told_83 : decode cX6_told 83 = .ok (.iload_n 1, 1) := by decide +kernel
theorem dX6_told_84 : decode cX6_told 84 = .ok (.invokestatic 82, 3) := by decide +kernel
theorem dX6_told_87 : decode cX6_told 87 = .ok (.ireturn, 1) := by decide +kernel
theorem dX6_told_88 : decode cX6_told 88 = .ok (.bipush (-102), 2) := by decide +kernel
theorem dX6_told_90 : decode cX6_told 90 = .ok (.ireturn, 1) := by decide +kernel
theorem dX6_count_0 : decode cX6_count 0 = .ok (.iload_n 1, 1) := by decide +kernel
theorem dX6_count_1 : decode cX6_count 1 = .ok (.tableswitch 137 0 8 #[51, 59, 67, 78, 90, 101, 106, 121, 129], 51) := by decide +kernel
theorem dX6_count_52 : decode cX6_count 52 = .ok (.aload_n 0, 1) := by decide +kernel
theorem dX6_count_53 : decode cX6_count 53 = .ok (.getfield 10, 3) := by decide +kernel
theorem dX6_count_56 : decode cX6_count 56 = .ok (.getfield 44, 3) := by decide +kernel
theorem dX6_count_59 : decode cX6_count 59 = .ok (.ireturn, 1) := by decide +kernel
theorem dX6_count_60 : decode cX6_count 60 = .ok (.aload_n 0, 1) := by decide +kernel
theorem dX6_count_61 : decode cX6_count 61 = .ok (.getfield 10, 3) := by decide +kernel
theorem dX6_count_64 : decode cX6_count 64 = .ok (.getfield 62, 3) := by decide +kernel
theorem dX6_count_67 : decode cX6_count 67 = .ok (.ireturn, 1) := by decide +kernel
theorem dX6_count_68 : decode cX6_count 68 = .ok (.aload_n 0, 1) := by decide +kernel
theorem dX6_count_69 : decode cX6_count 69 = .ok (.getfield 10, 3) := by decide +kernel
theorem dX6_count_72 : decode cX6_count 72 = .ok (.getfield 79, 3) := by decide +kernel
theorem dX6_count_75 : decode cX6_count 75 = .ok (.invokestatic 95, 3) := by decide +kernel
theorem dX6_count_78 : decode cX6_count 78 = .ok (.ireturn, 1) := by decide +kernel
theorem dX6_count_79 : decode cX6_count 79 = .ok (.aload_n 0, 1) := by decide +kernel
theorem dX6_count_80 : decode cX6_count 80 = .ok (.getfield 33, 3) := by decide +kernel
theorem dX6_count_83 : decode cX6_count 83 = .ok (.aload_n 0, 1) := by decide +kernel
theorem dX6_count_84 : decode cX6_count 84 = .ok (.getfield 10, 3) := by decide +kernel
theorem dX6_count_87 : decode cX6_count 87 = .ok (.invokevirtual 101, 3) := by decide +kernel
theorem dX6_count_90 : decode cX6_count 90 = .ok (.ireturn, 1) := by decide +kernel
theorem dX6_count_91 : decode cX6_count 91 = .ok (.aload_n 0, 1) := by decide +kernel
theorem dX6_count_92 : decode cX6_count 92 = .ok (.getfield 10, 3) := by decide +kernel
theorem dX6_count_95 : decode cX6_count 95 = .ok (.invokevirtual 105, 3) := by decide +kernel
theorem dX6_count_98 : decode cX6_count 98 = .ok (.invokestatic 95, 3) := by decide +kernel
theorem dX6_count_101 : decode cX6_count 101 = .ok (.ireturn, 1) := by decide +kernel
theorem dX6_count_102 : decode cX6_count 102 = .ok (.aload_n 0, 1) := by decide +kernel
theorem dX6_count_103 : decode cX6_count 103 = .ok (.invokevirtual 109, 3) := by decide +kernel
theorem dX6_count_106 : decode cX6_count 106 = .ok (.ireturn, 1) := by decide +kernel
theorem dX6_count_107 : decode cX6_count 107 = .ok (.aload_n 0, 1) := by decide +kernel
theorem dX6_count_108 : decode cX6_count 108 = .ok (.getfield 33, 3) := by decide +kernel
theorem dX6_count_111 : decode cX6_count 111 = .ok (.aload_n 0, 1) := by decide +kernel
theorem dX6_count_112 : decode cX6_count 112 = .ok (.getfield 10, 3) := by decide +kernel
theorem dX6_count_115 : decode cX6_count 115 = .ok (.invokevirtual 112, 3) := by decide +kernel
theorem dX6_count_118 : decode cX6_count 118 = .ok (.invokestatic 95, 3) := by decide +kernel
theorem dX6_count_121 : decode cX6_count 121 = .ok (.ireturn, 1) := by decide +kernel
theorem dX6_count_122 : decode cX6_count 122 = .ok (.aload_n 0, 1) := by decide +kernel
theorem dX6_count_123 : decode cX6_count 123 = .ok (.getfield 10, 3) := by decide +kernel
theorem dX6_count_126 : decode cX6_count 126 = .ok (.invokevirtual 115, 3) := by decide +kernel
theorem dX6_count_129 : decode cX6_count 129 = .ok (.ireturn, 1) := by decide +kernel
theorem dX6_count_130 : decode cX6_count 130 = .ok (.aload_n 0, 1) := by decide +kernel
theorem dX6_count_131 : decode cX6_count 131 = .ok (.getfield 10, 3) := by decide +kernel
theorem dX6_count_134 : decode cX6_count 134 = .ok (.getfield 118, 3) := by decide +kernel
theorem dX6_count_137 : decode cX6_count 137 = .ok (.ireturn, 1) := by decide +kernel
theorem dX6_count_138 : decode cX6_count 138 = .ok (.bipush (-102), 2) := by decide +kernel
theorem dX6_count_140 : decode cX6_count 140 = .ok (.ireturn, 1) := by decide +kernel
theorem dX6_fits_0 : decode cX6_fits 0 = .ok (.aload_n 0, 1) := by decide +kernel
theorem dX6_fits_1 : decode cX6_fits 1 = .ok (.getfield 19, 3) := by decide +kernel
theorem dX6_fits_4 : decode cX6_fits 4 = .ok (.aload_n 0, 1) := by decide +kernel
theorem dX6_fits_5 : decode cX6_fits 5 = .ok (.getfield 10, 3) := by decide +kernel
theorem dX6_fits_8 : decode cX6_fits 8 = .ok (.aload_n 0, 1) := by decide +kernel
theorem dX6_fits_9 : decode cX6_fits 9 = .ok (.getfield 10, 3) := by decide +kernel
theorem dX6_fits_12 : decode cX6_fits 12 = .ok (.getfield 79, 3) := by decide +kernel
theorem dX6_fits_15 : decode cX6_fits 15 = .ok (.invokevirtual 121, 3) := by decide +kernel
theorem dX6_fits_18 : decode cX6_fits 18 = .ok (.ifCond .eq 7, 3) := by decide +kernel
theorem dX6_fits_21 : decode cX6_fits 21 = .ok (.iconst 1, 1) := by decide +kernel
theorem dX6_fits_22 : decode cX6_fits 22 = .ok (.goto 4, 3) := by decide +kernel
theorem dX6_fits_25 : decode cX6_fits 25 = .ok (.iconst 0, 1) := by decide +kernel
theorem dX6_fits_26 : decode cX6_fits 26 = .ok (.ireturn, 1) := by decide +kernel
theorem dX6_bound_0 : decode cX6_bound 0 = .ok (.aload_n 0, 1) := by decide +kernel
theorem dX6_bound_1 : decode cX6_bound 1 = .ok (.getfield 10, 3) := by decide +kernel
theorem dX6_bound_4 : decode cX6_bound 4 = .ok (.iload_n 1, 1) := by decide +kernel
theorem dX6_bound_5 : decode cX6_bound 5 = .ok (.invokevirtual 125, 3) := by decide +kernel
theorem dX6_bound_8 : decode cX6_bound 8 = .ok (.ifCond .eq 17, 3) := by decide +kernel
theorem dX6_bound_11 : decode cX6_bound 11 = .ok (.iload_n 2, 1) := by decide +kernel
theorem dX6_bound_12 : decode cX6_bound 12 = .ok (.invokestatic 128, 3) := by decide +kernel
theorem dX6_bound_15 : decode cX6_bound 15 = .ok (.ifCond .eq 10, 3) := by decide +kernel
theorem dX6_bound_18 : decode cX6_bound 18 = .ok (.iload_n 3, 1) := by decide +kernel
theorem dX6_bound_19 : decode cX6_bound 19 = .ok (.invokestatic 128, 3) := by decide +kernel
theorem dX6_bound_22 : decode cX6_bound 22 = .ok (.ifCond .ne 7, 3) := by decide +kernel
theorem dX6_bound_25 : decode cX6_bound 25 = .ok (.ldc2_w 131, 3) := by decide +kernel
theorem dX6_bound_28 : decode cX6_bound 28 = .ok (.lreturn, 1) := by decide +kernel
theorem dX6_bound_29 : decode cX6_bound 29 = .ok (.aload_n 0, 1) := by decide +kernel
theorem dX6_bound_30 : decode cX6_bound 30 = .ok (.getfield 19, 3) := by decide +kernel
theorem dX6_bound_33 : decode cX6_bound 33 = .ok (.aload_n 0, 1) := by decide +kernel
theorem dX6_bound_34 : decode cX6_bound 34 = .ok (.getfield 10, 3) := by decide +kernel
theorem dX6_bound_37 : decode cX6_bound 37 = .ok (.aload_n 0, 1) := by decide +kernel
theorem dX6_bound_38 : decode cX6_bound 38 = .ok (.getfield 10, 3) := by decide +kernel
theorem dX6_bound_41 : decode cX6_bound 41 = .ok (.getfield 79, 3) := by decide +kernel
theorem dX6_bound_44 : decode cX6_bound 44 = .ok (.invokevirtual 121, 3) := by decide +kernel
theorem dX6_bound_47 : decode cX6_bound 47 = .ok (.ifCond .ne 7, 3) := by decide +kernel
theorem dX6_bound_50 : decode cX6_bound 50 = .ok (.ldc2_w 133, 3) := by decide +kernel
theorem dX6_bound_53 : decode cX6_bound 53 = .ok (.lreturn, 1) := by decide +kernel
theorem dX6_bound_54 : decode cX6_bound 54 = .ok (.aload_n 0, 1) := by decide +kernel
theorem dX6_bound_55 : decode cX6_bound 55 = .ok (.iload_n 1, 1) := by decide +kernel
theorem dX6_bound_56 : decode cX6_bound 56 = .ok (.iload_n 2, 1) := by decide +kernel
theorem dX6_bound_57 : decode cX6_bound 57 = .ok (.invokevirtual 135, 3) := by decide +kernel
theorem dX6_bound_60 : decode cX6_bound 60 = .ok (.ifCond .eq 7, 3) := by decide +kernel
theorem dX6_bound_63 : decode cX6_bound 63 = .ok (.ldc2_w 139, 3) := by decide +kernel
theorem dX6_bound_66 : decode cX6_bound 66 = .ok (.lreturn, 1) := by decide +kernel
theorem dX6_bound_67 : decode cX6_bound 67 = .ok (.aload_n 0, 1) := by decide +kernel
theorem dX6_bound_68 : decode cX6_bound 68 = .ok (.getfield 19, 3) := by decide +kernel
theorem dX6_bound_71 : decode cX6_bound 71 = .ok (.iload_n 1, 1) := by decide +kernel
theorem dX6_bound_72 : decode cX6_bound 72 = .ok (.iload_n 2, 1) := by decide +kernel
theorem dX6_bound_73 : decode cX6_bound 73 = .ok (.invokevirtual 141, 3) := by decide +kernel
theorem dX6_bound_76 : decode cX6_bound 76 = .ok (.aload_n 0, 1) := by decide +kernel
theorem dX6_bound_77 : decode cX6_bound 77 = .ok (.getfield 19, 3) := by decide +kernel
theorem dX6_bound_80 : decode cX6_bound 80 = .ok (.iload_n 1, 1) := by decide +kernel
theorem dX6_bound_81 : decode cX6_bound 81 = .ok (.invokevirtual 145, 3) := by decide +kernel
theorem dX6_bound_84 : decode cX6_bound 84 = .ok (.aload_n 0, 1) := by decide +kernel
theorem dX6_bound_85 : decode cX6_bound 85 = .ok (.getfield 19, 3) := by decide +kernel
theorem dX6_bound_88 : decode cX6_bound 88 = .ok (.getfield 149, 3) := by decide +kernel
theorem dX6_bound_91 : decode cX6_bound 91 = .ok (.iload_n 3, 1) := by decide +kernel
theorem dX6_bound_92 : decode cX6_bound 92 = .ok (.invokestatic 153, 3) := by decide +kernel
theorem dX6_bound_95 : decode cX6_bound 95 = .ok (.lreturn, 1) := by decide +kernel
theorem dX6_shown_0 : decode cX6_shown 0 = .ok (.aload_n 0, 1) := by decide +kernel
theorem dX6_shown_1 : decode cX6_shown 1 = .ok (.getfield 10, 3) := by decide +kernel
theorem dX6_shown_4 : decode cX6_shown 4 = .ok (.iload_n 3, 1) := by decide +kernel
theorem dX6_shown_5 : decode cX6_shown 5 = .ok (.invokevirtual 157, 3) := by decide +kernel
theorem dX6_shown_8 : decode cX6_shown 8 = .ok (.ifCond .ne 7, 3) := by decide +kernel
theorem dX6_shown_11 : decode cX6_shown 11 = .ok (.ldc2_w 160, 3) := by decide +kernel
theorem dX6_shown_14 : decode cX6_shown 14 = .ok (.lreturn, 1) := by decide +kernel
theorem dX6_shown_15 : decode cX6_shown 15 = .ok (.aload_n 0, 1) := by decide +kernel
theorem dX6_shown_16 : decode cX6_shown 16 = .ok (.getfield 10, 3) := by decide +kernel
theorem dX6_shown_19 : decode cX6_shown 19 = .ok (.iload_n 1, 1) := by decide +kernel
theorem dX6_shown_20 : decode cX6_shown 20 = .ok (.invokevirtual 125, 3) := by decide +kernel
theorem dX6_shown_23 : decode cX6_shown 23 = .ok (.ifCond .eq 18, 3) := by decide +kernel
theorem dX6_shown_26 : decode cX6_shown 26 = .ok (.iload_n 2, 1) := by decide +kernel
theorem dX6_shown_27 : decode cX6_shown 27 = .ok (.invokestatic 128, 3) := by decide +kernel
theorem dX6_shown_30 : decode cX6_shown 30 = .ok (.ifCond .eq 11, 3) := by decide +kernel
theorem dX6_shown_33 : decode cX6_shown 33 = .ok (.iload 4, 2) := by decide +kernel
theorem dX6_shown_35 : decode cX6_shown 35 = .ok (.invokestatic 128, 3) := by decide +kernel
theorem dX6_shown_38 : decode cX6_shown 38 = .ok (.ifCond .ne 7, 3) := by decide +kernel
theorem dX6_shown_41 : decode cX6_shown 41 = .ok (.ldc2_w 131, 3) := by decide +kernel
theorem dX6_shown_44 : decode cX6_shown 44 = .ok (.lreturn, 1) := by decide +kernel
theorem dX6_shown_45 : decode cX6_shown 45 = .ok (.aload_n 0, 1) := by decide +kernel
theorem dX6_shown_46 : decode cX6_shown 46 = .ok (.getfield 19, 3) := by decide +kernel
theorem dX6_shown_49 : decode cX6_shown 49 = .ok (.aload_n 0, 1) := by decide +kernel
theorem dX6_shown_50 : decode cX6_shown 50 = .ok (.getfield 10, 3) := by decide +kernel
theorem dX6_shown_53 : decode cX6_shown 53 = .ok (.aload_n 0, 1) := by decide +kernel
theorem dX6_shown_54 : decode cX6_shown 54 = .ok (.getfield 10, 3) := by decide +kernel
theorem dX6_shown_57 : decode cX6_shown 57 = .ok (.getfield 79, 3) := by decide +kernel
theorem dX6_shown_60 : decode cX6_shown 60 = .ok (.invokevirtual 121, 3) := by decide +kernel
theorem dX6_shown_63 : decode cX6_shown 63 = .ok (.ifCond .ne 7, 3) := by decide +kernel
theorem dX6_shown_66 : decode cX6_shown 66 = .ok (.ldc2_w 133, 3) := by decide +kernel
theorem dX6_shown_69 : decode cX6_shown 69 = .ok (.lreturn, 1) := by decide +kernel
theorem dX6_shown_70 : decode cX6_shown 70 = .ok (.aload_n 0, 1) := by decide +kernel
theorem dX6_shown_71 : decode cX6_shown 71 = .ok (.iload_n 1, 1) := by decide +kernel
theorem dX6_shown_72 : decode cX6_shown 72 = .ok (.iload_n 2, 1) := by decide +kernel
theorem dX6_shown_73 : decode cX6_shown 73 = .ok (.invokevirtual 135, 3) := by decide +kernel
theorem dX6_shown_76 : decode cX6_shown 76 = .ok (.ifCond .eq 7, 3) := by decide +kernel
theorem dX6_shown_79 : decode cX6_shown 79 = .ok (.ldc2_w 139, 3) := by decide +kernel
theorem dX6_shown_82 : decode cX6_shown 82 = .ok (.lreturn, 1) := by decide +kernel
theorem dX6_shown_83 : decode cX6_shown 83 = .ok (.aload_n 0, 1) := by decide +kernel
theorem dX6_shown_84 : decode cX6_shown 84 = .ok (.getfield 19, 3) := by decide +kernel
theorem dX6_shown_87 : decode cX6_shown 87 = .ok (.iload_n 1, 1) := by decide +kernel
theorem dX6_shown_88 : decode cX6_shown 88 = .ok (.iload_n 2, 1) := by decide +kernel
theorem dX6_shown_89 : decode cX6_shown 89 = .ok (.invokevirtual 141, 3) := by decide +kernel
theorem dX6_shown_92 : decode cX6_shown 92 = .ok (.aload_n 0, 1) := by decide +kernel
theorem dX6_shown_93 : decode cX6_shown 93 = .ok (.getfield 19, 3) := by decide +kernel
theorem dX6_shown_96 : decode cX6_shown 96 = .ok (.iload_n 3, 1) := by decide +kernel
theorem dX6_shown_97 : decode cX6_shown 97 = .ok (.invokevirtual 162, 3) := by decide +kernel
theorem dX6_shown_100 : decode cX6_shown 100 = .ok (.aload_n 0, 1) := by decide +kernel
theorem dX6_shown_101 : decode cX6_shown 101 = .ok (.getfield 19, 3) := by decide +kernel
theorem dX6_shown_104 : decode cX6_shown 104 = .ok (.iconst 1, 1) := by decide +kernel
theorem dX6_shown_105 : decode cX6_shown 105 = .ok (.iload_n 3, 1) := by decide +kernel
theorem dX6_shown_106 : decode cX6_shown 106 = .ok (.ishl, 1) := by decide +kernel
theorem dX6_shown_107 : decode cX6_shown 107 = .ok (.invokevirtual 145, 3) := by decide +kernel
theorem dX6_shown_110 : decode cX6_shown 110 = .ok (.aload_n 0, 1) := by decide +kernel
theorem dX6_shown_111 : decode cX6_shown 111 = .ok (.getfield 19, 3) := by decide +kernel
theorem dX6_shown_114 : decode cX6_shown 114 = .ok (.getfield 149, 3) := by decide +kernel
theorem dX6_shown_117 : decode cX6_shown 117 = .ok (.iload 4, 2) := by decide +kernel
theorem dX6_shown_119 : decode cX6_shown 119 = .ok (.invokestatic 153, 3) := by decide +kernel
theorem dX6_shown_122 : decode cX6_shown 122 = .ok (.lreturn, 1) := by decide +kernel
theorem dX6_settled_0 : decode cX6_settled 0 = .ok (.aload_n 0, 1) := by decide +kernel
theorem dX6_settled_1 : decode cX6_settled 1 = .ok (.getfield 10, 3) := by decide +kernel
theorem dX6_settled_4 : decode cX6_settled 4 = .ok (.iload_n 1, 1) := by decide +kernel
theorem dX6_settled_5 : decode cX6_settled 5 = .ok (.invokevirtual 157, 3) := by decide +kernel
theorem dX6_settled_8 : decode cX6_settled 8 = .ok (.ifCond .ne 6, 3) := by decide +kernel
theorem dX6_settled_11 : decode cX6_settled 11 = .ok (.bipush (-101), 2) := by decide +kernel
theorem dX6_settled_13 : decode cX6_settled 13 = .ok (.ireturn, 1) := by decide +kernel
theorem dX6_settled_14 : decode cX6_settled 14 = .ok (.aload_n 0, 1) := by decide +kernel
theorem dX6_settled_15 : decode cX6_settled 15 = .ok (.getfield 19, 3) := by decide +kernel
theorem dX6_settled_18 : decode cX6_settled 18 = .ok (.aload_n 0, 1) := by decide +kernel
theorem dX6_settled_19 : decode cX6_settled 19 = .ok (.getfield 10, 3) := by decide +kernel
theorem dX6_settled_22 : decode cX6_settled 22 = .ok (.aload_n 0, 1) := by decide +kernel
theorem dX6_settled_23 : decode cX6_settled 23 = .ok (.getfield 10, 3) := by decide +kernel
theorem dX6_settled_26 : decode cX6_settled 26 = .ok (.getfield 79, 3) := by decide +kernel
theorem dX6_settled_29 : decode cX6_settled 29 = .ok (.invokevirtual 121, 3) := by decide +kernel
theorem dX6_settled_32 : decode cX6_settled 32 = .ok (.ifCond .ne 6, 3) := by decide +kernel
theorem dX6_settled_35 : decode cX6_settled 35 = .ok (.bipush (-103), 2) := by decide +kernel
theorem dX6_settled_37 : decode cX6_settled 37 = .ok (.ireturn, 1) := by decide +kernel
theorem dX6_settled_38 : decode cX6_settled 38 = .ok (.aload_n 0, 1) := by decide +kernel
theorem dX6_settled_39 : decode cX6_settled 39 = .ok (.iload_n 1, 1) := by decide +kernel
theorem dX6_settled_40 : decode cX6_settled 40 = .ok (.invokevirtual 165, 3) := by decide +kernel
theorem dX6_settled_43 : decode cX6_settled 43 = .ok (.ifCond .eq 7, 3) := by decide +kernel
theorem dX6_settled_46 : decode cX6_settled 46 = .ok (.iconst 1, 1) := by decide +kernel
theorem dX6_settled_47 : decode cX6_settled 47 = .ok (.goto 4, 3) := by decide +kernel
theorem dX6_settled_50 : decode cX6_settled 50 = .ok (.iconst 0, 1) := by decide +kernel
theorem dX6_settled_51 : decode cX6_settled 51 = .ok (.ireturn, 1) := by decide +kernel
theorem dX6_known_0 : decode cX6_known 0 = .ok (.aload_n 0, 1) := by decide +kernel
theorem dX6_known_1 : decode cX6_known 1 = .ok (.getfield 10, 3) := by decide +kernel
theorem dX6_known_4 : decode cX6_known 4 = .ok (.iload_n 1, 1) := by decide +kernel
theorem dX6_known_5 : decode cX6_known 5 = .ok (.invokevirtual 157, 3) := by decide +kernel
theorem dX6_known_8 : decode cX6_known 8 = .ok (.ifCond .ne 6, 3) := by decide +kernel
theorem dX6_known_11 : decode cX6_known 11 = .ok (.bipush (-101), 2) := by decide +kernel
theorem dX6_known_13 : decode cX6_known 13 = .ok (.ireturn, 1) := by decide +kernel
theorem dX6_known_14 : decode cX6_known 14 = .ok (.aload_n 0, 1) := by decide +kernel
theorem dX6_known_15 : decode cX6_known 15 = .ok (.getfield 33, 3) := by decide +kernel
theorem dX6_known_18 : decode cX6_known 18 = .ok (.aload_n 0, 1) := by decide +kernel
theorem dX6_known_19 : decode cX6_known 19 = .ok (.getfield 10, 3) := by decide +kernel
theorem dX6_known_22 : decode cX6_known 22 = .ok (.invokevirtual 112, 3) := by decide +kernel
theorem dX6_known_25 : decode cX6_known 25 = .ok (.iload_n 1, 1) := by decide +kernel
theorem dX6_known_26 : decode cX6_known 26 = .ok (.invokestatic 82, 3) := by decide +kernel
theorem dX6_known_29 : decode cX6_known 29 = .ok (.ireturn, 1) := by decide +kernel
theorem dX6_group_0 : decode cX6_group 0 = .ok (.aload_n 0, 1) := by decide +kernel
theorem dX6_group_1 : decode cX6_group 1 = .ok (.getfield 10, 3) := by decide +kernel
theorem dX6_group_4 : decode cX6_group 4 = .ok (.iload_n 1, 1) := by decide +kernel
theorem dX6_group_5 : decode cX6_group 5 = .ok (.invokevirtual 157, 3) := by decide +kernel
theorem dX6_group_8 : decode cX6_group 8 = .ok (.ifCond .ne 6, 3) := by decide +kernel
theorem dX6_group_11 : decode cX6_group 11 = .ok (.bipush (-101), 2) := by decide +kernel
theorem dX6_group_13 : decode cX6_group 13 = .ok (.ireturn, 1) := by decide +kernel
theorem dX6_group_14 : decode cX6_group 14 = .ok (.aload_n 0, 1) := by decide +kernel
theorem dX6_group_15 : decode cX6_group 15 = .ok (.getfield 10, 3) := by decide +kernel
theorem dX6_group_18 : decode cX6_group 18 = .ok (.iload_n 1, 1) := by decide +kernel
theorem dX6_group_19 : decode cX6_group 19 = .ok (.invokevirtual 168, 3) := by decide +kernel
theorem dX6_group_22 : decode cX6_group 22 = .ok (.ireturn, 1) := by decide +kernel
theorem dX6_lying_0 : decode cX6_lying 0 = .ok (.aload_n 0, 1) := by decide +kernel
theorem dX6_lying_1 : decode cX6_lying 1 = .ok (.getfield 26, 3) := by decide +kernel
theorem dX6_lying_4 : decode cX6_lying 4 = .ok (.aload_n 0, 1) := by decide +kernel
theorem dX6_lying_5 : decode cX6_lying 5 = .ok (.getfield 10, 3) := by decide +kernel
theorem dX6_lying_8 : decode cX6_lying 8 = .ok (.aload_n 0, 1) := by decide +kernel
theorem dX6_lying_9 : decode cX6_lying 9 = .ok (.getfield 19, 3) := by decide +kernel
theorem dX6_lying_12 : decode cX6_lying 12 = .ok (.invokevirtual 171, 3) := by decide +kernel
theorem dX6_lying_15 : decode cX6_lying 15 = .ok (.iload_n 1, 1) := by decide +kernel
theorem dX6_lying_16 : decode cX6_lying 16 = .ok (.invokevirtual 175, 3) := by decide +kernel
theorem dX6_lying_19 : decode cX6_lying 19 = .ok (.ireturn, 1) := by decide +kernel
theorem dX6_offer_0 : decode cX6_offer 0 = .ok (.aload_n 0, 1) := by decide +kernel
theorem dX6_offer_1 : decode cX6_offer 1 = .ok (.getfield 10, 3) := by decide +kernel
theorem dX6_offer_4 : decode cX6_offer 4 = .ok (.iload_n 1, 1) := by decide +kernel
theorem dX6_offer_5 : decode cX6_offer 5 = .ok (.invokevirtual 55, 3) := by decide +kernel
theorem dX6_offer_8 : decode cX6_offer 8 = .ok (.ifCond .ne 6, 3) := by decide +kernel
theorem dX6_offer_11 : decode cX6_offer 11 = .ok (.bipush (-102), 2) := by decide +kernel
theorem dX6_offer_13 : decode cX6_offer 13 = .ok (.ireturn, 1) := by decide +kernel
theorem dX6_offer_14 : decode cX6_offer 14 = .ok (.aload_n 0, 1) := by decide +kernel
theorem dX6_offer_15 : decode cX6_offer 15 = .ok (.getfield 10, 3) := by decide +kernel
theorem dX6_offer_18 : decode cX6_offer 18 = .ok (.getfield 118, 3) := by decide +kernel
theorem dX6_offer_21 : decode cX6_offer 21 = .ok (.bipush 10, 2) := by decide +kernel
theorem dX6_offer_23 : decode cX6_offer 23 = .ok (.if_icmp .lt 6, 3) := by decide +kernel
theorem dX6_offer_26 : decode cX6_offer 26 = .ok (.bipush (-104), 2) := by decide +kernel
theorem dX6_offer_28 : decode cX6_offer 28 = .ok (.ireturn, 1) := by decide +kernel
theorem dX6_offer_29 : decode cX6_offer 29 = .ok (.aload_n 0, 1) := by decide +kernel
theorem dX6_offer_30 : decode cX6_offer 30 = .ok (.getfield 10, 3) := by decide +kernel
theorem dX6_offer_33 : decode cX6_offer 33 = .ok (.iload_n 1, 1) := by decide +kernel
theorem dX6_offer_34 : decode cX6_offer 34 = .ok (.invokevirtual 180, 3) := by decide +kernel
theorem dX6_offer_37 : decode cX6_offer 37 = .ok (.ireturn, 1) := by decide +kernel
theorem dX6_offered_0 : decode cX6_offered 0 = .ok (.aload_n 0, 1) := by decide +kernel
theorem dX6_offered_1 : decode cX6_offered 1 = .ok (.getfield 10, 3) := by decide +kernel
theorem dX6_offered_4 : decode cX6_offered 4 = .ok (.iload_n 1, 1) := by decide +kernel
theorem dX6_offered_5 : decode cX6_offered 5 = .ok (.invokevirtual 183, 3) := by decide +kernel
theorem dX6_offered_8 : decode cX6_offered 8 = .ok (.ifCond .ne 6, 3) := by decide +kernel
theorem dX6_offered_11 : decode cX6_offered 11 = .ok (.bipush (-101), 2) := by decide +kernel
theorem dX6_offered_13 : decode cX6_offered 13 = .ok (.ireturn, 1) := by decide +kernel
theorem dX6_offered_14 : decode cX6_offered 14 = .ok (.aload_n 0, 1) := by decide +kernel
theorem dX6_offered_15 : decode cX6_offered 15 = .ok (.getfield 10, 3) := by decide +kernel
theorem dX6_offered_18 : decode cX6_offered 18 = .ok (.iload_n 2, 1) := by decide +kernel
theorem dX6_offered_19 : decode cX6_offered 19 = .ok (.invokevirtual 55, 3) := by decide +kernel
theorem dX6_offered_22 : decode cX6_offered 22 = .ok (.ifCond .ne 6, 3) := by decide +kernel
theorem dX6_offered_25 : decode cX6_offered 25 = .ok (.bipush (-102), 2) := by decide +kernel
theorem dX6_offered_27 : decode cX6_offered 27 = .ok (.ireturn, 1) := by decide +kernel
theorem dX6_offered_28 : decode cX6_offered 28 = .ok (.aload_n 0, 1) := by decide +kernel
theorem dX6_offered_29 : decode cX6_offered 29 = .ok (.getfield 10, 3) := by decide +kernel
theorem dX6_offered_32 : decode cX6_offered 32 = .ok (.getfield 186, 3) := by decide +kernel
theorem dX6_offered_35 : decode cX6_offered 35 = .ok (.iload_n 1, 1) := by decide +kernel
theorem dX6_offered_36 : decode cX6_offered 36 = .ok (.iaload, 1) := by decide +kernel
theorem dX6_offered_37 : decode cX6_offered 37 = .ok (.istore_n 3, 1) := by decide +kernel
theorem dX6_offered_38 : decode cX6_offered 38 = .ok (.aload_n 0, 1) := by decide +kernel
theorem dX6_offered_39 : decode cX6_offered 39 = .ok (.getfield 10, 3) := by decide +kernel
theorem dX6_offered_42 : decode cX6_offered 42 = .ok (.getfield 186, 3) := by decide +kernel
theorem dX6_offered_45 : decode cX6_offered 45 = .ok (.iload_n 1, 1) := by decide +kernel
theorem dX6_offered_46 : decode cX6_offered 46 = .ok (.iload_n 2, 1) := by decide +kernel
theorem dX6_offered_47 : decode cX6_offered 47 = .ok (.iastore, 1) := by decide +kernel
theorem dX6_offered_48 : decode cX6_offered 48 = .ok (.iload_n 3, 1) := by decide +kernel
theorem dX6_offered_49 : decode cX6_offered 49 = .ok (.ireturn, 1) := by decide +kernel
theorem dX6_advice_0 : decode cX6_advice 0 = .ok (.aload_n 0, 1) := by decide +kernel
theorem dX6_advice_1 : decode cX6_advice 1 = .ok (.getfield 10, 3) := by decide +kernel
theorem dX6_advice_4 : decode cX6_advice 4 = .ok (.iload_n 1, 1) := by decide +kernel
theorem dX6_advice_5 : decode cX6_advice 5 = .ok (.invokevirtual 125, 3) := by decide +kernel
theorem dX6_advice_8 : decode cX6_advice 8 = .ok (.ifCond .ne 6, 3) := by decide +kernel
theorem dX6_advice_11 : decode cX6_advice 11 = .ok (.bipush (-102), 2) := by decide +kernel
theorem dX6_advice_13 : decode cX6_advice 13 = .ok (.ireturn, 1) := by decide +kernel
theorem dX6_advice_14 : decode cX6_advice 14 = .ok (.aload_n 0, 1) := by decide +kernel
theorem dX6_advice_15 : decode cX6_advice 15 = .ok (.getfield 33, 3) := by decide +kernel
theorem dX6_advice_18 : decode cX6_advice 18 = .ok (.aload_n 0, 1) := by decide +kernel
theorem dX6_advice_19 : decode cX6_advice 19 = .ok (.getfield 10, 3) := by decide +kernel
theorem dX6_advice_22 : decode cX6_advice 22 = .ok (.iload_n 1, 1) := by decide +kernel
theorem dX6_advice_23 : decode cX6_advice 23 = .ok (.invokevirtual 189, 3) := by decide +kernel
theorem dX6_advice_26 : decode cX6_advice 26 = .ok (.ireturn, 1) := by decide +kernel
theorem dX6_sick_0 : decode cX6_sick 0 = .ok (.aload_n 0, 1) := by decide +kernel
theorem dX6_sick_1 : decode cX6_sick 1 = .ok (.getfield 40, 3) := by decide +kernel
theorem dX6_sick_4 : decode cX6_sick 4 = .ok (.aload_n 0, 1) := by decide +kernel
theorem dX6_sick_5 : decode cX6_sick 5 = .ok (.getfield 10, 3) := by decide +kernel
theorem dX6_sick_8 : decode cX6_sick 8 = .ok (.invokevirtual 193, 3) := by decide +kernel
theorem dX6_sick_11 : decode cX6_sick 11 = .ok (.iload_n 1, 1) := by decide +kernel
theorem dX6_sick_12 : decode cX6_sick 12 = .ok (.invokevirtual 175, 3) := by decide +kernel
theorem dX6_sick_15 : decode cX6_sick 15 = .ok (.ireturn, 1) := by decide +kernel
theorem dX6_pair_0 : decode cX6_pair 0 = .ok (.iload_n 1, 1) := by decide +kernel
theorem dX6_pair_1 : decode cX6_pair 1 = .ok (.iload_n 2, 1) := by decide +kernel
theorem dX6_pair_2 : decode cX6_pair 2 = .ok (.iload_n 3, 1) := by decide +kernel
theorem dX6_pair_3 : decode cX6_pair 3 = .ok (.iload 4, 2) := by decide +kernel
theorem dX6_pair_5 : decode cX6_pair 5 = .ok (.invokestatic 196, 3) := by decide +kernel
theorem dX6_pair_8 : decode cX6_pair 8 = .ok (.ifCond .eq 22, 3) := by decide +kernel
theorem dX6_pair_11 : decode cX6_pair 11 = .ok (.iload 5, 2) := by decide +kernel
theorem dX6_pair_13 : decode cX6_pair 13 = .ok (.ifCond .lt 17, 3) := by decide +kernel
theorem dX6_pair_16 : decode cX6_pair 16 = .ok (.iload 5, 2) := by decide +kernel
theorem dX6_pair_18 : decode cX6_pair 18 = .ok (.iconst 2, 1) := by decide +kernel
theorem dX6_pair_19 : decode cX6_pair 19 = .ok (.if_icmp .gt 11, 3) := by decide +kernel
theorem dX6_pair_22 : decode cX6_pair 22 = .ok (.iload 6, 2) := by decide +kernel
theorem dX6_pair_24 : decode cX6_pair 24 = .ok (.invokestatic 128, 3) := by decide +kernel
theorem dX6_pair_27 : decode cX6_pair 27 = .ok (.ifCond .ne 7, 3) := by decide +kernel
theorem dX6_pair_30 : decode cX6_pair 30 = .ok (.ldc2_w 131, 3) := by decide +kernel
theorem dX6_pair_33 : decode cX6_pair 33 = .ok (.lreturn, 1) := by decide +kernel
theorem dX6_pair_34 : decode cX6_pair 34 = .ok (.iload 4, 2) := by decide +kernel
theorem dX6_pair_36 : decode cX6_pair 36 = .ok (.ifCond .ne 7, 3) := by decide +kernel
theorem dX6_pair_39 : decode cX6_pair 39 = .ok (.ldc2_w 133, 3) := by decide +kernel
theorem dX6_pair_42 : decode cX6_pair 42 = .ok (.lreturn, 1) := by decide +kernel
theorem dX6_pair_43 : decode cX6_pair 43 = .ok (.iload 5, 2) := by decide +kernel
theorem dX6_pair_45 : decode cX6_pair 45 = .ok (.ifCond .ne 20, 3) := by decide +kernel
theorem dX6_pair_48 : decode cX6_pair 48 = .ok (.iload_n 2, 1) := by decide +kernel
theorem dX6_pair_49 : decode cX6_pair 49 = .ok (.i2l, 1) := by decide +kernel
theorem dX6_pair_50 : decode cX6_pair 50 = .ok (.iload_n 3, 1) := by decide +kernel
theorem dX6_pair_51 : decode cX6_pair 51 = .ok (.i2l, 1) := by decide +kernel
theorem dX6_pair_52 : decode cX6_pair 52 = .ok (.lmul, 1) := by decide +kernel
theorem dX6_pair_53 : decode cX6_pair 53 = .ok (.iload_n 1, 1) := by decide +kernel
theorem dX6_pair_54 : decode cX6_pair 54 = .ok (.i2l, 1) := by decide +kernel
theorem dX6_pair_55 : decode cX6_pair 55 = .ok (.iload 4, 2) := by decide +kernel
theorem dX6_pair_57 : decode cX6_pair 57 = .ok (.i2l, 1) := by decide +kernel
theorem dX6_pair_58 : decode cX6_pair 58 = .ok (.lmul, 1) := by decide +kernel
theorem dX6_pair_59 : decode cX6_pair 59 = .ok (.iload 6, 2) := by decide +kernel
theorem dX6_pair_61 : decode cX6_pair 61 = .ok (.invokestatic 153, 3) := by decide +kernel
theorem dX6_pair_64 : decode cX6_pair 64 = .ok (.lreturn, 1) := by decide +kernel
theorem dX6_pair_65 : decode cX6_pair 65 = .ok (.iload 4, 2) := by decide +kernel
theorem dX6_pair_67 : decode cX6_pair 67 = .ok (.i2l, 1) := by decide +kernel
theorem dX6_pair_68 : decode cX6_pair 68 = .ok (.iload 5, 2) := by decide +kernel
theorem dX6_pair_70 : decode cX6_pair 70 = .ok (.iconst 1, 1) := by decide +kernel
theorem dX6_pair_71 : decode cX6_pair 71 = .ok (.if_icmp .ne 8, 3) := by decide +kernel
theorem dX6_pair_74 : decode cX6_pair 74 = .ok (.iload_n 3, 1) := by decide +kernel
theorem dX6_pair_75 : decode cX6_pair 75 = .ok (.i2l, 1) := by decide +kernel
theorem dX6_pair_76 : decode cX6_pair 76 = .ok (.goto 5, 3) := by decide +kernel
theorem dX6_pair_79 : decode cX6_pair 79 = .ok (.iload_n 2, 1) := by decide +kernel
theorem dX6_pair_80 : decode cX6_pair 80 = .ok (.i2l, 1) := by decide +kernel
theorem dX6_pair_81 : decode cX6_pair 81 = .ok (.iload 6, 2) := by decide +kernel
theorem dX6_pair_83 : decode cX6_pair 83 = .ok (.invokestatic 153, 3) := by decide +kernel
theorem dX6_pair_86 : decode cX6_pair 86 = .ok (.lreturn, 1) := by decide +kernel
theorem dX6_forgetAnswers_0 : decode cX6_forgetAnswers 0 = .ok (.aload_n 0, 1) := by decide +kernel
theorem dX6_forgetAnswers_1 : decode cX6_forgetAnswers 1 = .ok (.getfield 19, 3) := by decide +kernel
theorem dX6_forgetAnswers_4 : decode cX6_forgetAnswers 4 = .ok (.invokevirtual 200, 3) := by decide +kernel
theorem dX6_forgetAnswers_7 : decode cX6_forgetAnswers 7 = .ok (.aload_n 0, 1) := by decide +kernel
theorem dX6_forgetAnswers_8 : decode cX6_forgetAnswers 8 = .ok (.getfield 26, 3) := by decide +kernel
theorem dX6_forgetAnswers_11 : decode cX6_forgetAnswers 11 = .ok (.invokevirtual 203, 3) := by decide +kernel
theorem dX6_forgetAnswers_14 : decode cX6_forgetAnswers 14 = .ok (.return_, 1) := by decide +kernel
theorem dX6_isEndless_0 : decode cX6_isEndless 0 = .ok (.iload_n 2, 1) := by decide +kernel
theorem dX6_isEndless_1 : decode cX6_isEndless 1 = .ok (.iconst 1, 1) := by decide +kernel
theorem dX6_isEndless_2 : decode cX6_isEndless 2 = .ok (.if_icmp .ne 21, 3) := by decide +kernel
theorem dX6_isEndless_5 : decode cX6_isEndless 5 = .ok (.iload_n 1, 1) := by decide +kernel
theorem dX6_isEndless_6 : decode cX6_isEndless 6 = .ok (.aload_n 0, 1) := by decide +kernel
theorem dX6_isEndless_7 : decode cX6_isEndless 7 = .ok (.getfield 10, 3) := by decide +kernel
theorem dX6_isEndless_10 : decode cX6_isEndless 10 = .ok (.invokevirtual 105, 3) := by decide +kernel
theorem dX6_isEndless_13 : decode cX6_isEndless 13 = .ok (.iconst (-1), 1) := by decide +kernel
theorem dX6_isEndless_14 : decode cX6_isEndless 14 = .ok (.ixor, 1) := by decide +kernel
theorem dX6_isEndless_15 : decode cX6_isEndless 15 = .ok (.iand, 1) := by decide +kernel
theorem dX6_isEndless_16 : decode cX6_isEndless 16 = .ok (.ifCond .eq 7, 3) := by decide +kernel
theorem dX6_isEndless_19 : decode cX6_isEndless 19 = .ok (.iconst 1, 1) := by decide +kernel
theorem dX6_isEndless_20 : decode cX6_isEndless 20 = .ok (.goto 4, 3) := by decide +kernel
theorem dX6_isEndless_23 : decode cX6_isEndless 23 = .ok (.iconst 0, 1) := by decide +kernel
theorem dX6_isEndless_24 : decode cX6_isEndless 24 = .ok (.ireturn, 1) := by decide +kernel
theorem dX6_settledLines_0 : decode cX6_settledLines 0 = .ok (.aload_n 0, 1) := by decide +kernel
theorem dX6_settledLines_1 : decode cX6_settledLines 1 = .ok (.getfield 19, 3) := by decide +kernel
theorem dX6_settledLines_4 : decode cX6_settledLines 4 = .ok (.aload_n 0, 1) := by decide +kernel
theorem dX6_settledLines_5 : decode cX6_settledLines 5 = .ok (.getfield 10, 3) := by decide +kernel
theorem dX6_settledLines_8 : decode cX6_settledLines 8 = .ok (.aload_n 0, 1) := by decide +kernel
theorem dX6_settledLines_9 : decode cX6_settledLines 9 = .ok (.getfield 10, 3) := by decide +kernel
theorem dX6_settledLines_12 : decode cX6_settledLines 12 = .ok (.getfield 79, 3) := by decide +kernel
theorem dX6_settledLines_15 : decode cX6_settledLines 15 = .ok (.invokevirtual 121, 3) := by decide +kernel
theorem dX6_settledLines_18 : decode cX6_settledLines 18 = .ok (.ifCond .ne 6, 3) := by decide +kernel
theorem dX6_settledLines_21 : decode cX6_settledLines 21 = .ok (.bipush (-103), 2) := by decide +kernel
theorem dX6_settledLines_23 : decode cX6_settledLines 23 = .ok (.ireturn, 1) := by decide +kernel
theorem dX6_settledLines_24 : decode cX6_settledLines 24 = .ok (.iconst 0, 1) := by decide +kernel
theorem dX6_settledLines_25 : decode cX6_settledLines 25 = .ok (.istore_n 1, 1) := by decide +kernel
theorem dX6_settledLines_26 : decode cX6_settledLines 26 = .ok (.iconst 0, 1) := by decide +kernel
theorem dX6_settledLines_27 : decode cX6_settledLines 27 = .ok (.istore_n 2, 1) := by decide +kernel
theorem dX6_settledLines_28 : decode cX6_settledLines 28 = .ok (.iload_n 2, 1) := by decide +kernel
theorem dX6_settledLines_29 : decode cX6_settledLines 29 = .ok (.aload_n 0, 1) := by decide +kernel
theorem dX6_settledLines_30 : decode cX6_settledLines 30 = .ok (.getfield 10, 3) := by decide +kernel
theorem dX6_settledLines_33 : decode cX6_settledLines 33 = .ok (.getfield 44, 3) := by decide +kernel
theorem dX6_settledLines_36 : decode cX6_settledLines 36 = .ok (.if_icmp .ge 20, 3) := by decide +kernel
theorem dX6_settledLines_39 : decode cX6_settledLines 39 = .ok (.aload_n 0, 1) := by decide +kernel
theorem dX6_settledLines_40 : decode cX6_settledLines 40 = .ok (.iload_n 2, 1) := by decide +kernel
theorem dX6_settledLines_41 : decode cX6_settledLines 41 = .ok (.invokevirtual 165, 3) := by decide +kernel
theorem dX6_settledLines_44 : decode cX6_settledLines 44 = .ok (.ifCond .eq 6, 3) := by decide +kernel
theorem dX6_settledLines_47 : decode cX6_settledLines 47 = .ok (.iinc 1 1, 3) := by decide +kernel
theorem dX6_settledLines_50 : decode cX6_settledLines 50 = .ok (.iinc 2 1, 3) := by decide +kernel
theorem dX6_settledLines_53 : decode cX6_settledLines 53 = .ok (.goto (-25), 3) := by decide +kernel
theorem dX6_settledLines_56 : decode cX6_settledLines 56 = .ok (.iload_n 1, 1) := by decide +kernel
theorem dX6_settledLines_57 : decode cX6_settledLines 57 = .ok (.ireturn, 1) := by decide +kernel
theorem dX6_isSettledLine_0 : decode cX6_isSettledLine 0 = .ok (.iconst 1, 1) := by decide +kernel
theorem dX6_isSettledLine_1 : decode cX6_isSettledLine 1 = .ok (.iload_n 1, 1) := by decide +kernel
theorem dX6_isSettledLine_2 : decode cX6_isSettledLine 2 = .ok (.ishl, 1) := by decide +kernel
theorem dX6_isSettledLine_3 : decode cX6_isSettledLine 3 = .ok (.istore_n 2, 1) := by decide +kernel
theorem dX6_isSettledLine_4 : decode cX6_isSettledLine 4 = .ok (.aload_n 0, 1) := by decide +kernel
theorem dX6_isSettledLine_5 : decode cX6_isSettledLine 5 = .ok (.iload_n 2, 1) := by decide +kernel
theorem dX6_isSettledLine_6 : decode cX6_isSettledLine 6 = .ok (.iconst 1, 1) := by decide +kernel
theorem dX6_isSettledLine_7 : decode cX6_isSettledLine 7 = .ok (.invokevirtual 135, 3) := by decide +kernel
theorem dX6_isSettledLine_10 : decode cX6_isSettledLine 10 = .ok (.ifCond .eq 5, 3) := by decide +kernel
theorem dX6_isSettledLine_13 : decode cX6_isSettledLine 13 = .ok (.iconst 0, 1) := by decide +kernel
theorem dX6_isSettledLine_14 : decode cX6_isSettledLine 14 = .ok (.ireturn, 1) := by decide +kernel
theorem dX6_isSettledLine_15 : decode cX6_isSettledLine 15 = .ok (.aload_n 0, 1) := by decide +kernel
theorem dX6_isSettledLine_16 : decode cX6_isSettledLine 16 = .ok (.getfield 19, 3) := by decide +kernel
theorem dX6_isSettledLine_19 : decode cX6_isSettledLine 19 = .ok (.iload_n 2, 1) := by decide +kernel
theorem dX6_isSettledLine_20 : decode cX6_isSettledLine 20 = .ok (.iconst 0, 1) := by decide +kernel
theorem dX6_isSettledLine_21 : decode cX6_isSettledLine 21 = .ok (.invokevirtual 141, 3) := by decide +kernel
theorem dX6_isSettledLine_24 : decode cX6_isSettledLine 24 = .ok (.aload_n 0, 1) := by decide +kernel
theorem dX6_isSettledLine_25 : decode cX6_isSettledLine 25 = .ok (.getfield 19, 3) := by decide +kernel
theorem dX6_isSettledLine_28 : decode cX6_isSettledLine 28 = .ok (.iload_n 2, 1) := by decide +kernel
theorem dX6_isSettledLine_29 : decode cX6_isSettledLine 29 = .ok (.invokevirtual 145, 3) := by decide +kernel
theorem dX6_isSettledLine_32 : decode cX6_isSettledLine 32 = .ok (.lstore_n 3, 1) := by decide +kernel
theorem dX6_isSettledLine_33 : decode cX6_isSettledLine 33 = .ok (.aload_n 0, 1) := by decide +kernel
theorem dX6_isSettledLine_34 : decode cX6_isSettledLine 34 = .ok (.getfield 19, 3) := by decide +kernel
theorem dX6_isSettledLine_37 : decode cX6_isSettledLine 37 = .ok (.getfield 149, 3) := by decide +kernel
theorem dX6_isSettledLine_40 : decode cX6_isSettledLine 40 = .ok (.lstore 5, 2) := by decide +kernel
theorem dX6_isSettledLine_42 : decode cX6_isSettledLine 42 = .ok (.aload_n 0, 1) := by decide +kernel
theorem dX6_isSettledLine_43 : decode cX6_isSettledLine 43 = .ok (.getfield 19, 3) := by decide +kernel
theorem dX6_isSettledLine_46 : decode cX6_isSettledLine 46 = .ok (.iload_n 2, 1) := by decide +kernel
theorem dX6_isSettledLine_47 : decode cX6_isSettledLine 47 = .ok (.iconst 1, 1) := by decide +kernel
theorem dX6_isSettledLine_48 : decode cX6_isSettledLine 48 = .ok (.invokevirtual 141, 3) := by decide +kernel
theorem dX6_isSettledLine_51 : decode cX6_isSettledLine 51 = .ok (.lload_n 3, 1) := by decide +kernel
theorem dX6_isSettledLine_52 : decode cX6_isSettledLine 52 = .ok (.aload_n 0, 1) := by decide +kernel
theorem dX6_isSettledLine_53 : decode cX6_isSettledLine 53 = .ok (.getfield 19, 3) := by decide +kernel
theorem dX6_isSettledLine_56 : decode cX6_isSettledLine 56 = .ok (.getfield 149, 3) := by decide +kernel
theorem dX6_isSettledLine_59 : decode cX6_isSettledLine 59 = .ok (.lmul, 1) := by decide +kernel
theorem dX6_isSettledLine_60 : decode cX6_isSettledLine 60 = .ok (.aload_n 0, 1) := by decide +kernel
theorem dX6_isSettledLine_61 : decode cX6_isSettledLine 61 = .ok (.getfield 19, 3) := by decide +kernel
theorem dX6_isSettledLine_64 : decode cX6_isSettledLine 64 = .ok (.iload_n 2, 1) := by decide +kernel
theorem dX6_isSettledLine_65 : decode cX6_isSettledLine 65 = .ok (.invokevirtual 145, 3) := by decide +kernel
theorem dX6_isSettledLine_68 : decode cX6_isSettledLine 68 = .ok (.lload 5, 2) := by decide +kernel
theorem dX6_isSettledLine_70 : decode cX6_isSettledLine 70 = .ok (.lmul, 1) := by decide +kernel
theorem dX6_isSettledLine_71 : decode cX6_isSettledLine 71 = .ok (.lcmp, 1) := by decide +kernel
theorem dX6_isSettledLine_72 : decode cX6_isSettledLine 72 = .ok (.ifCond .ne 7, 3) := by decide +kernel
theorem dX6_isSettledLine_75 : decode cX6_isSettledLine 75 = .ok (.iconst 1, 1) := by decide +kernel
theorem dX6_isSettledLine_76 : decode cX6_isSettledLine 76 = .ok (.goto 4, 3) := by decide +kernel
theorem dX6_isSettledLine_79 : decode cX6_isSettledLine 79 = .ok (.iconst 0, 1) := by decide +kernel
theorem dX6_isSettledLine_80 : decode cX6_isSettledLine 80 = .ok (.ireturn, 1) := by decide +kernel
theorem dX6_isSum_0 : decode cX6_isSum 0 = .ok (.iload_n 0, 1) := by decide +kernel
theorem dX6_isSum_1 : decode cX6_isSum 1 = .ok (.ifCond .lt 13, 3) := by decide +kernel
theorem dX6_isSum_4 : decode cX6_isSum 4 = .ok (.iload_n 0, 1) := by decide +kernel
theorem dX6_isSum_5 : decode cX6_isSum 5 = .ok (.ldc 204, 2) := by decide +kernel
theorem dX6_isSum_7 : decode cX6_isSum 7 = .ok (.if_icmp .gt 7, 3) := by decide +kernel
theorem dX6_isSum_10 : decode cX6_isSum 10 = .ok (.iconst 1, 1) := by decide +kernel
theorem dX6_isSum_11 : decode cX6_isSum 11 = .ok (.goto 4, 3) := by decide +kernel
theorem dX6_isSum_14 : decode cX6_isSum 14 = .ok (.iconst 0, 1) := by decide +kernel
theorem dX6_isSum_15 : decode cX6_isSum 15 = .ok (.ireturn, 1) := by decide +kernel
theorem dX6_isZeroOrOne_0 : decode cX6_isZeroOrOne 0 = .ok (.iload_n 0, 1) := by decide +kernel
theorem dX6_isZeroOrOne_1 : decode cX6_isZeroOrOne 1 = .ok (.ifCond .eq 8, 3) := by decide +kernel
theorem dX6_isZeroOrOne_4 : decode cX6_isZeroOrOne 4 = .ok (.iload_n 0, 1) := by decide +kernel
theorem dX6_isZeroOrOne_5 : decode cX6_isZeroOrOne 5 = .ok (.iconst 1, 1) := by decide +kernel
theorem dX6_isZeroOrOne_6 : decode cX6_isZeroOrOne 6 = .ok (.if_icmp .ne 7, 3) := by decide +kernel
theorem dX6_isZeroOrOne_9 : decode cX6_isZeroOrOne 9 = .ok (.iconst 1, 1) := by decide +kernel
theorem dX6_isZeroOrOne_10 : decode cX6_isZeroOrOne 10 = .ok (.goto 4, 3) := by decide +kernel
theorem dX6_isZeroOrOne_13 : decode cX6_isZeroOrOne 13 = .ok (.iconst 0, 1) := by decide +kernel
theorem dX6_isZeroOrOne_14 : decode cX6_isZeroOrOne 14 = .ok (.ireturn, 1) := by decide +kernel
theorem dX6_isPair_0 : decode cX6_isPair 0 = .ok (.iload_n 0, 1) := by decide +kernel
theorem dX6_isPair_1 : decode cX6_isPair 1 = .ok (.ldc 205, 2) := by decide +kernel
theorem dX6_isPair_3 : decode cX6_isPair 3 = .ok (.if_icmp .gt 31, 3) := by decide +kernel
theorem dX6_isPair_6 : decode cX6_isPair 6 = .ok (.iload_n 1, 1) := by decide +kernel
theorem dX6_isPair_7 : decode cX6_isPair 7 = .ok (.iload_n 0, 1) := by decide +kernel
theorem dX6_isPair_8 : decode cX6_isPair 8 = .ok (.if_icmp .gt 26, 3) := by decide +kernel
theorem dX6_isPair_11 : decode cX6_isPair 11 = .ok (.iload_n 2, 1) := by decide +kernel
theorem dX6_isPair_12 : decode cX6_isPair 12 = .ok (.iload_n 0, 1) := by decide +kernel
theorem dX6_isPair_13 : decode cX6_isPair 13 = .ok (.if_icmp .gt 21, 3) := by decide +kernel
theorem dX6_isPair_16 : decode cX6_isPair 16 = .ok (.iload_n 3, 1) := by decide +kernel
theorem dX6_isPair_17 : decode cX6_isPair 17 = .ok (.iload_n 1, 1) := by decide +kernel
theorem dX6_isPair_18 : decode cX6_isPair 18 = .ok (.if_icmp .gt 16, 3) := by decide +kernel
theorem dX6_isPair_21 : decode cX6_isPair 21 = .ok (.iload_n 3, 1) := by decide +kernel
theorem dX6_isPair_22 : decode cX6_isPair 22 = .ok (.iload_n 2, 1) := by decide +kernel
theorem dX6_isPair_23 : decode cX6_isPair 23 = .ok (.if_icmp .gt 11, 3) := by decide +kernel
theorem dX6_isPair_26 : decode cX6_isPair 26 = .ok (.iload_n 3, 1) := by decide +kernel
theorem dX6_isPair_27 : decode cX6_isPair 27 = .ok (.ifCond .lt 7, 3) := by decide +kernel
theorem dX6_isPair_30 : decode cX6_isPair 30 = .ok (.iconst 1, 1) := by decide +kernel
theorem dX6_isPair_31 : decode cX6_isPair 31 = .ok (.goto 4, 3) := by decide +kernel
theorem dX6_isPair_34 : decode cX6_isPair 34 = .ok (.iconst 0, 1) := by decide +kernel
theorem dX6_isPair_35 : decode cX6_isPair 35 = .ok (.ireturn, 1) := by decide +kernel
theorem dX6_bitOf_0 : decode cX6_bitOf 0 = .ok (.iload_n 0, 1) := by decide +kernel
theorem dX6_bitOf_1 : decode cX6_bitOf 1 = .ok (.iload_n 1, 1) := by decide +kernel
theorem dX6_bitOf_2 : decode cX6_bitOf 2 = .ok (.ishr, 1) := by decide +kernel
theorem dX6_bitOf_3 : decode cX6_bitOf 3 = .ok (.iconst 1, 1) := by decide +kernel
theorem dX6_bitOf_4 : decode cX6_bitOf 4 = .ok (.iand, 1) := by decide +kernel
theorem dX6_bitOf_5 : decode cX6_bitOf 5 = .ok (.ireturn, 1) := by decide +kernel
theorem dX6_withBit_0 : decode cX6_withBit 0 = .ok (.iload_n 2, 1) := by decide +kernel
theorem dX6_withBit_1 : decode cX6_withBit 1 = .ok (.ifCond .eq 11, 3) := by decide +kernel
theorem dX6_withBit_4 : decode cX6_withBit 4 = .ok (.iload_n 0, 1) := by decide +kernel
theorem dX6_withBit_5 : decode cX6_withBit 5 = .ok (.iconst 1, 1) := by decide +kernel
theorem dX6_withBit_6 : decode cX6_withBit 6 = .ok (.iload_n 1, 1) := by decide +kernel
theorem dX6_withBit_7 : decode cX6_withBit 7 = .ok (.ishl, 1) := by decide +kernel
theorem dX6_withBit_8 : decode cX6_withBit 8 = .ok (.ior, 1) := by decide +kernel
theorem dX6_withBit_9 : decode cX6_withBit 9 = .ok (.goto 10, 3) := by decide +kernel
theorem dX6_withBit_12 : decode cX6_withBit 12 = .ok (.iload_n 0, 1) := by decide +kernel
theorem dX6_withBit_13 : decode cX6_withBit 13 = .ok (.iconst 1, 1) := by decide +kernel
theorem dX6_withBit_14 : decode cX6_withBit 14 = .ok (.iload_n 1, 1) := by decide +kernel
theorem dX6_withBit_15 : decode cX6_withBit 15 = .ok (.ishl, 1) := by decide +kernel
theorem dX6_withBit_16 : decode cX6_withBit 16 = .ok (.iconst (-1), 1) := by decide +kernel
theorem dX6_withBit_17 : decode cX6_withBit 17 = .ok (.ixor, 1) := by decide +kernel
theorem dX6_withBit_18 : decode cX6_withBit 18 = .ok (.iand, 1) := by decide +kernel
theorem dX6_withBit_19 : decode cX6_withBit 19 = .ok (.ireturn, 1) := by decide +kernel
theorem dX6_partOfFraction_0 : decode cX6_partOfFraction 0 = .ok (.lload_n 0, 1) := by decide +kernel
theorem dX6_partOfFraction_1 : decode cX6_partOfFraction 1 = .ok (.lload_n 2, 1) := by decide +kernel
theorem dX6_partOfFraction_2 : decode cX6_partOfFraction 2 = .ok (.invokestatic 206, 3) := by decide +kernel
theorem dX6_partOfFraction_5 : decode cX6_partOfFraction 5 = .ok (.lstore 5, 2) := by decide +kernel
theorem dX6_partOfFraction_7 : decode cX6_partOfFraction 7 = .ok (.iload 4, 2) := by decide +kernel
theorem dX6_partOfFraction_9 : decode cX6_partOfFraction 9 = .ok (.ifCond .ne 7, 3) := by decide +kernel
theorem dX6_partOfFraction_12 : decode cX6_partOfFraction 12 = .ok (.lload_n 0, 1) := by decide +kernel
theorem dX6_partOfFraction_13 : decode cX6_partOfFraction 13 = .ok (.goto 4, 3) := by decide +kernel
theorem dX6_partOfFraction_16 : decode cX6_partOfFraction 16 = .ok (.lload_n 2, 1) := by decide +kernel
theorem dX6_partOfFraction_17 : decode cX6_partOfFraction 17 = .ok (.lstore 7, 2) := by decide +kernel
theorem dX6_partOfFraction_19 : decode cX6_partOfFraction 19 = .ok (.lload 5, 2) := by decide +kernel
theorem dX6_partOfFraction_21 : decode cX6_partOfFraction 21 = .ok (.lconst 0, 1) := by decide +kernel
theorem dX6_partOfFraction_22 : decode cX6_partOfFraction 22 = .ok (.lcmp, 1) := by decide +kernel
theorem dX6_partOfFraction_23 : decode cX6_partOfFraction 23 = .ok (.ifCond .le 11, 3) := by decide +kernel
theorem dX6_partOfFraction_26 : decode cX6_partOfFraction 26 = .ok (.lload 7, 2) := by decide +kernel
theorem dX6_partOfFraction_28 : decode cX6_partOfFraction 28 = .ok (.lload 5, 2) := by decide +kernel
theorem dX6_partOfFraction_30 : decode cX6_partOfFraction 30 = .ok (.ldiv, 1) := by decide +kernel
theorem dX6_partOfFraction_31 : decode cX6_partOfFraction 31 = .ok (.goto 5, 3) := by decide +kernel
theorem dX6_partOfFraction_34 : decode cX6_partOfFraction 34 = .ok (.lload 7, 2) := by decide +kernel
theorem dX6_partOfFraction_36 : decode cX6_partOfFraction 36 = .ok (.lreturn, 1) := by decide +kernel
theorem dX6_greatestDivisor_0 : decode cX6_greatestDivisor 0 = .ok (.lload_n 0, 1) := by decide +kernel
theorem dX6_greatestDivisor_1 : decode cX6_greatestDivisor 1 = .ok (.lstore 4, 2) := by decide +kernel
theorem dX6_greatestDivisor_3 : decode cX6_greatestDivisor 3 = .ok (.lload_n 2, 1) := by decide +kernel
theorem dX6_greatestDivisor_4 : decode cX6_greatestDivisor 4 = .ok (.lstore 6, 2) := by decide +kernel
theorem dX6_greatestDivisor_6 : decode cX6_greatestDivisor 6 = .ok (.iconst 0, 1) := by decide +kernel
theorem dX6_greatestDivisor_7 : decode cX6_greatestDivisor 7 = .ok (.istore 8, 2) := by decide +kernel
theorem dX6_greatestDivisor_9 : decode cX6_greatestDivisor 9 = .ok (.iload 8, 2) := by decide +kernel
theorem dX6_greatestDivisor_11 : decode cX6_greatestDivisor 11 = .ok (.bipush 100, 2) := by decide +kernel
theorem dX6_greatestDivisor_13 : decode cX6_greatestDivisor 13 = .ok (.if_icmp .ge 31, 3) := by decide +kernel
theorem dX6_greatestDivisor_16 : decode cX6_greatestDivisor 16 = .ok (.lload 6, 2) := by decide +kernel
theorem dX6_greatestDivisor_18 : decode cX6_greatestDivisor 18 = .ok (.lconst 0, 1) := by decide +kernel
theorem dX6_greatestDivisor_19 : decode cX6_greatestDivisor 19 = .ok (.lcmp, 1) := by decide +kernel
theorem dX6_greatestDivisor_20 : decode cX6_greatestDivisor 20 = .ok (.ifCond .eq 24, 3) := by decide +kernel
theorem dX6_greatestDivisor_23 : decode cX6_greatestDivisor 23 = .ok (.lload 4, 2) := by decide +kernel
theorem dX6_greatestDivisor_25 : decode cX6_greatestDivisor 25 = .ok (.lload 6, 2) := by decide +kernel
theorem dX6_greatestDivisor_27 : decode cX6_greatestDivisor 27 = .ok (.lrem, 1) := by decide +kernel
theorem dX6_greatestDivisor_28 : decode cX6_greatestDivisor 28 = .ok (.lstore 9, 2) := by decide +kernel
theorem dX6_greatestDivisor_30 : decode cX6_greatestDivisor 30 = .ok (.lload 6, 2) := by decide +kernel
theorem dX6_greatestDivisor_32 : decode cX6_greatestDivisor 32 = .ok (.lstore 4, 2) := by decide +kernel
theorem dX6_greatestDivisor_34 : decode cX6_greatestDivisor 34 = .ok (.lload 9, 2) := by decide +kernel
theorem dX6_greatestDivisor_36 : decode cX6_greatestDivisor 36 = .ok (.lstore 6, 2) := by decide +kernel
theorem dX6_greatestDivisor_38 : decode cX6_greatestDivisor 38 = .ok (.iinc 8 1, 3) := by decide +kernel
theorem dX6_greatestDivisor_41 : decode cX6_greatestDivisor 41 = .ok (.goto (-32), 3) := by decide +kernel
theorem dX6_greatestDivisor_44 : decode cX6_greatestDivisor 44 = .ok (.lload 4, 2) := by decide +kernel
theorem dX6_greatestDivisor_46 : decode cX6_greatestDivisor 46 = .ok (.lreturn, 1) := by decide +kernel
