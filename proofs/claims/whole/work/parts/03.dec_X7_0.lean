theorem dX7_init_0 : decode cX7_init 0 = .ok (.aload_n 0, 1) := by decide +kernel
theorem dX7_init_1 : decode cX7_init 1 = .ok (.invokespecial 1, 3) := by decide +kernel
theorem dX7_init_4 : decode cX7_init 4 = .ok (.aload_n 0, 1) := by decide +kernel
theorem dX7_init_5 : decode cX7_init 5 = .ok (.iconst 4, 1) := by decide +kernel
theorem dX7_init_6 : decode cX7_init 6 = .ok (.putfield 7, 3) := by decide +kernel
theorem dX7_init_9 : decode cX7_init 9 = .ok (.aload_n 0, 1) := by decide +kernel
theorem dX7_init_10 : decode cX7_init 10 = .ok (.bipush 10, 2) := by decide +kernel
theorem dX7_init_12 : decode cX7_init 12 = .ok (.newarray .int, 2) := by decide +kernel
theorem dX7_init_14 : decode cX7_init 14 = .ok (.putfield 13, 3) := by decide +kernel
theorem dX7_init_17 : decode cX7_init 17 = .ok (.aload_n 0, 1) := by decide +kernel
theorem dX7_init_18 : decode cX7_init 18 = .ok (.bipush 10, 2) := by decide +kernel
theorem dX7_init_20 : decode cX7_init 20 = .ok (.newarray .int, 2) := by decide +kernel
theorem dX7_init_22 : decode cX7_init 22 = .ok (.putfield 17, 3) := by decide +kernel
theorem dX7_init_25 : decode cX7_init 25 = .ok (.aload_n 0, 1) := by decide +kernel
theorem dX7_init_26 : decode cX7_init 26 = .ok (.bipush 10, 2) := by decide +kernel
theorem dX7_init_28 : decode cX7_init 28 = .ok (.newarray .boolean, 2) := by decide +kernel
theorem dX7_init_30 : decode cX7_init 30 = .ok (.putfield 20, 3) := by decide +kernel
theorem dX7_init_33 : decode cX7_init 33 = .ok (.aload_n 0, 1) := by decide +kernel
theorem dX7_init_34 : decode cX7_init 34 = .ok (.bipush 10, 2) := by decide +kernel
theorem dX7_init_36 : decode cX7_init 36 = .ok (.newarray .boolean, 2) := by decide +kernel
theorem dX7_init_38 : decode cX7_init 38 = .ok (.putfield 24, 3) := by decide +kernel
theorem dX7_init_41 : decode cX7_init 41 = .ok (.aload_n 0, 1) := by decide +kernel
theorem dX7_init_42 : decode cX7_init 42 = .ok (.bipush 10, 2) := by decide +kernel
theorem dX7_init_44 : decode cX7_init 44 = .ok (.newarray .int, 2) := by decide +kernel
theorem dX7_init_46 : decode cX7_init 46 = .ok (.putfield 27, 3) := by decide +kernel
theorem dX7_init_49 : decode cX7_init 49 = .ok (.aload_n 0, 1) := by decide +kernel
theorem dX7_init_50 : decode cX7_init 50 = .ok (.sipush 800, 3) := by decide +kernel
theorem dX7_init_53 : decode cX7_init 53 = .ok (.newarray .long, 2) := by decide +kernel
theorem dX7_init_55 : decode cX7_init 55 = .ok (.putfield 30, 3) := by decide +kernel
theorem dX7_init_58 : decode cX7_init 58 = .ok (.aload_n 0, 1) := by decide +kernel
theorem dX7_init_59 : decode cX7_init 59 = .ok (.bipush 10, 2) := by decide +kernel
theorem dX7_init_61 : decode cX7_init 61 = .ok (.newarray .int, 2) := by decide +kernel
theorem dX7_init_63 : decode cX7_init 63 = .ok (.putfield 34, 3) := by decide +kernel
theorem dX7_init_66 : decode cX7_init 66 = .ok (.aload_n 0, 1) := by decide +kernel
theorem dX7_init_67 : decode cX7_init 67 = .ok (.bipush 10, 2) := by decide +kernel
theorem dX7_init_69 : decode cX7_init 69 = .ok (.newarray .long, 2) := by decide +kernel
theorem dX7_init_71 : decode cX7_init 71 = .ok (.putfield 37, 3) := by decide +kernel
theorem dX7_init_74 : decode cX7_init 74 = .ok (.aload_n 0, 1) := by decide +kernel
theorem dX7_init_75 : decode cX7_init 75 = .ok (.bipush 10, 2) := by decide +kernel
theorem dX7_init_77 : decode cX7_init 77 = .ok (.newarray .long, 2) := by decide +kernel
theorem dX7_init_79 : decode cX7_init 79 = .ok (.putfield 40, 3) := by decide +kernel
theorem dX7_init_82 : decode cX7_init 82 = .ok (.aload_n 0, 1) := by decide +kernel
theorem dX7_init_83 : decode cX7_init 83 = .ok (.sipush 1024, 3) := by decide +kernel
theorem dX7_init_86 : decode cX7_init 86 = .ok (.newarray .int, 2) := by decide +kernel
theorem dX7_init_88 : decode cX7_init 88 = .ok (.putfield 43, 3) := by decide +kernel
theorem dX7_init_91 : decode cX7_init 91 = .ok (.return_, 1) := by decide +kernel
theorem dX7_in_0 : decode cX7_in 0 = .ok (.lload_n 0, 1) := by decide +kernel
theorem dX7_in_1 : decode cX7_in 1 = .ok (.lload_n 2, 1) := by decide +kernel
theorem dX7_in_2 : decode cX7_in 2 = .ok (.lcmp, 1) := by decide +kernel
theorem dX7_in_3 : decode cX7_in 3 = .ok (.ifCond .lt 14, 3) := by decide +kernel
theorem dX7_in_6 : decode cX7_in 6 = .ok (.lload_n 0, 1) := by decide +kernel
theorem dX7_in_7 : decode cX7_in 7 = .ok (.lload 4, 2) := by decide +kernel
theorem dX7_in_9 : decode cX7_in 9 = .ok (.lcmp, 1) := by decide +kernel
theorem dX7_in_10 : decode cX7_in 10 = .ok (.ifCond .gt 7, 3) := by decide +kernel
theorem dX7_in_13 : decode cX7_in 13 = .ok (.iconst 1, 1) := by decide +kernel
theorem dX7_in_14 : decode cX7_in 14 = .ok (.goto 4, 3) := by decide +kernel
theorem dX7_in_17 : decode cX7_in 17 = .ok (.iconst 0, 1) := by decide +kernel
theorem dX7_in_18 : decode cX7_in 18 = .ok (.ireturn, 1) := by decide +kernel
theorem dX7_noSet_0 : decode cX7_noSet 0 = .ok (.iload_n 1, 1) := by decide +kernel
theorem dX7_noSet_1 : decode cX7_noSet 1 = .ok (.i2l, 1) := by decide +kernel
theorem dX7_noSet_2 : decode cX7_noSet 2 = .ok (.iload_n 2, 1) := by decide +kernel
theorem dX7_noSet_3 : decode cX7_noSet 3 = .ok (.i2l, 1) := by decide +kernel
theorem dX7_noSet_4 : decode cX7_noSet 4 = .ok (.iconst 1, 1) := by decide +kernel
theorem dX7_noSet_5 : decode cX7_noSet 5 = .ok (.aload_n 0, 1) := by decide +kernel
theorem dX7_noSet_6 : decode cX7_noSet 6 = .ok (.getfield 7, 3) := by decide +kernel
theorem dX7_noSet_9 : decode cX7_noSet 9 = .ok (.ishl, 1) := by decide +kernel
theorem dX7_noSet_10 : decode cX7_noSet 10 = .ok (.iconst 1, 1) := by decide +kernel
theorem dX7_noSet_11 : decode cX7_noSet 11 = .ok (.isub, 1) := by decide +kernel
theorem dX7_noSet_12 : decode cX7_noSet 12 = .ok (.i2l, 1) := by decide +kernel
theorem dX7_noSet_13 : decode cX7_noSet 13 = .ok (.invokestatic 46, 3) := by decide +kernel
theorem dX7_noSet_16 : decode cX7_noSet 16 = .ok (.ifCond .ne 7, 3) := by decide +kernel
theorem dX7_noSet_19 : decode cX7_noSet 19 = .ok (.iconst 1, 1) := by decide +kernel
theorem dX7_noSet_20 : decode cX7_noSet 20 = .ok (.goto 4, 3) := by decide +kernel
theorem dX7_noSet_23 : decode cX7_noSet 23 = .ok (.iconst 0, 1) := by decide +kernel
theorem dX7_noSet_24 : decode cX7_noSet 24 = .ok (.ireturn, 1) := by decide +kernel
theorem dX7_bits_0 : decode cX7_bits 0 = .ok (.iconst 0, 1) := by decide +kernel
theorem dX7_bits_1 : decode cX7_bits 1 = .ok (.istore_n 1, 1) := by decide +kernel
theorem dX7_bits_2 : decode cX7_bits 2 = .ok (.iconst 0, 1) := by decide +kernel
theorem dX7_bits_3 : decode cX7_bits 3 = .ok (.istore_n 2, 1) := by decide +kernel
theorem dX7_bits_4 : decode cX7_bits 4 = .ok (.iload_n 2, 1) := by decide +kernel
theorem dX7_bits_5 : decode cX7_bits 5 = .ok (.bipush 10, 2) := by decide +kernel
theorem dX7_bits_7 : decode cX7_bits 7 = .ok (.if_icmp .ge 17, 3) := by decide +kernel
theorem dX7_bits_10 : decode cX7_bits 10 = .ok (.iload_n 1, 1) := by decide +kernel
theorem dX7_bits_11 : decode cX7_bits 11 = .ok (.iload_n 0, 1) := by decide +kernel
theorem dX7_bits_12 : decode cX7_bits 12 = .ok (.iload_n 2, 1) := by decide +kernel
theorem dX7_bits_13 : decode cX7_bits 13 = .ok (.ishr, 1) := by decide +kernel
theorem dX7_bits_14 : decode cX7_bits 14 = .ok (.iconst 1, 1) := by decide +kernel
theorem dX7_bits_15 : decode cX7_bits 15 = .ok (.iand, 1) := by decide +kernel
theorem dX7_bits_16 : decode cX7_bits 16 = .ok (.iadd, 1) := by decide +kernel
theorem dX7_bits_17 : decode cX7_bits 17 = .ok (.istore_n 1, 1) := by decide +kernel
theorem dX7_bits_18 : decode cX7_bits 18 = .ok (.iinc 2 1, 3) := by decide +kernel
theorem dX7_bits_21 : decode cX7_bits 21 = .ok (.goto (-17), 3) := by decide +kernel
theorem dX7_bits_24 : decode cX7_bits 24 = .ok (.iload_n 1, 1) := by decide +kernel
theorem dX7_bits_25 : decode cX7_bits 25 = .ok (.ireturn, 1) := by decide +kernel
theorem dX7_lines_0 : decode cX7_lines 0 = .ok (.iload_n 1, 1) := by decide +kernel
theorem dX7_lines_1 : decode cX7_lines 1 = .ok (.i2l, 1) := by decide +kernel
theorem dX7_lines_2 : decode cX7_lines 2 = .ok (.lconst 1, 1) := by decide +kernel
theorem dX7_lines_3 : decode cX7_lines 3 = .ok (.ldc2_w 50, 3) := by decide +kernel
theorem dX7_lines_6 : decode cX7_lines 6 = .ok (.invokestatic 46, 3) := by decide +kernel
theorem dX7_lines_9 : decode cX7_lines 9 = .ok (.ifCond .ne 6, 3) := by decide +kernel
theorem dX7_lines_12 : decode cX7_lines 12 = .ok (.bipush (-102), 2) := by decide +kernel
theorem dX7_lines_14 : decode cX7_lines 14 = .ok (.ireturn, 1) := by decide +kernel
theorem dX7_lines_15 : decode cX7_lines 15 = .ok (.aload_n 0, 1) := by decide +kernel
theorem dX7_lines_16 : decode cX7_lines 16 = .ok (.getfield 7, 3) := by decide +kernel
theorem dX7_lines_19 : decode cX7_lines 19 = .ok (.istore_n 2, 1) := by decide +kernel
theorem dX7_lines_20 : decode cX7_lines 20 = .ok (.aload_n 0, 1) := by decide +kernel
theorem dX7_lines_21 : decode cX7_lines 21 = .ok (.iload_n 1, 1) := by decide +kernel
theorem dX7_lines_22 : decode cX7_lines 22 = .ok (.putfield 7, 3) := by decide +kernel
theorem dX7_lines_25 : decode cX7_lines 25 = .ok (.aload_n 0, 1) := by decide +kernel
theorem dX7_lines_26 : decode cX7_lines 26 = .ok (.iconst 0, 1) := by decide +kernel
theorem dX7_lines_27 : decode cX7_lines 27 = .ok (.putfield 52, 3) := by decide +kernel
theorem dX7_lines_30 : decode cX7_lines 30 = .ok (.aload_n 0, 1) := by decide +kernel
theorem dX7_lines_31 : decode cX7_lines 31 = .ok (.iconst 0, 1) := by decide +kernel
theorem dX7_lines_32 : decode cX7_lines 32 = .ok (.putfield 55, 3) := by decide +kernel
theorem dX7_lines_35 : decode cX7_lines 35 = .ok (.iload_n 2, 1) := by decide +kernel
theorem dX7_lines_36 : decode cX7_lines 36 = .ok (.ireturn, 1) := by decide +kernel
theorem dX7_way_0 : decode cX7_way 0 = .ok (.aload_n 0, 1) := by decide +kernel
theorem dX7_way_1 : decode cX7_way 1 = .ok (.iload_n 1, 1) := by decide +kernel
theorem dX7_way_2 : decode cX7_way 2 = .ok (.iconst 1, 1) := by decide +kernel
theorem dX7_way_3 : decode cX7_way 3 = .ok (.invokevirtual 58, 3) := by decide +kernel
theorem dX7_way_6 : decode cX7_way 6 = .ok (.ifCond .ne 15, 3) := by decide +kernel
theorem dX7_way_9 : decode cX7_way 9 = .ok (.iload_n 2, 1) := by decide +kernel
theorem dX7_way_10 : decode cX7_way 10 = .ok (.i2l, 1) := by decide +kernel
theorem dX7_way_11 : decode cX7_way 11 = .ok (.lconst 0, 1) := by decide +kernel
theorem dX7_way_12 : decode cX7_way 12 = .ok (.ldc2_w 62, 3) := by decide +kernel
theorem dX7_way_15 : decode cX7_way 15 = .ok (.invokestatic 46, 3) := by decide +kernel
theorem dX7_way_18 : decode cX7_way 18 = .ok (.ifCond .ne 6, 3) := by decide +kernel
theorem dX7_way_21 : decode cX7_way 21 = .ok (.bipush (-102), 2) := by decide +kernel
theorem dX7_way_23 : decode cX7_way 23 = .ok (.ireturn, 1) := by decide +kernel
theorem dX7_way_24 : decode cX7_way 24 = .ok (.aload_n 0, 1) := by decide +kernel
theorem dX7_way_25 : decode cX7_way 25 = .ok (.getfield 52, 3) := by decide +kernel
theorem dX7_way_28 : decode cX7_way 28 = .ok (.bipush 10, 2) := by decide +kernel
theorem dX7_way_30 : decode cX7_way 30 = .ok (.if_icmp .ne 6, 3) := by decide +kernel
theorem dX7_way_33 : decode cX7_way 33 = .ok (.bipush (-104), 2) := by decide +kernel
theorem dX7_way_35 : decode cX7_way 35 = .ok (.ireturn, 1) := by decide +kernel
theorem dX7_way_36 : decode cX7_way 36 = .ok (.aload_n 0, 1) := by decide +kernel
theorem dX7_way_37 : decode cX7_way 37 = .ok (.getfield 13, 3) := by decide +kernel
theorem dX7_way_40 : decode cX7_way 40 = .ok (.aload_n 0, 1) := by decide +kernel
theorem dX7_way_41 : decode cX7_way 41 = .ok (.getfield 52, 3) := by decide +kernel
theorem dX7_way_44 : decode cX7_way 44 = .ok (.iload_n 1, 1) := by decide +kernel
theorem dX7_way_45 : decode cX7_way 45 = .ok (.iastore, 1) := by decide +kernel
theorem dX7_way_46 : decode cX7_way 46 = .ok (.aload_n 0, 1) := by decide +kernel
theorem dX7_way_47 : decode cX7_way 47 = .ok (.getfield 17, 3) := by decide +kernel
theorem dX7_way_50 : decode cX7_way 50 = .ok (.aload_n 0, 1) := by decide +kernel
theorem dX7_way_51 : decode cX7_way 51 = .ok (.getfield 52, 3) := by decide +kernel
theorem dX7_way_54 : decode cX7_way 54 = .ok (.iload_n 2, 1) := by decide +kernel
theorem dX7_way_55 : decode cX7_way 55 = .ok (.iastore, 1) := by decide +kernel
theorem dX7_way_56 : decode cX7_way 56 = .ok (.aload_n 0, 1) := by decide +kernel
theorem dX7_way_57 : decode cX7_way 57 = .ok (.getfield 20, 3) := by decide +kernel
theorem dX7_way_60 : decode cX7_way 60 = .ok (.aload_n 0, 1) := by decide +kernel
theorem dX7_way_61 : decode cX7_way 61 = .ok (.getfield 52, 3) := by decide +kernel
theorem dX7_way_64 : decode cX7_way 64 = .ok (.iconst 1, 1) := by decide +kernel
theorem dX7_way_65 : decode cX7_way 65 = .ok (.bastore, 1) := by decide +kernel
theorem dX7_way_66 : decode cX7_way 66 = .ok (.aload_n 0, 1) := by decide +kernel
theorem dX7_way_67 : decode cX7_way 67 = .ok (.getfield 24, 3) := by decide +kernel
theorem dX7_way_70 : decode cX7_way 70 = .ok (.aload_n 0, 1) := by decide +kernel
theorem dX7_way_71 : decode cX7_way 71 = .ok (.getfield 52, 3) := by decide +kernel
theorem dX7_way_74 : decode cX7_way 74 = .ok (.iconst 0, 1) := by decide +kernel
theorem dX7_way_75 : decode cX7_way 75 = .ok (.bastore, 1) := by decide +kernel
theorem dX7_way_76 : decode cX7_way 76 = .ok (.aload_n 0, 1) := by decide +kernel
theorem dX7_way_77 : decode cX7_way 77 = .ok (.dup, 1) := by decide +kernel
theorem dX7_way_78 : decode cX7_way 78 = .ok (.getfield 52, 3) := by decide +kernel
theorem dX7_way_81 : decode cX7_way 81 = .ok (.iconst 1, 1) := by decide +kernel
theorem dX7_way_82 : decode cX7_way 82 = .ok (.iadd, 1) := by decide +kernel
theorem dX7_way_83 : decode cX7_way 83 = .ok (.putfield 52, 3) := by decide +kernel
theorem dX7_way_86 : decode cX7_way 86 = .ok (.aload_n 0, 1) := by decide +kernel
theorem dX7_way_87 : decode cX7_way 87 = .ok (.getfield 52, 3) := by decide +kernel
theorem dX7_way_90 : decode cX7_way 90 = .ok (.iconst 1, 1) := by decide +kernel
theorem dX7_way_91 : decode cX7_way 91 = .ok (.isub, 1) := by decide +kernel
theorem dX7_way_92 : decode cX7_way 92 = .ok (.ireturn, 1) := by decide +kernel
theorem dX7_noWay_0 : decode cX7_noWay 0 = .ok (.iload_n 1, 1) := by decide +kernel
theorem dX7_noWay_1 : decode cX7_noWay 1 = .ok (.i2l, 1) := by decide +kernel
theorem dX7_noWay_2 : decode cX7_noWay 2 = .ok (.lconst 0, 1) := by decide +kernel
theorem dX7_noWay_3 : decode cX7_noWay 3 = .ok (.aload_n 0, 1) := by decide +kernel
theorem dX7_noWay_4 : decode cX7_noWay 4 = .ok (.getfield 52, 3) := by decide +kernel
theorem dX7_noWay_7 : decode cX7_noWay 7 = .ok (.iconst 1, 1) := by decide +kernel
theorem dX7_noWay_8 : decode cX7_noWay 8 = .ok (.isub, 1) := by decide +kernel
theorem dX7_noWay_9 : decode cX7_noWay 9 = .ok (.i2l, 1) := by decide +kernel
theorem dX7_noWay_10 : decode cX7_noWay 10 = .ok (.invokestatic 46, 3) := by decide +kernel
theorem dX7_noWay_13 : decode cX7_noWay 13 = .ok (.ifCond .ne 7, 3) := by decide +kernel
theorem dX7_noWay_16 : decode cX7_noWay 16 = .ok (.iconst 1, 1) := by decide +kernel
theorem dX7_noWay_17 : decode cX7_noWay 17 = .ok (.goto 4, 3) := by decide +kernel
theorem dX7_noWay_20 : decode cX7_noWay 20 = .ok (.iconst 0, 1) := by decide +kernel
theorem dX7_noWay_21 : decode cX7_noWay 21 = .ok (.ireturn, 1) := by decide +kernel
theorem dX7_sum_0 : decode cX7_sum 0 = .ok (.aload_n 0, 1) := by decide +kernel
theorem dX7_sum_1 : decode cX7_sum 1 = .ok (.iload_n 1, 1) := by decide +kernel
theorem dX7_sum_2 : decode cX7_sum 2 = .ok (.invokevirtual 64, 3) := by decide +kernel
theorem dX7_sum_5 : decode cX7_sum 5 = .ok (.ifCond .eq 6, 3) := by decide +kernel
theorem dX7_sum_8 : decode cX7_sum 8 = .ok (.bipush (-101), 2) := by decide +kernel
theorem dX7_sum_10 : decode cX7_sum 10 = .ok (.ireturn, 1) := by decide +kernel
theorem dX7_sum_11 : decode cX7_sum 11 = .ok (.iload_n 2, 1) := by decide +kernel
theorem dX7_sum_12 : decode cX7_sum 12 = .ok (.i2l, 1) := by decide +kernel
theorem dX7_sum_13 : decode cX7_sum 13 = .ok (.lconst 0, 1) := by decide +kernel
theorem dX7_sum_14 : decode cX7_sum 14 = .ok (.ldc2_w 62, 3) := by decide +kernel
theorem dX7_sum_17 : decode cX7_sum 17 = .ok (.invokestatic 46, 3) := by decide +kernel
theorem dX7_sum_20 : decode cX7_sum 20 = .ok (.ifCond .ne 6, 3) := by decide +kernel
theorem dX7_sum_23 : decode cX7_sum 23 = .ok (.bipush (-102), 2) := by decide +kernel
theorem dX7_sum_25 : decode cX7_sum 25 = .ok (.ireturn, 1) := by decide +kernel
theorem dX7_sum_26 : decode cX7_sum 26 = .ok (.aload_n 0, 1) := by decide +kernel
theorem dX7_sum_27 : decode cX7_sum 27 = .ok (.getfield 17, 3) := by decide +kernel
theorem dX7_sum_30 : decode cX7_sum 30 = .ok (.iload_n 1, 1) := by decide +kernel
theorem dX7_sum_31 : decode cX7_sum 31 = .ok (.iaload, 1) := by decide +kernel
theorem dX7_sum_32 : decode cX7_sum 32 = .ok (.istore_n 3, 1) := by decide +kernel
theorem dX7_sum_33 : decode cX7_sum 33 = .ok (.aload_n 0, 1) := by decide +kernel
theorem dX7_sum_34 : decode cX7_sum 34 = .ok (.getfield 17, 3) := by decide +kernel
theorem dX7_sum_37 : decode cX7_sum 37 = .ok (.iload_n 1, 1) := by decide +kernel
theorem dX7_sum_38 : decode cX7_sum 38 = .ok (.iload_n 2, 1) := by decide +kernel
theorem dX7_sum_39 : decode cX7_sum 39 = .ok (.iastore, 1) := by decide +kernel
theorem dX7_sum_40 : decode cX7_sum 40 = .ok (.iload_n 3, 1) := by decide +kernel
theorem dX7_sum_41 : decode cX7_sum 41 = .ok (.ireturn, 1) := by decide +kernel
theorem dX7_over_0 : decode cX7_over 0 = .ok (.aload_n 0, 1) := by decide +kernel
theorem dX7_over_1 : decode cX7_over 1 = .ok (.iload_n 1, 1) := by decide +kernel
theorem dX7_over_2 : decode cX7_over 2 = .ok (.invokevirtual 64, 3) := by decide +kernel
theorem dX7_over_5 : decode cX7_over 5 = .ok (.ifCond .eq 6, 3) := by decide +kernel
theorem dX7_over_8 : decode cX7_over 8 = .ok (.bipush (-101), 2) := by decide +kernel
theorem dX7_over_10 : decode cX7_over 10 = .ok (.ireturn, 1) := by decide +kernel
theorem dX7_over_11 : decode cX7_over 11 = .ok (.aload_n 0, 1) := by decide +kernel
theorem dX7_over_12 : decode cX7_over 12 = .ok (.iload_n 2, 1) := by decide +kernel
theorem dX7_over_13 : decode cX7_over 13 = .ok (.iconst 1, 1) := by decide +kernel
theorem dX7_over_14 : decode cX7_over 14 = .ok (.invokevirtual 58, 3) := by decide +kernel
theorem dX7_over_17 : decode cX7_over 17 = .ok (.ifCond .eq 6, 3) := by decide +kernel
theorem dX7_over_20 : decode cX7_over 20 = .ok (.bipush (-102), 2) := by decide +kernel
theorem dX7_over_22 : decode cX7_over 22 = .ok (.ireturn, 1) := by decide +kernel
theorem dX7_over_23 : decode cX7_over 23 = .ok (.aload_n 0, 1) := by decide +kernel
theorem dX7_over_24 : decode cX7_over 24 = .ok (.getfield 13, 3) := by decide +kernel
theorem dX7_over_27 : decode cX7_over 27 = .ok (.iload_n 1, 1) := by decide +kernel
theorem dX7_over_28 : decode cX7_over 28 = .ok (.iaload, 1) := by decide +kernel
theorem dX7_over_29 : decode cX7_over 29 = .ok (.istore_n 3, 1) := by decide +kernel
theorem dX7_over_30 : decode cX7_over 30 = .ok (.aload_n 0, 1) := by decide +kernel
theorem dX7_over_31 : decode cX7_over 31 = .ok (.getfield 13, 3) := by decide +kernel
theorem dX7_over_34 : decode cX7_over 34 = .ok (.iload_n 1, 1) := by decide +kernel
theorem dX7_over_35 : decode cX7_over 35 = .ok (.iload_n 2, 1) := by decide +kernel
theorem dX7_over_36 : decode cX7_over 36 = .ok (.iastore, 1) := by decide +kernel
theorem dX7_over_37 : decode cX7_over 37 = .ok (.iload_n 3, 1) := by decide +kernel
theorem dX7_over_38 : decode cX7_over 38 = .ok (.ireturn, 1) := by decide +kernel
theorem dX7_on_0 : decode cX7_on 0 = .ok (.aload_n 0, 1) := by decide +kernel
theorem dX7_on_1 : decode cX7_on 1 = .ok (.iload_n 1, 1) := by decide +kernel
theorem dX7_on_2 : decode cX7_on 2 = .ok (.invokevirtual 64, 3) := by decide +kernel
theorem dX7_on_5 : decode cX7_on 5 = .ok (.ifCond .eq 6, 3) := by decide +kernel
theorem dX7_on_8 : decode cX7_on 8 = .ok (.bipush (-101), 2) := by decide +kernel
theorem dX7_on_10 : decode cX7_on 10 = .ok (.ireturn, 1) := by decide +kernel
theorem dX7_on_11 : decode cX7_on 11 = .ok (.aload_n 0, 1) := by decide +kernel
theorem dX7_on_12 : decode cX7_on 12 = .ok (.getfield 20, 3) := by decide +kernel
theorem dX7_on_15 : decode cX7_on 15 = .ok (.iload_n 1, 1) := by decide +kernel
theorem dX7_on_16 : decode cX7_on 16 = .ok (.baload, 1) := by decide +kernel
theorem dX7_on_17 : decode cX7_on 17 = .ok (.ifCond .eq 7, 3) := by decide +kernel
theorem dX7_on_20 : decode cX7_on 20 = .ok (.iconst 1, 1) := by decide +kernel
theorem dX7_on_21 : decode cX7_on 21 = .ok (.goto 4, 3) := by decide +kernel
theorem dX7_on_24 : decode cX7_on 24 = .ok (.iconst 0, 1) := by decide +kernel
theorem dX7_on_25 : decode cX7_on 25 = .ok (.istore_n 3, 1) := by decide +kernel
theorem dX7_on_26 : decode cX7_on 26 = .ok (.aload_n 0, 1) := by decide +kernel
theorem dX7_on_27 : decode cX7_on 27 = .ok (.getfield 20, 3) := by decide +kernel
theorem dX7_on_30 : decode cX7_on 30 = .ok (.iload_n 1, 1) := by decide +kernel
theorem dX7_on_31 : decode cX7_on 31 = .ok (.iload_n 2, 1) := by decide +kernel
theorem dX7_on_32 : decode cX7_on 32 = .ok (.bastore, 1) := by decide +kernel
theorem dX7_on_33 : decode cX7_on 33 = .ok (.iload_n 3, 1) := by decide +kernel
theorem dX7_on_34 : decode cX7_on 34 = .ok (.ireturn, 1) := by decide +kernel
theorem dX7_bad_0 : decode cX7_bad 0 = .ok (.aload_n 0, 1) := by decide +kernel
theorem dX7_bad_1 : decode cX7_bad 1 = .ok (.iload_n 1, 1) := by decide +kernel
theorem dX7_bad_2 : decode cX7_bad 2 = .ok (.invokevirtual 64, 3) := by decide +kernel
theorem dX7_bad_5 : decode cX7_bad 5 = .ok (.ifCond .eq 6, 3) := by decide +kernel
theorem dX7_bad_8 : decode cX7_bad 8 = .ok (.bipush (-101), 2) := by decide +kernel
theorem dX7_bad_10 : decode cX7_bad 10 = .ok (.ireturn, 1) := by decide +kernel
theorem dX7_bad_11 : decode cX7_bad 11 = .ok (.aload_n 0, 1) := by decide +kernel
theorem dX7_bad_12 : decode cX7_bad 12 = .ok (.getfield 24, 3) := by decide +kernel
theorem dX7_bad_15 : decode cX7_bad 15 = .ok (.iload_n 1, 1) := by decide +kernel
theorem dX7_bad_16 : decode cX7_bad 16 = .ok (.baload, 1) := by decide +kernel
theorem dX7_bad_17 : decode cX7_bad 17 = .ok (.ifCond .eq 7, 3) := by decide +kernel
theorem dX7_bad_20 : decode cX7_bad 20 = .ok (.iconst 1, 1) := by decide +kernel
theorem dX7_bad_21 : decode cX7_bad 21 = .ok (.goto 4, 3) := by decide +kernel
theorem dX7_bad_24 : decode cX7_bad 24 = .ok (.iconst 0, 1) := by decide +kernel
theorem dX7_bad_25 : decode cX7_bad 25 = .ok (.istore_n 3, 1) := by decide +kernel
theorem dX7_bad_26 : decode cX7_bad 26 = .ok (.aload_n 0, 1) := by decide +kernel
theorem dX7_bad_27 : decode cX7_bad 27 = .ok (.getfield 24, 3) := by decide +kernel
theorem dX7_bad_30 : decode cX7_bad 30 = .ok (.iload_n 1, 1) := by decide +kernel
theorem dX7_bad_31 : decode cX7_bad 31 = .ok (.iload_n 2, 1) := by decide +kernel
theorem dX7_bad_32 : decode cX7_bad 32 = .ok (.bastore, 1) := by decide +kernel
theorem dX7_bad_33 : decode cX7_bad 33 = .ok (.iload_n 3, 1) := by decide +kernel
theorem dX7_bad_34 : decode cX7_bad 34 = .ok (.ireturn, 1) := by decide +kernel
theorem dX7_back_0 : decode cX7_back 0 = .ok (.aload_n 0, 1) := by decide +kernel
theorem dX7_back_1 : decode cX7_back 1 = .ok (.getfield 52, 3) := by decide +kernel
theorem dX7_back_4 : decode cX7_back 4 = .ok (.ifCond .ne 6, 3) := by decide +kernel
theorem dX7_back_7 : decode cX7_back 7 = .ok (.bipush (-103), 2) := by decide +kernel
theorem dX7_back_9 : decode cX7_back 9 = .ok (.ireturn, 1) := by decide +kernel
theorem dX7_back_10 : decode cX7_back 10 = .ok (.aload_n 0, 1) := by decide +kernel
theorem dX7_back_11 : decode cX7_back 11 = .ok (.dup, 1) := by decide +kernel
theorem dX7_back_12 : decode cX7_back 12 = .ok (.getfield 52, 3) := by decide +kernel
theorem dX7_back_15 : decode cX7_back 15 = .ok (.iconst 1, 1) := by decide +kernel
theorem dX7_back_16 : decode cX7_back 16 = .ok (.isub, 1) := by decide +kernel
theorem dX7_back_17 : decode cX7_back 17 = .ok (.putfield 52, 3) := by decide +kernel
theorem dX7_back_20 : decode cX7_back 20 = .ok (.aload_n 0, 1) := by decide +kernel
theorem dX7_back_21 : decode cX7_back 21 = .ok (.getfield 52, 3) := by decide +kernel
theorem dX7_back_24 : decode cX7_back 24 = .ok (.ireturn, 1) := by decide +kernel
theorem dX7_told_0 : decode cX7_told 0 = .ok (.aload_n 0, 1) := by decide +kernel
theorem dX7_told_1 : decode cX7_told 1 = .ok (.iload_n 1, 1) := by decide +kernel
theorem dX7_told_2 : decode cX7_told 2 = .ok (.invokevirtual 64, 3) := by decide +kernel
theorem dX7_told_5 : decode cX7_told 5 = .ok (.ifCond .eq 6, 3) := by decide +kernel
theorem dX7_told_8 : decode cX7_told 8 = .ok (.bipush (-101), 2) := by decide +kernel
theorem dX7_told_10 : decode cX7_told 10 = .ok (.ireturn, 1) := by decide +kernel
theorem dX7_told_11 : decode cX7_told 11 = .ok (.iload_n 2, 1) := by decide +kernel
theorem dX7_told_12 : decode cX7_told 12 = .ok (.tableswitch 76 0 3 #[32, 39, 46, 61], 32) := by decide +kernel
theorem dX7_told_44 : decode cX7_told 44 = .ok (.aload_n 0, 1) := by decide +kernel
theorem dX7_told_45 : decode cX7_told 45 = .ok (.getfield 13, 3) := by decide +kernel
theorem dX7_told_48 : decode cX7_told 48 = .ok (.iload_n 1, 1) := by decide +kernel
theorem dX7_told_49 : decode cX7_told 49 = .ok (.iaload, 1) := by decide +kernel
theorem dX7_told_50 : decode cX7_told 50 = .ok (.ireturn, 1) := by decide +kernel
theorem dX7_told_51 : decode cX7_told 51 = .ok (.aload_n 0, 1) := by decide +kernel
theorem dX7_told_52 : decode cX7_told 52 = .ok (.getfield 17, 3) := by decide +kernel
theorem dX7_told_55 : decode cX7_told 55 = .ok (.iload_n 1, 1) := by decide +kernel
theorem dX7_told_56 : decode cX7_told 56 = .ok (.iaload, 1) := by decide +kernel
theorem dX7_told_57 : decode cX7_told 57 = .ok (.ireturn, 1) := by decide +kernel
theorem dX7_told_58 : decode cX7_told 58 = .ok (.aload_n 0, 1) := by decide +kernel
theorem dX7_told_59 : decode cX7_told 59 = .ok (.getfield 20, 3) := by decide +kernel
theorem dX7_told_62 : decode cX7_told 62 = .ok (.iload_n 1, 1) := by decide +kernel
theorem dX7_told_63 : decode cX7_told 63 = .ok (.baload, 1) := by decide +kernel
theorem dX7_told_64 : decode cX7_told 64 = .ok (.ifCond .eq 7, 3) := by decide +kernel
theorem dX7_told_67 : decode cX7_told 67 = .ok (.iconst 1, 1) := by decide +kernel
theorem dX7_told_68 : decode cX7_told 68 = .ok (.goto 4, 3) := by decide +kernel
theorem dX7_told_71 : decode cX7_told 71 = .ok (.iconst 0, 1) := by decide +kernel
theorem dX7_told_72 : decode cX7_told 72 = .ok (.ireturn, 1) := by decide +kernel
theorem dX7_told_73 : decode cX7_told 73 = .ok (.aload_n 0, 1) := by decide +kernel
theorem dX7_told_74 : decode cX7_told 74 = .ok (.getfield 24, 3) := by decide +kernel
theorem dX7_told_77 : decode cX7_told 77 = .ok (.iload_n 1, 1) := by decide +kernel
theorem dX7_told_78 : decode cX7_told 78 = .ok (.baload, 1) := by decide +kernel
theorem dX7_told_79 : decode cX7_told 79 = .ok (.ifCond .eq 7, 3) := by decide +kernel
theorem dX7_told_82 : decode cX7_told 82 = .ok (.iconst 1, 1) := by decide +kernel
theorem dX7_told_83 : decode cX7_told 83 = .ok (.goto 4, 3) := by decide +kernel
theorem dX7_told_86 : decode cX7_told 86 = .ok (.iconst 0, 1) := by decide +kernel
theorem dX7_told_87 : decode cX7_told 87 = .ok (.ireturn, 1) := by decide +kernel
theorem dX7_told_88 : decode cX7_told 88 = .ok (.bipush (-102), 2) := by decide +kernel
theorem dX7_told_90 : decode cX7_told 90 = .ok (.ireturn, 1) := by decide +kernel
theorem dX7_onSet_0 : decode cX7_onSet 0 = .ok (.iconst 0, 1) := by decide +kernel
theorem dX7_onSet_1 : decode cX7_onSet 1 = .ok (.istore_n 1, 1) := by decide +kernel
theorem dX7_onSet_2 : decode cX7_onSet 2 = .ok (.iconst 0, 1) := by decide +kernel
theorem dX7_onSet_3 : decode cX7_onSet 3 = .ok (.istore_n 2, 1) := by decide +kernel
theorem dX7_onSet_4 : decode cX7_onSet 4 = .ok (.iload_n 2, 1) := by decide +kernel
theorem dX7_onSet_5 : decode cX7_onSet 5 = .ok (.aload_n 0, 1) := by decide +kernel
theorem dX7_onSet_6 : decode cX7_onSet 6 = .ok (.getfield 52, 3) := by decide +kernel
theorem dX7_onSet_9 : decode cX7_onSet 9 = .ok (.if_icmp .ge 28, 3) := by decide +kernel
theorem dX7_onSet_12 : decode cX7_onSet 12 = .ok (.iload_n 1, 1) := by decide +kernel
theorem dX7_onSet_13 : decode cX7_onSet 13 = .ok (.aload_n 0, 1) := by decide +kernel
theorem dX7_onSet_14 : decode cX7_onSet 14 = .ok (.getfield 20, 3) := by decide +kernel
theorem dX7_onSet_17 : decode cX7_onSet 17 = .ok (.iload_n 2, 1) := by decide +kernel
theorem dX7_onSet_18 : decode cX7_onSet 18 = .ok (.baload, 1) := by decide +kernel
theorem dX7_onSet_19 : decode cX7_onSet 19 = .ok (.ifCond .eq 9, 3) := by decide +kernel
theorem dX7_onSet_22 : decode cX7_onSet 22 = .ok (.iconst 1, 1) := by decide +kernel
theorem dX7_onSet_23 : decode cX7_onSet 23 = .ok (.iload_n 2, 1) := by decide +kernel
theorem dX7_onSet_24 : decode cX7_onSet 24 = .ok (.ishl, 1) := by decide +kernel
theorem dX7_onSet_25 : decode cX7_onSet 25 = .ok (.goto 4, 3) := by decide +kernel
theorem dX7_onSet_28 : decode cX7_onSet 28 = .ok (.iconst 0, 1) := by decide +kernel
theorem dX7_onSet_29 : decode cX7_onSet 29 = .ok (.ior, 1) := by decide +kernel
theorem dX7_onSet_30 : decode cX7_onSet 30 = .ok (.istore_n 1, 1) := by decide +kernel
theorem dX7_onSet_31 : decode cX7_onSet 31 = .ok (.iinc 2 1, 3) := by decide +kernel
theorem dX7_onSet_34 : decode cX7_onSet 34 = .ok (.goto (-30), 3) := by decide +kernel
theorem dX7_onSet_37 : decode cX7_onSet 37 = .ok (.iload_n 1, 1) := by decide +kernel
theorem dX7_onSet_38 : decode cX7_onSet 38 = .ok (.ireturn, 1) := by decide +kernel
theorem dX7_seenSet_0 : decode cX7_seenSet 0 = .ok (.iconst 0, 1) := by decide +kernel
theorem dX7_seenSet_1 : decode cX7_seenSet 1 = .ok (.istore_n 1, 1) := by decide +kernel
theorem dX7_seenSet_2 : decode cX7_seenSet 2 = .ok (.iconst 0, 1) := by decide +kernel
theorem dX7_seenSet_3 : decode cX7_seenSet 3 = .ok (.istore_n 2, 1) := by decide +kernel
theorem dX7_seenSet_4 : decode cX7_seenSet 4 = .ok (.iload_n 2, 1) := by decide +kernel
theorem dX7_seenSet_5 : decode cX7_seenSet 5 = .ok (.aload_n 0, 1) := by decide +kernel
theorem dX7_seenSet_6 : decode cX7_seenSet 6 = .ok (.getfield 52, 3) := by decide +kernel
theorem dX7_seenSet_9 : decode cX7_seenSet 9 = .ok (.if_icmp .ge 31, 3) := by decide +kernel
theorem dX7_seenSet_12 : decode cX7_seenSet 12 = .ok (.iload_n 1, 1) := by decide +kernel
theorem dX7_seenSet_13 : decode cX7_seenSet 13 = .ok (.aload_n 0, 1) := by decide +kernel
theorem dX7_seenSet_14 : decode cX7_seenSet 14 = .ok (.getfield 20, 3) := by decide +kernel
theorem dX7_seenSet_17 : decode cX7_seenSet 17 = .ok (.iload_n 2, 1) := by decide +kernel
theorem dX7_seenSet_18 : decode cX7_seenSet 18 = .ok (.baload, 1) := by decide +kernel
theorem dX7_seenSet_19 : decode cX7_seenSet 19 = .ok (.ifCond .eq 12, 3) := by decide +kernel
theorem dX7_seenSet_22 : decode cX7_seenSet 22 = .ok (.aload_n 0, 1) := by decide +kernel
theorem dX7_seenSet_23 : decode cX7_seenSet 23 = .ok (.getfield 13, 3) := by decide +kernel
theorem dX7_seenSet_26 : decode cX7_seenSet 26 = .ok (.iload_n 2, 1) := by decide +kernel
theorem dX7_seenSet_27 : decode cX7_seenSet 27 = .ok (.iaload, 1) := by decide +kernel
theorem dX7_seenSet_28 : decode cX7_seenSet 28 = .ok (.goto 4, 3) := by decide +kernel
theorem dX7_seenSet_31 : decode cX7_seenSet 31 = .ok (.iconst 0, 1) := by decide +kernel
theorem dX7_seenSet_32 : decode cX7_seenSet 32 = .ok (.ior, 1) := by decide +kernel
theorem dX7_seenSet_33 : decode cX7_seenSet 33 = .ok (.istore_n 1, 1) := by decide +kernel
theorem dX7_seenSet_34 : decode cX7_seenSet 34 = .ok (.iinc 2 1, 3) := by decide +kernel
theorem dX7_seenSet_37 : decode cX7_seenSet 37 = .ok (.goto (-33), 3) := by decide +kernel
theorem dX7_seenSet_40 : decode cX7_seenSet 40 = .ok (.iload_n 1, 1) := by decide +kernel
theorem dX7_seenSet_41 : decode cX7_seenSet 41 = .ok (.ireturn, 1) := by decide +kernel
theorem dX7_swap_0 : decode cX7_swap 0 = .ok (.iconst 0, 1) := by decide +kernel
theorem dX7_swap_1 : decode cX7_swap 1 = .ok (.istore 4, 2) := by decide +kernel
theorem dX7_swap_3 : decode cX7_swap 3 = .ok (.iload 4, 2) := by decide +kernel
theorem dX7_swap_5 : decode cX7_swap 5 = .ok (.iload_n 3, 1) := by decide +kernel
theorem dX7_swap_6 : decode cX7_swap 6 = .ok (.if_icmp .ge 61, 3) := by decide +kernel
theorem dX7_swap_9 : decode cX7_swap 9 = .ok (.aload_n 0, 1) := by decide +kernel
theorem dX7_swap_10 : decode cX7_swap 10 = .ok (.getfield 30, 3) := by decide +kernel
theorem dX7_swap_13 : decode cX7_swap 13 = .ok (.bipush 32, 2) := by decide +kernel
theorem dX7_swap_15 : decode cX7_swap 15 = .ok (.iload_n 1, 1) := by decide +kernel
theorem dX7_swap_16 : decode cX7_swap 16 = .ok (.imul, 1) := by decide +kernel
theorem dX7_swap_17 : decode cX7_swap 17 = .ok (.iload 4, 2) := by decide +kernel
theorem dX7_swap_19 : decode cX7_swap 19 = .ok (.iadd, 1) := by decide +kernel
theorem dX7_swap_20 : decode cX7_swap 20 = .ok (.laload, 1) := by decide +kernel
theorem dX7_swap_21 : decode cX7_swap 21 = .ok (.lstore 5, 2) := by decide +kernel
theorem dX7_swap_23 : decode cX7_swap 23 = .ok (.aload_n 0, 1) := by decide +kernel
theorem dX7_swap_24 : decode cX7_swap 24 = .ok (.getfield 30, 3) := by decide +kernel
theorem dX7_swap_27 : decode cX7_swap 27 = .ok (.bipush 32, 2) := by decide +kernel
theorem dX7_swap_29 : decode cX7_swap 29 = .ok (.iload_n 1, 1) := by decide +kernel
theorem dX7_swap_30 : decode cX7_swap 30 = .ok (.imul, 1) := by decide +kernel
theorem dX7_swap_31 : decode cX7_swap 31 = .ok (.iload 4, 2) := by decide +kernel
theorem dX7_swap_33 : decode cX7_swap 33 = .ok (.iadd, 1) := by decide +kernel
theorem dX7_swap_34 : decode cX7_swap 34 = .ok (.aload_n 0, 1) := by decide +kernel
theorem dX7_swap_35 : decode cX7_swap 35 = .ok (.getfield 30, 3) := by decide +kernel
theorem dX7_swap_38 : decode cX7_swap 38 = .ok (.bipush 32, 2) := by decide +kernel
theorem dX7_swap_40 : decode cX7_swap 40 = .ok (.iload_n 2, 1) := by decide +kernel
theorem dX7_swap_41 : decode cX7_swap 41 = .ok (.imul, 1) := by decide +kernel
theorem dX7_swap_42 : decode cX7_swap 42 = .ok (.iload 4, 2) := by decide +kernel
theorem dX7_swap_44 : decode cX7_swap 44 = .ok (.iadd, 1) := by decide +kernel
theorem dX7_swap_45 : decode cX7_swap 45 = .ok (.laload, 1) := by decide +kernel
theorem dX7_swap_46 : decode cX7_swap 46 = .ok (.lastore, 1) := by decide +kernel
theorem dX7_swap_47 : decode cX7_swap 47 = .ok (.aload_n 0, 1) := by decide +kernel
theorem dX7_swap_48 : decode cX7_swap 48 = .ok (.getfield 30, 3) := by decide +kernel
theorem dX7_swap_51 : decode cX7_swap 51 = .ok (.bipush 32, 2) := by decide +kernel
theorem dX7_swap_53 : decode cX7_swap 53 = .ok (.iload_n 2, 1) := by decide +kernel
theorem dX7_swap_54 : decode cX7_swap 54 = .ok (.imul, 1) := by decide +kernel
theorem dX7_swap_55 : decode cX7_swap 55 = .ok (.iload 4, 2) := by decide +kernel
theorem dX7_swap_57 : decode cX7_swap 57 = .ok (.iadd, 1) := by decide +kernel
theorem dX7_swap_58 : decode cX7_swap 58 = .ok (.lload 5, 2) := by decide +kernel
theorem dX7_swap_60 : decode cX7_swap 60 = .ok (.lastore, 1) := by decide +kernel
theorem dX7_swap_61 : decode cX7_swap 61 = .ok (.iinc 4 1, 3) := by decide +kernel
theorem dX7_swap_64 : decode cX7_swap 64 = .ok (.goto (-61), 3) := by decide +kernel
theorem dX7_swap_67 : decode cX7_swap 67 = .ok (.return_, 1) := by decide +kernel
theorem dX7_pivot_0 : decode cX7_pivot 0 = .ok (.aload_n 0, 1) := by decide +kernel
theorem dX7_pivot_1 : decode cX7_pivot 1 = .ok (.getfield 30, 3) := by decide +kernel
theorem dX7_pivot_4 : decode cX7_pivot 4 = .ok (.bipush 32, 2) := by decide +kernel
theorem dX7_pivot_6 : decode cX7_pivot 6 = .ok (.iload_n 1, 1) := by decide +kernel
theorem dX7_pivot_7 : decode cX7_pivot 7 = .ok (.imul, 1) := by decide +kernel
theorem dX7_pivot_8 : decode cX7_pivot 8 = .ok (.iload_n 2, 1) := by decide +kernel
theorem dX7_pivot_9 : decode cX7_pivot 9 = .ok (.iadd, 1) := by decide +kernel
theorem dX7_pivot_10 : decode cX7_pivot 10 = .ok (.laload, 1) := by decide +kernel
theorem dX7_pivot_11 : decode cX7_pivot 11 = .ok (.lstore 4, 2) := by decide +kernel
theorem dX7_pivot_13 : decode cX7_pivot 13 = .ok (.iconst 0, 1) := by decide +kernel
theorem dX7_pivot_14 : decode cX7_pivot 14 = .ok (.istore 6, 2) := by decide +kernel
theorem dX7_pivot_16 : decode cX7_pivot 16 = .ok (.iload 6, 2) := by decide +kernel
theorem dX7_pivot_18 : decode cX7_pivot 18 = .ok (.aload_n 0, 1) := by decide +kernel
theorem dX7_pivot_19 : decode cX7_pivot 19 = .ok (.getfield 68, 3) := by decide +kernel
theorem dX7_pivot_22 : decode cX7_pivot 22 = .ok (.if_icmp .ge 94, 3) := by decide +kernel
theorem dX7_pivot_25 : decode cX7_pivot 25 = .ok (.aload_n 0, 1) := by decide +kernel
theorem dX7_pivot_26 : decode cX7_pivot 26 = .ok (.getfield 30, 3) := by decide +kernel
theorem dX7_pivot_29 : decode cX7_pivot 29 = .ok (.bipush 32, 2) := by decide +kernel
theorem dX7_pivot_31 : decode cX7_pivot 31 = .ok (.iload 6, 2) := by decide +kernel
theorem dX7_pivot_33 : decode cX7_pivot 33 = .ok (.imul, 1) := by decide +kernel
theorem dX7_pivot_34 : decode cX7_pivot 34 = .ok (.iload_n 2, 1) := by decide +kernel
theorem dX7_pivot_35 : decode cX7_pivot 35 = .ok (.iadd, 1) := by decide +kernel
theorem dX7_pivot_36 : decode cX7_pivot 36 = .ok (.laload, 1) := by decide +kernel
theorem dX7_pivot_37 : decode cX7_pivot 37 = .ok (.lstore 7, 2) := by decide +kernel
theorem dX7_pivot_39 : decode cX7_pivot 39 = .ok (.iconst 0, 1) := by decide +kernel
theorem dX7_pivot_40 : decode cX7_pivot 40 = .ok (.istore 9, 2) := by decide +kernel
theorem dX7_pivot_42 : decode cX7_pivot 42 = .ok (.iload 9, 2) := by decide +kernel
theorem dX7_pivot_44 : decode cX7_pivot 44 = .ok (.iload_n 3, 1) := by decide +kernel
theorem dX7_pivot_45 : decode cX7_pivot 45 = .ok (.if_icmp .ge 65, 3) := by decide +kernel
theorem dX7_pivot_48 : decode cX7_pivot 48 = .ok (.iload 6, 2) := by decide +kernel
theorem dX7_pivot_50 : decode cX7_pivot 50 = .ok (.iload_n 1, 1) := by decide +kernel
theorem dX7_pivot_51 : decode cX7_pivot 51 = .ok (.if_icmp .eq 59, 3) := by decide +kernel
theorem dX7_pivot_54 : decode cX7_pivot 54 = .ok (.aload_n 0, 1) := by decide +kernel
theorem dX7_pivot_55 : decode cX7_pivot 55 = .ok (.getfield 30, 3) := by decide +kernel
theorem dX7_pivot_58 : decode cX7_pivot 58 = .ok (.bipush 32, 2) := by decide +kernel
theorem dX7_pivot_60 : decode cX7_pivot 60 = .ok (.iload 6, 2) := by decide +kernel
theorem dX7_pivot_62 : decode cX7_pivot 62 = .ok (.imul, 1) := by decide +kernel
theorem dX7_pivot_63 : decode cX7_pivot 63 = .ok (.iload 9, 2) := by decide +kernel
theorem dX7_pivot_65 : decode cX7_pivot 65 = .ok (.iadd, 1) := by decide +kernel
theorem dX7_pivot_66 : decode cX7_pivot 66 = .ok (.aload_n 0, 1) := by decide +kernel
theorem dX7_pivot_67 : decode cX7_pivot 67 = .ok (.getfield 30, 3) := by decide +kernel
theorem dX7_pivot_70 : decode cX7_pivot 70 = .ok (.bipush 32, 2) := by decide +kernel
theorem dX7_pivot_72 : decode cX7_pivot 72 = .ok (.iload 6, 2) := by decide +kernel
theorem dX7_pivot_74 : decode cX7_pivot 74 = .ok (.imul, 1) := by decide +kernel
theorem dX7_pivot_75 : decode cX7_pivot 75 = .ok (.iload 9, 2) := by decide +kernel
theorem dX7_pivot_77 : decode cX7_pivot 77 = .ok (.iadd, 1) := by decide +kernel
theorem dX7_pivot_78 : decode cX7_pivot 78 = .ok (.laload, 1) := by decide +kernel
theorem dX7_pivot_79 : decode cX7_pivot 79 = .ok (.lload 4, 2) := by decide +kernel
theorem dX7_pivot_81 : decode cX7_pivot 81 = .ok (.lmul, 1) := by decide +kernel
theorem dX7_pivot_82 : decode cX7_pivot 82 = .ok (.lload 7, 2) := by decide +kernel
theorem dX7_pivot_84 : decode cX7_pivot 84 = .ok (.aload_n 0, 1) := by decide +kernel
theorem dX7_pivot_85 : decode cX7_pivot 85 = .ok (.getfield 30, 3) := by decide +kernel
theorem dX7_pivot_88 : decode cX7_pivot 88 = .ok (.bipush 32, 2) := by decide +kernel
theorem dX7_pivot_90 : decode cX7_pivot 90 = .ok (.iload_n 1, 1) := by decide +kernel
theorem dX7_pivot_91 : decode cX7_pivot 91 = .ok (.imul, 1) := by decide +kernel
theorem dX7_pivot_92 : decode cX7_pivot 92 = .ok (.iload 9, 2) := by decide +kernel
theorem dX7_pivot_94 : decode cX7_pivot 94 = .ok (.iadd, 1) := by decide +kernel
theorem dX7_pivot_95 : decode cX7_pivot 95 = .ok (.laload, 1) := by decide +kernel
theorem dX7_pivot_96 : decode cX7_pivot 96 = .ok (.lmul, 1) := by decide +kernel
theorem dX7_pivot_97 : decode cX7_pivot 97 = .ok (.lsub, 1) := by decide +kernel
theorem dX7_pivot_98 : decode cX7_pivot 98 = .ok (.aload_n 0, 1) := by decide +kernel
theorem dX7_pivot_99 : decode cX7_pivot 99 = .ok (.getfield 71, 3) := by decide +kernel
theorem dX7_pivot_102 : decode cX7_pivot 102 = .ok (.ldiv, 1) := by decide +kernel
theorem dX7_pivot_103 : decode cX7_pivot 103 = .ok (.lastore, 1) := by decide +kernel
theorem dX7_pivot_104 : decode cX7_pivot 104 = .ok (.iinc 9 1, 3) := by decide +kernel
theorem dX7_pivot_107 : decode cX7_pivot 107 = .ok (.goto (-65), 3) := by decide +kernel
theorem dX7_pivot_110 : decode cX7_pivot 110 = .ok (.iinc 6 1, 3) := by decide +kernel
theorem dX7_pivot_113 : decode cX7_pivot 113 = .ok (.goto (-97), 3) := by decide +kernel
theorem dX7_pivot_116 : decode cX7_pivot 116 = .ok (.aload_n 0, 1) := by decide +kernel
theorem dX7_pivot_117 : decode cX7_pivot 117 = .ok (.lload 4, 2) := by decide +kernel
theorem dX7_pivot_119 : decode cX7_pivot 119 = .ok (.putfield 71, 3) := by decide +kernel
theorem dX7_pivot_122 : decode cX7_pivot 122 = .ok (.return_, 1) := by decide +kernel
theorem dX7_findRow_0 : decode cX7_findRow 0 = .ok (.iload_n 1, 1) := by decide +kernel
theorem dX7_findRow_1 : decode cX7_findRow 1 = .ok (.istore_n 3, 1) := by decide +kernel
theorem dX7_findRow_2 : decode cX7_findRow 2 = .ok (.iload_n 3, 1) := by decide +kernel
theorem dX7_findRow_3 : decode cX7_findRow 3 = .ok (.aload_n 0, 1) := by decide +kernel
theorem dX7_findRow_4 : decode cX7_findRow 4 = .ok (.getfield 68, 3) := by decide +kernel
theorem dX7_findRow_7 : decode cX7_findRow 7 = .ok (.if_icmp .ge 25, 3) := by decide +kernel
theorem dX7_findRow_10 : decode cX7_findRow 10 = .ok (.aload_n 0, 1) := by decide +kernel
theorem dX7_findRow_11 : decode cX7_findRow 11 = .ok (.getfield 30, 3) := by decide +kernel
theorem dX7_findRow_14 : decode cX7_findRow 14 = .ok (.bipush 32, 2) := by decide +kernel
theorem dX7_findRow_16 : decode cX7_findRow 16 = .ok (.iload_n 3, 1) := by decide +kernel
theorem dX7_findRow_17 : decode cX7_findRow 17 = .ok (.imul, 1) := by decide +kernel
theorem dX7_findRow_18 : decode cX7_findRow 18 = .ok (.iload_n 2, 1) := by decide +kernel
theorem dX7_findRow_19 : decode cX7_findRow 19 = .ok (.iadd, 1) := by decide +kernel
theorem dX7_findRow_20 : decode cX7_findRow 20 = .ok (.laload, 1) := by decide +kernel
theorem dX7_findRow_21 : decode cX7_findRow 21 = .ok (.lconst 0, 1) := by decide +kernel
theorem dX7_findRow_22 : decode cX7_findRow 22 = .ok (.lcmp, 1) := by decide +kernel
theorem dX7_findRow_23 : decode cX7_findRow 23 = .ok (.ifCond .ne 9, 3) := by decide +kernel
theorem dX7_findRow_26 : decode cX7_findRow 26 = .ok (.iinc 3 1, 3) := by decide +kernel
theorem dX7_findRow_29 : decode cX7_findRow 29 = .ok (.goto (-27), 3) := by decide +kernel
theorem dX7_findRow_32 : decode cX7_findRow 32 = .ok (.iload_n 3, 1) := by decide +kernel
theorem dX7_findRow_33 : decode cX7_findRow 33 = .ok (.ireturn, 1) := by decide +kernel
theorem dX7_addRow_0 : decode cX7_addRow 0 = .ok (.iconst 0, 1) := by decide +kernel
theorem dX7_addRow_1 : decode cX7_addRow 1 = .ok (.istore_n 2, 1) := by decide +kernel
theorem dX7_addRow_2 : decode cX7_addRow 2 = .ok (.iload_n 2, 1) := by decide +kernel
theorem dX7_addRow_3 : decode cX7_addRow 3 = .ok (.aload_n 0, 1) := by decide +kernel
theorem dX7_addRow_4 : decode cX7_addRow 4 = .ok (.getfield 7, 3) := by decide +kernel
theorem dX7_addRow_7 : decode cX7_addRow 7 = .ok (.if_icmp .ge 29, 3) := by decide +kernel
theorem dX7_addRow_10 : decode cX7_addRow 10 = .ok (.aload_n 0, 1) := by decide +kernel
theorem dX7_addRow_11 : decode cX7_addRow 11 = .ok (.getfield 30, 3) := by decide +kernel
theorem dX7_addRow_14 : decode cX7_addRow 14 = .ok (.bipush 32, 2) := by decide +kernel
theorem dX7_addRow_16 : decode cX7_addRow 16 = .ok (.aload_n 0, 1) := by decide +kernel
theorem dX7_addRow_17 : decode cX7_addRow 17 = .ok (.getfield 68, 3) := by decide +kernel
theorem dX7_addRow_20 : decode cX7_addRow 20 = .ok (.imul, 1) := by decide +kernel
theorem dX7_addRow_21 : decode cX7_addRow 21 = .ok (.iload_n 2, 1) := by decide +kernel
theorem dX7_addRow_22 : decode cX7_addRow 22 = .ok (.iadd, 1) := by decide +kernel
theorem dX7_addRow_23 : decode cX7_addRow 23 = .ok (.iload_n 1, 1) := by decide +kernel
theorem dX7_addRow_24 : decode cX7_addRow 24 = .ok (.iload_n 2, 1) := by decide +kernel
theorem dX7_addRow_25 : decode cX7_addRow 25 = .ok (.ishr, 1) := by decide +kernel
theorem dX7_addRow_26 : decode cX7_addRow 26 = .ok (.iconst 1, 1) := by decide +kernel
theorem dX7_addRow_27 : decode cX7_addRow 27 = .ok (.iand, 1) := by decide +kernel
theorem dX7_addRow_28 : decode cX7_addRow 28 = .ok (.i2l, 1) := by decide +kernel
theorem dX7_addRow_29 : decode cX7_addRow 29 = .ok (.lastore, 1) := by decide +kernel
theorem dX7_addRow_30 : decode cX7_addRow 30 = .ok (.iinc 2 1, 3) := by decide +kernel
theorem dX7_addRow_33 : decode cX7_addRow 33 = .ok (.goto (-31), 3) := by decide +kernel
theorem dX7_addRow_36 : decode cX7_addRow 36 = .ok (.aload_n 0, 1) := by decide +kernel
theorem dX7_addRow_37 : decode cX7_addRow 37 = .ok (.dup, 1) := by decide +kernel
theorem dX7_addRow_38 : decode cX7_addRow 38 = .ok (.getfield 68, 3) := by decide +kernel
theorem dX7_addRow_41 : decode cX7_addRow 41 = .ok (.iconst 1, 1) := by decide +kernel
theorem dX7_addRow_42 : decode cX7_addRow 42 = .ok (.iadd, 1) := by decide +kernel
theorem dX7_addRow_43 : decode cX7_addRow 43 = .ok (.putfield 68, 3) := by decide +kernel
theorem dX7_addRow_46 : decode cX7_addRow 46 = .ok (.return_, 1) := by decide +kernel
theorem dX7_rank_0 : decode cX7_rank 0 = .ok (.aload_n 0, 1) := by decide +kernel
theorem dX7_rank_1 : decode cX7_rank 1 = .ok (.iconst 0, 1) := by decide +kernel
theorem dX7_rank_2 : decode cX7_rank 2 = .ok (.putfield 68, 3) := by decide +kernel
theorem dX7_rank_5 : decode cX7_rank 5 = .ok (.iconst 0, 1) := by decide +kernel
theorem dX7_rank_6 : decode cX7_rank 6 = .ok (.istore 4, 2) := by decide +kernel
theorem dX7_rank_8 : decode cX7_rank 8 = .ok (.iload 4, 2) := by decide +kernel
theorem dX7_rank_10 : decode cX7_rank 10 = .ok (.aload_n 0, 1) := by decide +kernel
theorem dX7_rank_11 : decode cX7_rank 11 = .ok (.getfield 52, 3) := by decide +kernel
theorem dX7_rank_14 : decode cX7_rank 14 = .ok (.if_icmp .ge 30, 3) := by decide +kernel
theorem dX7_rank_17 : decode cX7_rank 17 = .ok (.iload_n 1, 1) := by decide +kernel
theorem dX7_rank_18 : decode cX7_rank 18 = .ok (.iload 4, 2) := by decide +kernel
theorem dX7_rank_20 : decode cX7_rank 20 = .ok (.ishr, 1) := by decide +kernel
theorem dX7_rank_21 : decode cX7_rank 21 = .ok (.iconst 1, 1) := by decide +kernel
theorem dX7_rank_22 : decode cX7_rank 22 = .ok (.iand, 1) := by decide +kernel
theorem dX7_rank_23 : decode cX7_rank 23 = .ok (.iconst 1, 1) := by decide +kernel
theorem dX7_rank_24 : decode cX7_rank 24 = .ok (.if_icmp .ne 14, 3) := by decide +kernel
theorem dX7_rank_27 : decode cX7_rank 27 = .ok (.aload_n 0, 1) := by decide +kernel
theorem dX7_rank_28 : decode cX7_rank 28 = .ok (.aload_n 0, 1) := by decide +kernel
theorem dX7_rank_29 : decode cX7_rank 29 = .ok (.getfield 13, 3) := by decide +kernel
theorem dX7_rank_32 : decode cX7_rank 32 = .ok (.iload 4, 2) := by decide +kernel
theorem dX7_rank_34 : decode cX7_rank 34 = .ok (.iaload, 1) := by decide +kernel
theorem dX7_rank_35 : decode cX7_rank 35 = .ok (.invokevirtual 75, 3) := by decide +kernel
theorem dX7_rank_38 : decode cX7_rank 38 = .ok (.iinc 4 1, 3) := by decide +kernel
theorem dX7_rank_41 : decode cX7_rank 41 = .ok (.goto (-33), 3) := by decide +kernel
theorem dX7_rank_44 : decode cX7_rank 44 = .ok (.iconst 0, 1) := by decide +kernel
theorem dX7_rank_45 : decode cX7_rank 45 = .ok (.istore 4, 2) := by decide +kernel
theorem dX7_rank_47 : decode cX7_rank 47 = .ok (.iload 4, 2) := by decide +kernel
theorem dX7_rank_49 : decode cX7_rank 49 = .ok (.aload_n 0, 1) := by decide +kernel
theorem dX7_rank_50 : decode cX7_rank 50 = .ok (.getfield 55, 3) := by decide +kernel
theorem dX7_rank_53 : decode cX7_rank 53 = .ok (.if_icmp .ge 30, 3) := by decide +kernel
theorem dX7_rank_56 : decode cX7_rank 56 = .ok (.iload_n 2, 1) := by decide +kernel
theorem dX7_rank_57 : decode cX7_rank 57 = .ok (.iload 4, 2) := by decide +kernel
theorem dX7_rank_59 : decode cX7_rank 59 = .ok (.ishr, 1) := by decide +kernel
theorem dX7_rank_60 : decode cX7_rank 60 = .ok (.iconst 1, 1) := by decide +kernel
theorem dX7_rank_61 : decode cX7_rank 61 = .ok (.iand, 1) := by decide +kernel
theorem dX7_rank_62 : decode cX7_rank 62 = .ok (.iconst 1, 1) := by decide +kernel
theorem dX7_rank_63 : decode cX7_rank 63 = .ok (.if_icmp .ne 14, 3) := by decide +kernel
theorem dX7_rank_66 : decode cX7_rank 66 = .ok (.aload_n 0, 1) := by decide +kernel
theorem dX7_rank_67 : decode cX7_rank 67 = .ok (.aload_n 0, 1) := by decide +kernel
theorem dX7_rank_68 : decode cX7_rank 68 = .ok (.getfield 27, 3) := by decide +kernel
theorem dX7_rank_71 : decode cX7_rank 71 = .ok (.iload 4, 2) := by decide +kernel
theorem dX7_rank_73 : decode cX7_rank 73 = .ok (.iaload, 1) := by decide +kernel
theorem dX7_rank_74 : decode cX7_rank 74 = .ok (.invokevirtual 75, 3) := by decide +kernel
theorem dX7_rank_77 : decode cX7_rank 77 = .ok (.iinc 4 1, 3) := by decide +kernel
theorem dX7_rank_80 : decode cX7_rank 80 = .ok (.goto (-33), 3) := by decide +kernel
theorem dX7_rank_83 : decode cX7_rank 83 = .ok (.iload_n 3, 1) := by decide +kernel
theorem dX7_rank_84 : decode cX7_rank 84 = .ok (.ifCond .lt 10, 3) := by decide +kernel
theorem dX7_rank_87 : decode cX7_rank 87 = .ok (.aload_n 0, 1) := by decide +kernel
theorem dX7_rank_88 : decode cX7_rank 88 = .ok (.iconst 1, 1) := by decide +kernel
theorem dX7_rank_89 : decode cX7_rank 89 = .ok (.iload_n 3, 1) := by decide +kernel
theorem dX7_rank_90 : decode cX7_rank 90 = .ok (.ishl, 1) := by decide +kernel
theorem dX7_rank_91 : decode cX7_rank 91 = .ok (.invokevirtual 75, 3) := by decide +kernel
theorem dX7_rank_94 : decode cX7_rank 94 = .ok (.aload_n 0, 1) := by decide +kernel
theorem dX7_rank_95 : decode cX7_rank 95 = .ok (.lconst 1, 1) := by decide +kernel
theorem dX7_rank_96 : decode cX7_rank 96 = .ok (.putfield 71, 3) := by decide +kernel
theorem dX7_rank_99 : decode cX7_rank 99 = .ok (.iconst 0, 1) := by decide +kernel
theorem dX7_rank_100 : decode cX7_rank 100 = .ok (.istore 4, 2) := by decide +kernel
theorem dX7_rank_102 : decode cX7_rank 102 = .ok (.iconst 0, 1) := by decide +kernel
theorem dX7_rank_103 : decode cX7_rank 103 = .ok (.istore 5, 2) := by decide +kernel
theorem dX7_rank_105 : decode cX7_rank 105 = .ok (.iload 5, 2) := by decide +kernel
theorem dX7_rank_107 : decode cX7_rank 107 = .ok (.aload_n 0, 1) := by decide +kernel
theorem dX7_rank_108 : decode cX7_rank 108 = .ok (.getfield 7, 3) := by decide +kernel
theorem dX7_rank_111 : decode cX7_rank 111 = .ok (.if_icmp .ge 55, 3) := by decide +kernel
theorem dX7_rank_114 : decode cX7_rank 114 = .ok (.aload_n 0, 1) := by decide +kernel
theorem dX7_rank_115 : decode cX7_rank 115 = .ok (.iload 4, 2) := by decide +kernel
theorem dX7_rank_117 : decode cX7_rank 117 = .ok (.iload 5, 2) := by decide +kernel
theorem dX7_rank_119 : decode cX7_rank 119 = .ok (.invokevirtual 79, 3) := by decide +kernel
theorem dX7_rank_122 : decode cX7_rank 122 = .ok (.istore 6, 2) := by decide +kernel
theorem dX7_rank_124 : decode cX7_rank 124 = .ok (.iload 6, 2) := by decide +kernel
theorem dX7_rank_126 : decode cX7_rank 126 = .ok (.aload_n 0, 1) := by decide +kernel
theorem dX7_rank_127 : decode cX7_rank 127 = .ok (.getfield 68, 3) := by decide +kernel
theorem dX7_rank_130 : decode cX7_rank 130 = .ok (.if_icmp .ge 30, 3) := by decide +kernel
theorem dX7_rank_133 : decode cX7_rank 133 = .ok (.aload_n 0, 1) := by decide +kernel
theorem dX7_rank_134 : decode cX7_rank 134 = .ok (.iload 6, 2) := by decide +kernel
theorem dX7_rank_136 : decode cX7_rank 136 = .ok (.iload 4, 2) := by decide +kernel
theorem dX7_rank_138 : decode cX7_rank 138 = .ok (.aload_n 0, 1) := by decide +kernel
theorem dX7_rank_139 : decode cX7_rank 139 = .ok (.getfield 7, 3) := by decide +kernel
theorem dX7_rank_142 : decode cX7_rank 142 = .ok (.invokevirtual 83, 3) := by decide +kernel
theorem dX7_rank_145 : decode cX7_rank 145 = .ok (.aload_n 0, 1) := by decide +kernel
theorem dX7_rank_146 : decode cX7_rank 146 = .ok (.iload 4, 2) := by decide +kernel
theorem dX7_rank_148 : decode cX7_rank 148 = .ok (.iload 5, 2) := by decide +kernel
theorem dX7_rank_150 : decode cX7_rank 150 = .ok (.aload_n 0, 1) := by decide +kernel
theorem dX7_rank_151 : decode cX7_rank 151 = .ok (.getfield 7, 3) := by decide +kernel
theorem dX7_rank_154 : decode cX7_rank 154 = .ok (.invokevirtual 87, 3) := by decide +kernel
theorem dX7_rank_157 : decode cX7_rank 157 = .ok (.iinc 4 1, 3) := by decide +kernel
theorem dX7_rank_160 : decode cX7_rank 160 = .ok (.iinc 5 1, 3) := by decide +kernel
theorem dX7_rank_163 : decode cX7_rank 163 = .ok (.goto (-58), 3) := by decide +kernel
theorem dX7_rank_166 : decode cX7_rank 166 = .ok (.iload 4, 2) := by decide +kernel
theorem dX7_rank_168 : decode cX7_rank 168 = .ok (.ireturn, 1) := by decide +kernel
theorem dX7_isKnown_0 : decode cX7_isKnown 0 = .ok (.aload_n 0, 1) := by decide +kernel
theorem dX7_isKnown_1 : decode cX7_isKnown 1 = .ok (.aload_n 0, 1) := by decide +kernel
theorem dX7_isKnown_2 : decode cX7_isKnown 2 = .ok (.invokevirtual 90, 3) := by decide +kernel
theorem dX7_isKnown_5 : decode cX7_isKnown 5 = .ok (.iload_n 2, 1) := by decide +kernel
theorem dX7_isKnown_6 : decode cX7_isKnown 6 = .ok (.iload_n 1, 1) := by decide +kernel
theorem dX7_isKnown_7 : decode cX7_isKnown 7 = .ok (.invokevirtual 94, 3) := by decide +kernel
theorem dX7_isKnown_10 : decode cX7_isKnown 10 = .ok (.aload_n 0, 1) := by decide +kernel
theorem dX7_isKnown_11 : decode cX7_isKnown 11 = .ok (.aload_n 0, 1) := by decide +kernel
theorem dX7_isKnown_12 : decode cX7_isKnown 12 = .ok (.invokevirtual 90, 3) := by decide +kernel
theorem dX7_isKnown_15 : decode cX7_isKnown 15 = .ok (.iload_n 2, 1) := by decide +kernel
theorem dX7_isKnown_16 : decode cX7_isKnown 16 = .ok (.iconst (-1), 1) := by decide +kernel
theorem dX7_isKnown_17 : decode cX7_isKnown 17 = .ok (.invokevirtual 94, 3) := by decide +kernel
theorem dX7_isKnown_20 : decode cX7_isKnown 20 = .ok (.if_icmp .ne 7, 3) := by decide +kernel
theorem dX7_isKnown_23 : decode cX7_isKnown 23 = .ok (.iconst 1, 1) := by decide +kernel
theorem dX7_isKnown_24 : decode cX7_isKnown 24 = .ok (.goto 4, 3) := by decide +kernel
theorem dX7_isKnown_27 : decode cX7_isKnown 27 = .ok (.iconst 0, 1) := by decide +kernel
theorem dX7_isKnown_28 : decode cX7_isKnown 28 = .ok (.ireturn, 1) := by decide +kernel
theorem dX7_doFit_0 : decode cX7_doFit 0 = .ok (.iload_n 1, 1) := by decide +kernel
theorem dX7_doFit_1 : decode cX7_doFit 1 = .ok (.invokestatic 98, 3) := by decide +kernel
theorem dX7_doFit_4 : decode cX7_doFit 4 = .ok (.istore_n 2, 1) := by decide +kernel
theorem dX7_doFit_5 : decode cX7_doFit 5 = .ok (.aload_n 0, 1) := by decide +kernel
theorem dX7_doFit_6 : decode cX7_doFit 6 = .ok (.iconst 0, 1) := by decide +kernel
theorem dX7_doFit_7 : decode cX7_doFit 7 = .ok (.putfield 68, 3) := by decide +kernel
theorem dX7_doFit_10 : decode cX7_doFit 10 = .ok (.aload_n 0, 1) := by decide +kernel
theorem dX7_doFit_11 : decode cX7_doFit 11 = .ok (.getfield 7, 3) := by decide +kernel
theorem dX7_doFit_14 : decode cX7_doFit 14 = .ok (.iload_n 2, 1) := by decide +kernel
theorem dX7_doFit_15 : decode cX7_doFit 15 = .ok (.iadd, 1) := by decide +kernel
theorem dX7_doFit_16 : decode cX7_doFit 16 = .ok (.iconst 1, 1) := by decide +kernel
theorem dX7_doFit_17 : decode cX7_doFit 17 = .ok (.iadd, 1) := by decide +kernel
theorem dX7_doFit_18 : decode cX7_doFit 18 = .ok (.istore_n 3, 1) := by decide +kernel
theorem dX7_doFit_19 : decode cX7_doFit 19 = .ok (.iconst 0, 1) := by decide +kernel
theorem dX7_doFit_20 : decode cX7_doFit 20 = .ok (.istore 4, 2) := by decide +kernel
theorem dX7_doFit_22 : decode cX7_doFit 22 = .ok (.iload 4, 2) := by decide +kernel
theorem dX7_doFit_24 : decode cX7_doFit 24 = .ok (.aload_n 0, 1) := by decide +kernel
theorem dX7_doFit_25 : decode cX7_doFit 25 = .ok (.getfield 52, 3) := by decide +kernel
theorem dX7_doFit_28 : decode cX7_doFit 28 = .ok (.if_icmp .ge 140, 3) := by decide +kernel
theorem dX7_doFit_31 : decode cX7_doFit 31 = .ok (.iload_n 1, 1) := by decide +kernel
theorem dX7_doFit_32 : decode cX7_doFit 32 = .ok (.iload 4, 2) := by decide +kernel
theorem dX7_doFit_34 : decode cX7_doFit 34 = .ok (.ishr, 1) := by decide +kernel
theorem dX7_doFit_35 : decode cX7_doFit 35 = .ok (.iconst 1, 1) := by decide +kernel
theorem dX7_doFit_36 : decode cX7_doFit 36 = .ok (.iand, 1) := by decide +kernel
theorem dX7_doFit_37 : decode cX7_doFit 37 = .ok (.iconst 1, 1) := by decide +kernel
theorem dX7_doFit_38 : decode cX7_doFit 38 = .ok (.if_icmp .ne 124, 3) := by decide +kernel
theorem dX7_doFit_41 : decode cX7_doFit 41 = .ok (.iconst 0, 1) := by decide +kernel
theorem dX7_doFit_42 : decode cX7_doFit 42 = .ok (.istore 5, 2) := by decide +kernel
theorem dX7_doFit_44 : decode cX7_doFit 44 = .ok (.iload 5, 2) := by decide +kernel
theorem dX7_doFit_46 : decode cX7_doFit 46 = .ok (.iload_n 3, 1) := by decide +kernel
theorem dX7_doFit_47 : decode cX7_doFit 47 = .ok (.if_icmp .ge 87, 3) := by decide +kernel
theorem dX7_doFit_50 : decode cX7_doFit 50 = .ok (.aload_n 0, 1) := by decide +kernel
theorem dX7_doFit_51 : decode cX7_doFit 51 = .ok (.getfield 30, 3) := by decide +kernel
theorem dX7_doFit_54 : decode cX7_doFit 54 = .ok (.bipush 32, 2) := by decide +kernel
theorem dX7_doFit_56 : decode cX7_doFit 56 = .ok (.aload_n 0, 1) := by decide +kernel
theorem dX7_doFit_57 : decode cX7_doFit 57 = .ok (.getfield 68, 3) := by decide +kernel
theorem dX7_doFit_60 : decode cX7_doFit 60 = .ok (.imul, 1) := by decide +kernel
theorem dX7_doFit_61 : decode cX7_doFit 61 = .ok (.iload 5, 2) := by decide +kernel
theorem dX7_doFit_63 : decode cX7_doFit 63 = .ok (.iadd, 1) := by decide +kernel
theorem dX7_doFit_64 : decode cX7_doFit 64 = .ok (.iload 5, 2) := by decide +kernel
theorem dX7_doFit_66 : decode cX7_doFit 66 = .ok (.aload_n 0, 1) := by decide +kernel
theorem dX7_doFit_67 : decode cX7_doFit 67 = .ok (.getfield 7, 3) := by decide +kernel
theorem dX7_doFit_70 : decode cX7_doFit 70 = .ok (.if_icmp .ge 19, 3) := by decide +kernel
theorem dX7_doFit_73 : decode cX7_doFit 73 = .ok (.aload_n 0, 1) := by decide +kernel
theorem dX7_doFit_74 : decode cX7_doFit 74 = .ok (.getfield 13, 3) := by decide +kernel
theorem dX7_doFit_77 : decode cX7_doFit 77 = .ok (.iload 4, 2) := by decide +kernel
theorem dX7_doFit_79 : decode cX7_doFit 79 = .ok (.iaload, 1) := by decide +kernel
theorem dX7_doFit_80 : decode cX7_doFit 80 = .ok (.iload 5, 2) := by decide +kernel
theorem dX7_doFit_82 : decode cX7_doFit 82 = .ok (.ishr, 1) := by decide +kernel
theorem dX7_doFit_83 : decode cX7_doFit 83 = .ok (.iconst 1, 1) := by decide +kernel
theorem dX7_doFit_84 : decode cX7_doFit 84 = .ok (.iand, 1) := by decide +kernel
theorem dX7_doFit_85 : decode cX7_doFit 85 = .ok (.i2l, 1) := by decide +kernel
theorem dX7_doFit_86 : decode cX7_doFit 86 = .ok (.goto 41, 3) := by decide +kernel
theorem dX7_doFit_89 : decode cX7_doFit 89 = .ok (.iload 5, 2) := by decide +kernel
theorem dX7_doFit_91 : decode cX7_doFit 91 = .ok (.aload_n 0, 1) := by decide +kernel
theorem dX7_doFit_92 : decode cX7_doFit 92 = .ok (.getfield 7, 3) := by decide +kernel
theorem dX7_doFit_95 : decode cX7_doFit 95 = .ok (.aload_n 0, 1) := by decide +kernel
theorem dX7_doFit_96 : decode cX7_doFit 96 = .ok (.getfield 68, 3) := by decide +kernel
theorem dX7_doFit_99 : decode cX7_doFit 99 = .ok (.iadd, 1) := by decide +kernel
theorem dX7_doFit_100 : decode cX7_doFit 100 = .ok (.if_icmp .ne 7, 3) := by decide +kernel
theorem dX7_doFit_103 : decode cX7_doFit 103 = .ok (.lconst 1, 1) := by decide +kernel
theorem dX7_doFit_104 : decode cX7_doFit 104 = .ok (.goto 23, 3) := by decide +kernel
theorem dX7_doFit_107 : decode cX7_doFit 107 = .ok (.iload 5, 2) := by decide +kernel
theorem dX7_doFit_109 : decode cX7_doFit 109 = .ok (.iload_n 3, 1) := by decide +kernel
theorem dX7_doFit_110 : decode cX7_doFit 110 = .ok (.iconst 1, 1) := by decide +kernel
theorem dX7_doFit_111 : decode cX7_doFit 111 = .ok (.isub, 1) := by decide +kernel
theorem dX7_doFit_112 : decode cX7_doFit 112 = .ok (.if_icmp .ne 14, 3) := by decide +kernel
