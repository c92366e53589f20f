theorem dX7_bound_73 : decode cX7_bound 73 = .ok (.iload_n 1, 1) := by decide +kernel
theorem dX7_bound_74 : decode cX7_bound 74 = .ok (.invokestatic 116, 3) := by decide +kernel
theorem dX7_bound_77 : decode cX7_bound 77 = .ok (.aload_n 0, 1) := by decide +kernel
theorem dX7_bound_78 : decode cX7_bound 78 = .ok (.getfield 120, 3) := by decide +kernel
theorem dX7_bound_81 : decode cX7_bound 81 = .ok (.iload_n 3, 1) := by decide +kernel
theorem dX7_bound_82 : decode cX7_bound 82 = .ok (.invokestatic 148, 3) := by decide +kernel
theorem dX7_bound_85 : decode cX7_bound 85 = .ok (.lreturn, 1) := by decide +kernel
theorem dX7_noLine_0 : decode cX7_noLine 0 = .ok (.iload_n 1, 1) := by decide +kernel
theorem dX7_noLine_1 : decode cX7_noLine 1 = .ok (.i2l, 1) := by decide +kernel
theorem dX7_noLine_2 : decode cX7_noLine 2 = .ok (.lconst 0, 1) := by decide +kernel
theorem dX7_noLine_3 : decode cX7_noLine 3 = .ok (.aload_n 0, 1) := by decide +kernel
theorem dX7_noLine_4 : decode cX7_noLine 4 = .ok (.getfield 7, 3) := by decide +kernel
theorem dX7_noLine_7 : decode cX7_noLine 7 = .ok (.iconst 1, 1) := by decide +kernel
theorem dX7_noLine_8 : decode cX7_noLine 8 = .ok (.isub, 1) := by decide +kernel
theorem dX7_noLine_9 : decode cX7_noLine 9 = .ok (.i2l, 1) := by decide +kernel
theorem dX7_noLine_10 : decode cX7_noLine 10 = .ok (.invokestatic 46, 3) := by decide +kernel
theorem dX7_noLine_13 : decode cX7_noLine 13 = .ok (.ifCond .ne 7, 3) := by decide +kernel
theorem dX7_noLine_16 : decode cX7_noLine 16 = .ok (.iconst 1, 1) := by decide +kernel
theorem dX7_noLine_17 : decode cX7_noLine 17 = .ok (.goto 4, 3) := by decide +kernel
theorem dX7_noLine_20 : decode cX7_noLine 20 = .ok (.iconst 0, 1) := by decide +kernel
theorem dX7_noLine_21 : decode cX7_noLine 21 = .ok (.ireturn, 1) := by decide +kernel
theorem dX7_shown_0 : decode cX7_shown 0 = .ok (.aload_n 0, 1) := by decide +kernel
theorem dX7_shown_1 : decode cX7_shown 1 = .ok (.iload_n 3, 1) := by decide +kernel
theorem dX7_shown_2 : decode cX7_shown 2 = .ok (.invokevirtual 152, 3) := by decide +kernel
theorem dX7_shown_5 : decode cX7_shown 5 = .ok (.ifCond .eq 7, 3) := by decide +kernel
theorem dX7_shown_8 : decode cX7_shown 8 = .ok (.ldc2_w 155, 3) := by decide +kernel
theorem dX7_shown_11 : decode cX7_shown 11 = .ok (.lreturn, 1) := by decide +kernel
theorem dX7_shown_12 : decode cX7_shown 12 = .ok (.aload_n 0, 1) := by decide +kernel
theorem dX7_shown_13 : decode cX7_shown 13 = .ok (.iload_n 1, 1) := by decide +kernel
theorem dX7_shown_14 : decode cX7_shown 14 = .ok (.iconst 0, 1) := by decide +kernel
theorem dX7_shown_15 : decode cX7_shown 15 = .ok (.invokevirtual 58, 3) := by decide +kernel
theorem dX7_shown_18 : decode cX7_shown 18 = .ok (.ifCond .ne 24, 3) := by decide +kernel
theorem dX7_shown_21 : decode cX7_shown 21 = .ok (.iload_n 2, 1) := by decide +kernel
theorem dX7_shown_22 : decode cX7_shown 22 = .ok (.i2l, 1) := by decide +kernel
theorem dX7_shown_23 : decode cX7_shown 23 = .ok (.lconst 0, 1) := by decide +kernel
theorem dX7_shown_24 : decode cX7_shown 24 = .ok (.lconst 1, 1) := by decide +kernel
theorem dX7_shown_25 : decode cX7_shown 25 = .ok (.invokestatic 46, 3) := by decide +kernel
theorem dX7_shown_28 : decode cX7_shown 28 = .ok (.ifCond .eq 14, 3) := by decide +kernel
theorem dX7_shown_31 : decode cX7_shown 31 = .ok (.iload 4, 2) := by decide +kernel
theorem dX7_shown_33 : decode cX7_shown 33 = .ok (.i2l, 1) := by decide +kernel
theorem dX7_shown_34 : decode cX7_shown 34 = .ok (.lconst 0, 1) := by decide +kernel
theorem dX7_shown_35 : decode cX7_shown 35 = .ok (.lconst 1, 1) := by decide +kernel
theorem dX7_shown_36 : decode cX7_shown 36 = .ok (.invokestatic 46, 3) := by decide +kernel
theorem dX7_shown_39 : decode cX7_shown 39 = .ok (.ifCond .ne 7, 3) := by decide +kernel
theorem dX7_shown_42 : decode cX7_shown 42 = .ok (.ldc2_w 136, 3) := by decide +kernel
theorem dX7_shown_45 : decode cX7_shown 45 = .ok (.lreturn, 1) := by decide +kernel
theorem dX7_shown_46 : decode cX7_shown 46 = .ok (.aload_n 0, 1) := by decide +kernel
theorem dX7_shown_47 : decode cX7_shown 47 = .ok (.aload_n 0, 1) := by decide +kernel
theorem dX7_shown_48 : decode cX7_shown 48 = .ok (.invokevirtual 90, 3) := by decide +kernel
theorem dX7_shown_51 : decode cX7_shown 51 = .ok (.invokevirtual 108, 3) := by decide +kernel
theorem dX7_shown_54 : decode cX7_shown 54 = .ok (.ifCond .ne 7, 3) := by decide +kernel
theorem dX7_shown_57 : decode cX7_shown 57 = .ok (.ldc2_w 138, 3) := by decide +kernel
theorem dX7_shown_60 : decode cX7_shown 60 = .ok (.lreturn, 1) := by decide +kernel
theorem dX7_shown_61 : decode cX7_shown 61 = .ok (.aload_n 0, 1) := by decide +kernel
theorem dX7_shown_62 : decode cX7_shown 62 = .ok (.iload_n 1, 1) := by decide +kernel
theorem dX7_shown_63 : decode cX7_shown 63 = .ok (.iload_n 2, 1) := by decide +kernel
theorem dX7_shown_64 : decode cX7_shown 64 = .ok (.invokevirtual 140, 3) := by decide +kernel
theorem dX7_shown_67 : decode cX7_shown 67 = .ok (.ifCond .eq 7, 3) := by decide +kernel
theorem dX7_shown_70 : decode cX7_shown 70 = .ok (.ldc2_w 143, 3) := by decide +kernel
theorem dX7_shown_73 : decode cX7_shown 73 = .ok (.lreturn, 1) := by decide +kernel
theorem dX7_shown_74 : decode cX7_shown 74 = .ok (.aload_n 0, 1) := by decide +kernel
theorem dX7_shown_75 : decode cX7_shown 75 = .ok (.iload_n 1, 1) := by decide +kernel
theorem dX7_shown_76 : decode cX7_shown 76 = .ok (.iload_n 2, 1) := by decide +kernel
theorem dX7_shown_77 : decode cX7_shown 77 = .ok (.invokevirtual 145, 3) := by decide +kernel
theorem dX7_shown_80 : decode cX7_shown 80 = .ok (.istore 5, 2) := by decide +kernel
theorem dX7_shown_82 : decode cX7_shown 82 = .ok (.aload_n 0, 1) := by decide +kernel
theorem dX7_shown_83 : decode cX7_shown 83 = .ok (.getfield 40, 3) := by decide +kernel
theorem dX7_shown_86 : decode cX7_shown 86 = .ok (.iload_n 3, 1) := by decide +kernel
theorem dX7_shown_87 : decode cX7_shown 87 = .ok (.laload, 1) := by decide +kernel
theorem dX7_shown_88 : decode cX7_shown 88 = .ok (.aload_n 0, 1) := by decide +kernel
theorem dX7_shown_89 : decode cX7_shown 89 = .ok (.getfield 120, 3) := by decide +kernel
theorem dX7_shown_92 : decode cX7_shown 92 = .ok (.iload 4, 2) := by decide +kernel
theorem dX7_shown_94 : decode cX7_shown 94 = .ok (.invokestatic 148, 3) := by decide +kernel
theorem dX7_shown_97 : decode cX7_shown 97 = .ok (.lreturn, 1) := by decide +kernel
theorem dX7_isSettled_0 : decode cX7_isSettled 0 = .ok (.aload_n 0, 1) := by decide +kernel
theorem dX7_isSettled_1 : decode cX7_isSettled 1 = .ok (.invokevirtual 123, 3) := by decide +kernel
theorem dX7_isSettled_4 : decode cX7_isSettled 4 = .ok (.iload_n 1, 1) := by decide +kernel
theorem dX7_isSettled_5 : decode cX7_isSettled 5 = .ok (.ishr, 1) := by decide +kernel
theorem dX7_isSettled_6 : decode cX7_isSettled 6 = .ok (.iconst 1, 1) := by decide +kernel
theorem dX7_isSettled_7 : decode cX7_isSettled 7 = .ok (.iand, 1) := by decide +kernel
theorem dX7_isSettled_8 : decode cX7_isSettled 8 = .ok (.ifCond .ne 5, 3) := by decide +kernel
theorem dX7_isSettled_11 : decode cX7_isSettled 11 = .ok (.iconst 0, 1) := by decide +kernel
theorem dX7_isSettled_12 : decode cX7_isSettled 12 = .ok (.ireturn, 1) := by decide +kernel
theorem dX7_isSettled_13 : decode cX7_isSettled 13 = .ok (.aload_n 0, 1) := by decide +kernel
theorem dX7_isSettled_14 : decode cX7_isSettled 14 = .ok (.iconst 1, 1) := by decide +kernel
theorem dX7_isSettled_15 : decode cX7_isSettled 15 = .ok (.iload_n 1, 1) := by decide +kernel
theorem dX7_isSettled_16 : decode cX7_isSettled 16 = .ok (.ishl, 1) := by decide +kernel
theorem dX7_isSettled_17 : decode cX7_isSettled 17 = .ok (.iconst 0, 1) := by decide +kernel
theorem dX7_isSettled_18 : decode cX7_isSettled 18 = .ok (.invokevirtual 145, 3) := by decide +kernel
theorem dX7_isSettled_21 : decode cX7_isSettled 21 = .ok (.istore_n 2, 1) := by decide +kernel
theorem dX7_isSettled_22 : decode cX7_isSettled 22 = .ok (.aload_n 0, 1) := by decide +kernel
theorem dX7_isSettled_23 : decode cX7_isSettled 23 = .ok (.getfield 40, 3) := by decide +kernel
theorem dX7_isSettled_26 : decode cX7_isSettled 26 = .ok (.iload_n 1, 1) := by decide +kernel
theorem dX7_isSettled_27 : decode cX7_isSettled 27 = .ok (.laload, 1) := by decide +kernel
theorem dX7_isSettled_28 : decode cX7_isSettled 28 = .ok (.lstore_n 3, 1) := by decide +kernel
theorem dX7_isSettled_29 : decode cX7_isSettled 29 = .ok (.aload_n 0, 1) := by decide +kernel
theorem dX7_isSettled_30 : decode cX7_isSettled 30 = .ok (.getfield 120, 3) := by decide +kernel
theorem dX7_isSettled_33 : decode cX7_isSettled 33 = .ok (.lstore 5, 2) := by decide +kernel
theorem dX7_isSettled_35 : decode cX7_isSettled 35 = .ok (.aload_n 0, 1) := by decide +kernel
theorem dX7_isSettled_36 : decode cX7_isSettled 36 = .ok (.iconst 1, 1) := by decide +kernel
theorem dX7_isSettled_37 : decode cX7_isSettled 37 = .ok (.iload_n 1, 1) := by decide +kernel
theorem dX7_isSettled_38 : decode cX7_isSettled 38 = .ok (.ishl, 1) := by decide +kernel
theorem dX7_isSettled_39 : decode cX7_isSettled 39 = .ok (.iconst 1, 1) := by decide +kernel
theorem dX7_isSettled_40 : decode cX7_isSettled 40 = .ok (.invokevirtual 145, 3) := by decide +kernel
theorem dX7_isSettled_43 : decode cX7_isSettled 43 = .ok (.istore_n 2, 1) := by decide +kernel
theorem dX7_isSettled_44 : decode cX7_isSettled 44 = .ok (.lload_n 3, 1) := by decide +kernel
theorem dX7_isSettled_45 : decode cX7_isSettled 45 = .ok (.aload_n 0, 1) := by decide +kernel
theorem dX7_isSettled_46 : decode cX7_isSettled 46 = .ok (.getfield 120, 3) := by decide +kernel
theorem dX7_isSettled_49 : decode cX7_isSettled 49 = .ok (.lmul, 1) := by decide +kernel
theorem dX7_isSettled_50 : decode cX7_isSettled 50 = .ok (.aload_n 0, 1) := by decide +kernel
theorem dX7_isSettled_51 : decode cX7_isSettled 51 = .ok (.getfield 40, 3) := by decide +kernel
theorem dX7_isSettled_54 : decode cX7_isSettled 54 = .ok (.iload_n 1, 1) := by decide +kernel
theorem dX7_isSettled_55 : decode cX7_isSettled 55 = .ok (.laload, 1) := by decide +kernel
theorem dX7_isSettled_56 : decode cX7_isSettled 56 = .ok (.lload 5, 2) := by decide +kernel
theorem dX7_isSettled_58 : decode cX7_isSettled 58 = .ok (.lmul, 1) := by decide +kernel
theorem dX7_isSettled_59 : decode cX7_isSettled 59 = .ok (.lcmp, 1) := by decide +kernel
theorem dX7_isSettled_60 : decode cX7_isSettled 60 = .ok (.ifCond .ne 7, 3) := by decide +kernel
theorem dX7_isSettled_63 : decode cX7_isSettled 63 = .ok (.iconst 1, 1) := by decide +kernel
theorem dX7_isSettled_64 : decode cX7_isSettled 64 = .ok (.goto 4, 3) := by decide +kernel
theorem dX7_isSettled_67 : decode cX7_isSettled 67 = .ok (.iconst 0, 1) := by decide +kernel
theorem dX7_isSettled_68 : decode cX7_isSettled 68 = .ok (.ireturn, 1) := by decide +kernel
theorem dX7_settled_0 : decode cX7_settled 0 = .ok (.aload_n 0, 1) := by decide +kernel
theorem dX7_settled_1 : decode cX7_settled 1 = .ok (.iload_n 1, 1) := by decide +kernel
theorem dX7_settled_2 : decode cX7_settled 2 = .ok (.invokevirtual 152, 3) := by decide +kernel
theorem dX7_settled_5 : decode cX7_settled 5 = .ok (.ifCond .eq 6, 3) := by decide +kernel
theorem dX7_settled_8 : decode cX7_settled 8 = .ok (.bipush (-101), 2) := by decide +kernel
theorem dX7_settled_10 : decode cX7_settled 10 = .ok (.ireturn, 1) := by decide +kernel
theorem dX7_settled_11 : decode cX7_settled 11 = .ok (.aload_n 0, 1) := by decide +kernel
theorem dX7_settled_12 : decode cX7_settled 12 = .ok (.aload_n 0, 1) := by decide +kernel
theorem dX7_settled_13 : decode cX7_settled 13 = .ok (.invokevirtual 90, 3) := by decide +kernel
theorem dX7_settled_16 : decode cX7_settled 16 = .ok (.invokevirtual 108, 3) := by decide +kernel
theorem dX7_settled_19 : decode cX7_settled 19 = .ok (.ifCond .ne 8, 3) := by decide +kernel
theorem dX7_settled_22 : decode cX7_settled 22 = .ok (.bipush (-103), 2) := by decide +kernel
theorem dX7_settled_24 : decode cX7_settled 24 = .ok (.goto 16, 3) := by decide +kernel
theorem dX7_settled_27 : decode cX7_settled 27 = .ok (.aload_n 0, 1) := by decide +kernel
theorem dX7_settled_28 : decode cX7_settled 28 = .ok (.iload_n 1, 1) := by decide +kernel
theorem dX7_settled_29 : decode cX7_settled 29 = .ok (.invokevirtual 157, 3) := by decide +kernel
theorem dX7_settled_32 : decode cX7_settled 32 = .ok (.ifCond .eq 7, 3) := by decide +kernel
theorem dX7_settled_35 : decode cX7_settled 35 = .ok (.iconst 1, 1) := by decide +kernel
theorem dX7_settled_36 : decode cX7_settled 36 = .ok (.goto 4, 3) := by decide +kernel
theorem dX7_settled_39 : decode cX7_settled 39 = .ok (.iconst 0, 1) := by decide +kernel
theorem dX7_settled_40 : decode cX7_settled 40 = .ok (.ireturn, 1) := by decide +kernel
theorem dX7_known_0 : decode cX7_known 0 = .ok (.aload_n 0, 1) := by decide +kernel
theorem dX7_known_1 : decode cX7_known 1 = .ok (.iload_n 1, 1) := by decide +kernel
theorem dX7_known_2 : decode cX7_known 2 = .ok (.invokevirtual 152, 3) := by decide +kernel
theorem dX7_known_5 : decode cX7_known 5 = .ok (.ifCond .eq 8, 3) := by decide +kernel
theorem dX7_known_8 : decode cX7_known 8 = .ok (.bipush (-101), 2) := by decide +kernel
theorem dX7_known_10 : decode cX7_known 10 = .ok (.goto 17, 3) := by decide +kernel
theorem dX7_known_13 : decode cX7_known 13 = .ok (.aload_n 0, 1) := by decide +kernel
theorem dX7_known_14 : decode cX7_known 14 = .ok (.iload_n 1, 1) := by decide +kernel
theorem dX7_known_15 : decode cX7_known 15 = .ok (.iconst 0, 1) := by decide +kernel
theorem dX7_known_16 : decode cX7_known 16 = .ok (.invokevirtual 160, 3) := by decide +kernel
theorem dX7_known_19 : decode cX7_known 19 = .ok (.ifCond .eq 7, 3) := by decide +kernel
theorem dX7_known_22 : decode cX7_known 22 = .ok (.iconst 1, 1) := by decide +kernel
theorem dX7_known_23 : decode cX7_known 23 = .ok (.goto 4, 3) := by decide +kernel
theorem dX7_known_26 : decode cX7_known 26 = .ok (.iconst 0, 1) := by decide +kernel
theorem dX7_known_27 : decode cX7_known 27 = .ok (.ireturn, 1) := by decide +kernel
theorem dX7_overLine_0 : decode cX7_overLine 0 = .ok (.iconst 0, 1) := by decide +kernel
theorem dX7_overLine_1 : decode cX7_overLine 1 = .ok (.istore_n 2, 1) := by decide +kernel
theorem dX7_overLine_2 : decode cX7_overLine 2 = .ok (.iconst 0, 1) := by decide +kernel
theorem dX7_overLine_3 : decode cX7_overLine 3 = .ok (.istore_n 3, 1) := by decide +kernel
theorem dX7_overLine_4 : decode cX7_overLine 4 = .ok (.iload_n 3, 1) := by decide +kernel
theorem dX7_overLine_5 : decode cX7_overLine 5 = .ok (.aload_n 0, 1) := by decide +kernel
theorem dX7_overLine_6 : decode cX7_overLine 6 = .ok (.getfield 52, 3) := by decide +kernel
theorem dX7_overLine_9 : decode cX7_overLine 9 = .ok (.if_icmp .ge 42, 3) := by decide +kernel
theorem dX7_overLine_12 : decode cX7_overLine 12 = .ok (.iload_n 2, 1) := by decide +kernel
theorem dX7_overLine_13 : decode cX7_overLine 13 = .ok (.aload_n 0, 1) := by decide +kernel
theorem dX7_overLine_14 : decode cX7_overLine 14 = .ok (.getfield 20, 3) := by decide +kernel
theorem dX7_overLine_17 : decode cX7_overLine 17 = .ok (.iload_n 3, 1) := by decide +kernel
theorem dX7_overLine_18 : decode cX7_overLine 18 = .ok (.baload, 1) := by decide +kernel
theorem dX7_overLine_19 : decode cX7_overLine 19 = .ok (.ifCond .eq 23, 3) := by decide +kernel
theorem dX7_overLine_22 : decode cX7_overLine 22 = .ok (.aload_n 0, 1) := by decide +kernel
theorem dX7_overLine_23 : decode cX7_overLine 23 = .ok (.getfield 13, 3) := by decide +kernel
theorem dX7_overLine_26 : decode cX7_overLine 26 = .ok (.iload_n 3, 1) := by decide +kernel
theorem dX7_overLine_27 : decode cX7_overLine 27 = .ok (.iaload, 1) := by decide +kernel
theorem dX7_overLine_28 : decode cX7_overLine 28 = .ok (.iload_n 1, 1) := by decide +kernel
theorem dX7_overLine_29 : decode cX7_overLine 29 = .ok (.ishr, 1) := by decide +kernel
theorem dX7_overLine_30 : decode cX7_overLine 30 = .ok (.iconst 1, 1) := by decide +kernel
theorem dX7_overLine_31 : decode cX7_overLine 31 = .ok (.iand, 1) := by decide +kernel
theorem dX7_overLine_32 : decode cX7_overLine 32 = .ok (.iconst 1, 1) := by decide +kernel
theorem dX7_overLine_33 : decode cX7_overLine 33 = .ok (.if_icmp .ne 9, 3) := by decide +kernel
theorem dX7_overLine_36 : decode cX7_overLine 36 = .ok (.iconst 1, 1) := by decide +kernel
theorem dX7_overLine_37 : decode cX7_overLine 37 = .ok (.iload_n 3, 1) := by decide +kernel
theorem dX7_overLine_38 : decode cX7_overLine 38 = .ok (.ishl, 1) := by decide +kernel
theorem dX7_overLine_39 : decode cX7_overLine 39 = .ok (.goto 4, 3) := by decide +kernel
theorem dX7_overLine_42 : decode cX7_overLine 42 = .ok (.iconst 0, 1) := by decide +kernel
theorem dX7_overLine_43 : decode cX7_overLine 43 = .ok (.ior, 1) := by decide +kernel
theorem dX7_overLine_44 : decode cX7_overLine 44 = .ok (.istore_n 2, 1) := by decide +kernel
theorem dX7_overLine_45 : decode cX7_overLine 45 = .ok (.iinc 3 1, 3) := by decide +kernel
theorem dX7_overLine_48 : decode cX7_overLine 48 = .ok (.goto (-44), 3) := by decide +kernel
theorem dX7_overLine_51 : decode cX7_overLine 51 = .ok (.iload_n 2, 1) := by decide +kernel
theorem dX7_overLine_52 : decode cX7_overLine 52 = .ok (.ireturn, 1) := by decide +kernel
theorem dX7_groupOf_0 : decode cX7_groupOf 0 = .ok (.iconst 0, 1) := by decide +kernel
theorem dX7_groupOf_1 : decode cX7_groupOf 1 = .ok (.istore_n 2, 1) := by decide +kernel
theorem dX7_groupOf_2 : decode cX7_groupOf 2 = .ok (.iconst 0, 1) := by decide +kernel
theorem dX7_groupOf_3 : decode cX7_groupOf 3 = .ok (.istore_n 3, 1) := by decide +kernel
theorem dX7_groupOf_4 : decode cX7_groupOf 4 = .ok (.iload_n 3, 1) := by decide +kernel
theorem dX7_groupOf_5 : decode cX7_groupOf 5 = .ok (.aload_n 0, 1) := by decide +kernel
theorem dX7_groupOf_6 : decode cX7_groupOf 6 = .ok (.getfield 7, 3) := by decide +kernel
theorem dX7_groupOf_9 : decode cX7_groupOf 9 = .ok (.if_icmp .ge 32, 3) := by decide +kernel
theorem dX7_groupOf_12 : decode cX7_groupOf 12 = .ok (.iload_n 2, 1) := by decide +kernel
theorem dX7_groupOf_13 : decode cX7_groupOf 13 = .ok (.aload_n 0, 1) := by decide +kernel
theorem dX7_groupOf_14 : decode cX7_groupOf 14 = .ok (.iload_n 3, 1) := by decide +kernel
theorem dX7_groupOf_15 : decode cX7_groupOf 15 = .ok (.invokevirtual 163, 3) := by decide +kernel
theorem dX7_groupOf_18 : decode cX7_groupOf 18 = .ok (.aload_n 0, 1) := by decide +kernel
theorem dX7_groupOf_19 : decode cX7_groupOf 19 = .ok (.iload_n 1, 1) := by decide +kernel
theorem dX7_groupOf_20 : decode cX7_groupOf 20 = .ok (.invokevirtual 163, 3) := by decide +kernel
theorem dX7_groupOf_23 : decode cX7_groupOf 23 = .ok (.if_icmp .ne 9, 3) := by decide +kernel
theorem dX7_groupOf_26 : decode cX7_groupOf 26 = .ok (.iconst 1, 1) := by decide +kernel
theorem dX7_groupOf_27 : decode cX7_groupOf 27 = .ok (.iload_n 3, 1) := by decide +kernel
theorem dX7_groupOf_28 : decode cX7_groupOf 28 = .ok (.ishl, 1) := by decide +kernel
theorem dX7_groupOf_29 : decode cX7_groupOf 29 = .ok (.goto 4, 3) := by decide +kernel
theorem dX7_groupOf_32 : decode cX7_groupOf 32 = .ok (.iconst 0, 1) := by decide +kernel
theorem dX7_groupOf_33 : decode cX7_groupOf 33 = .ok (.ior, 1) := by decide +kernel
theorem dX7_groupOf_34 : decode cX7_groupOf 34 = .ok (.istore_n 2, 1) := by decide +kernel
theorem dX7_groupOf_35 : decode cX7_groupOf 35 = .ok (.iinc 3 1, 3) := by decide +kernel
theorem dX7_groupOf_38 : decode cX7_groupOf 38 = .ok (.goto (-34), 3) := by decide +kernel
theorem dX7_groupOf_41 : decode cX7_groupOf 41 = .ok (.iload_n 2, 1) := by decide +kernel
theorem dX7_groupOf_42 : decode cX7_groupOf 42 = .ok (.ireturn, 1) := by decide +kernel
theorem dX7_group_0 : decode cX7_group 0 = .ok (.aload_n 0, 1) := by decide +kernel
theorem dX7_group_1 : decode cX7_group 1 = .ok (.iload_n 1, 1) := by decide +kernel
theorem dX7_group_2 : decode cX7_group 2 = .ok (.invokevirtual 152, 3) := by decide +kernel
theorem dX7_group_5 : decode cX7_group 5 = .ok (.ifCond .eq 8, 3) := by decide +kernel
theorem dX7_group_8 : decode cX7_group 8 = .ok (.bipush (-101), 2) := by decide +kernel
theorem dX7_group_10 : decode cX7_group 10 = .ok (.goto 8, 3) := by decide +kernel
theorem dX7_group_13 : decode cX7_group 13 = .ok (.aload_n 0, 1) := by decide +kernel
theorem dX7_group_14 : decode cX7_group 14 = .ok (.iload_n 1, 1) := by decide +kernel
theorem dX7_group_15 : decode cX7_group 15 = .ok (.invokevirtual 166, 3) := by decide +kernel
theorem dX7_group_18 : decode cX7_group 18 = .ok (.ireturn, 1) := by decide +kernel
theorem dX7_count_0 : decode cX7_count 0 = .ok (.iload_n 1, 1) := by decide +kernel
theorem dX7_count_1 : decode cX7_count 1 = .ok (.i2l, 1) := by decide +kernel
theorem dX7_count_2 : decode cX7_count 2 = .ok (.lconst 0, 1) := by decide +kernel
theorem dX7_count_3 : decode cX7_count 3 = .ok (.ldc2_w 169, 3) := by decide +kernel
theorem dX7_count_6 : decode cX7_count 6 = .ok (.invokestatic 46, 3) := by decide +kernel
theorem dX7_count_9 : decode cX7_count 9 = .ok (.ifCond .ne 6, 3) := by decide +kernel
theorem dX7_count_12 : decode cX7_count 12 = .ok (.bipush (-102), 2) := by decide +kernel
theorem dX7_count_14 : decode cX7_count 14 = .ok (.ireturn, 1) := by decide +kernel
theorem dX7_count_15 : decode cX7_count 15 = .ok (.iload_n 1, 1) := by decide +kernel
theorem dX7_count_16 : decode cX7_count 16 = .ok (.iconst 5, 1) := by decide +kernel
theorem dX7_count_17 : decode cX7_count 17 = .ok (.if_icmp .ne 17, 3) := by decide +kernel
theorem dX7_count_20 : decode cX7_count 20 = .ok (.aload_n 0, 1) := by decide +kernel
theorem dX7_count_21 : decode cX7_count 21 = .ok (.aload_n 0, 1) := by decide +kernel
theorem dX7_count_22 : decode cX7_count 22 = .ok (.invokevirtual 90, 3) := by decide +kernel
theorem dX7_count_25 : decode cX7_count 25 = .ok (.invokevirtual 108, 3) := by decide +kernel
theorem dX7_count_28 : decode cX7_count 28 = .ok (.ifCond .ne 6, 3) := by decide +kernel
theorem dX7_count_31 : decode cX7_count 31 = .ok (.bipush (-103), 2) := by decide +kernel
theorem dX7_count_33 : decode cX7_count 33 = .ok (.ireturn, 1) := by decide +kernel
theorem dX7_count_34 : decode cX7_count 34 = .ok (.iconst 0, 1) := by decide +kernel
theorem dX7_count_35 : decode cX7_count 35 = .ok (.istore_n 2, 1) := by decide +kernel
theorem dX7_count_36 : decode cX7_count 36 = .ok (.iconst 0, 1) := by decide +kernel
theorem dX7_count_37 : decode cX7_count 37 = .ok (.istore_n 3, 1) := by decide +kernel
theorem dX7_count_38 : decode cX7_count 38 = .ok (.iload_n 3, 1) := by decide +kernel
theorem dX7_count_39 : decode cX7_count 39 = .ok (.aload_n 0, 1) := by decide +kernel
theorem dX7_count_40 : decode cX7_count 40 = .ok (.getfield 7, 3) := by decide +kernel
theorem dX7_count_43 : decode cX7_count 43 = .ok (.if_icmp .ge 77, 3) := by decide +kernel
theorem dX7_count_46 : decode cX7_count 46 = .ok (.iload_n 1, 1) := by decide +kernel
theorem dX7_count_47 : decode cX7_count 47 = .ok (.iconst 5, 1) := by decide +kernel
theorem dX7_count_48 : decode cX7_count 48 = .ok (.if_icmp .ne 11, 3) := by decide +kernel
theorem dX7_count_51 : decode cX7_count 51 = .ok (.aload_n 0, 1) := by decide +kernel
theorem dX7_count_52 : decode cX7_count 52 = .ok (.iload_n 3, 1) := by decide +kernel
theorem dX7_count_53 : decode cX7_count 53 = .ok (.invokevirtual 157, 3) := by decide +kernel
theorem dX7_count_56 : decode cX7_count 56 = .ok (.goto 43, 3) := by decide +kernel
theorem dX7_count_59 : decode cX7_count 59 = .ok (.iload_n 1, 1) := by decide +kernel
theorem dX7_count_60 : decode cX7_count 60 = .ok (.bipush 6, 2) := by decide +kernel
theorem dX7_count_62 : decode cX7_count 62 = .ok (.if_icmp .ne 12, 3) := by decide +kernel
theorem dX7_count_65 : decode cX7_count 65 = .ok (.aload_n 0, 1) := by decide +kernel
theorem dX7_count_66 : decode cX7_count 66 = .ok (.iload_n 3, 1) := by decide +kernel
theorem dX7_count_67 : decode cX7_count 67 = .ok (.iconst 0, 1) := by decide +kernel
theorem dX7_count_68 : decode cX7_count 68 = .ok (.invokevirtual 160, 3) := by decide +kernel
theorem dX7_count_71 : decode cX7_count 71 = .ok (.goto 28, 3) := by decide +kernel
theorem dX7_count_74 : decode cX7_count 74 = .ok (.iload_n 1, 1) := by decide +kernel
theorem dX7_count_75 : decode cX7_count 75 = .ok (.bipush 7, 2) := by decide +kernel
theorem dX7_count_77 : decode cX7_count 77 = .ok (.if_icmp .ne 21, 3) := by decide +kernel
theorem dX7_count_80 : decode cX7_count 80 = .ok (.aload_n 0, 1) := by decide +kernel
theorem dX7_count_81 : decode cX7_count 81 = .ok (.iload_n 3, 1) := by decide +kernel
theorem dX7_count_82 : decode cX7_count 82 = .ok (.invokevirtual 166, 3) := by decide +kernel
theorem dX7_count_85 : decode cX7_count 85 = .ok (.iconst 1, 1) := by decide +kernel
theorem dX7_count_86 : decode cX7_count 86 = .ok (.iload_n 3, 1) := by decide +kernel
theorem dX7_count_87 : decode cX7_count 87 = .ok (.ishl, 1) := by decide +kernel
theorem dX7_count_88 : decode cX7_count 88 = .ok (.iconst 1, 1) := by decide +kernel
theorem dX7_count_89 : decode cX7_count 89 = .ok (.isub, 1) := by decide +kernel
theorem dX7_count_90 : decode cX7_count 90 = .ok (.iand, 1) := by decide +kernel
theorem dX7_count_91 : decode cX7_count 91 = .ok (.ifCond .ne 7, 3) := by decide +kernel
theorem dX7_count_94 : decode cX7_count 94 = .ok (.iconst 1, 1) := by decide +kernel
theorem dX7_count_95 : decode cX7_count 95 = .ok (.goto 4, 3) := by decide +kernel
theorem dX7_count_98 : decode cX7_count 98 = .ok (.iconst 0, 1) := by decide +kernel
theorem dX7_count_99 : decode cX7_count 99 = .ok (.istore 4, 2) := by decide +kernel
theorem dX7_count_101 : decode cX7_count 101 = .ok (.iload_n 2, 1) := by decide +kernel
theorem dX7_count_102 : decode cX7_count 102 = .ok (.iload 4, 2) := by decide +kernel
theorem dX7_count_104 : decode cX7_count 104 = .ok (.ifCond .eq 7, 3) := by decide +kernel
theorem dX7_count_107 : decode cX7_count 107 = .ok (.iconst 1, 1) := by decide +kernel
theorem dX7_count_108 : decode cX7_count 108 = .ok (.goto 4, 3) := by decide +kernel
theorem dX7_count_111 : decode cX7_count 111 = .ok (.iconst 0, 1) := by decide +kernel
theorem dX7_count_112 : decode cX7_count 112 = .ok (.iadd, 1) := by decide +kernel
theorem dX7_count_113 : decode cX7_count 113 = .ok (.istore_n 2, 1) := by decide +kernel
theorem dX7_count_114 : decode cX7_count 114 = .ok (.iinc 3 1, 3) := by decide +kernel
theorem dX7_count_117 : decode cX7_count 117 = .ok (.goto (-79), 3) := by decide +kernel
theorem dX7_count_120 : decode cX7_count 120 = .ok (.iload_n 1, 1) := by decide +kernel
theorem dX7_count_121 : decode cX7_count 121 = .ok (.tableswitch 93 0 8 #[51, 56, 61, 69, 80, 93, 93, 93, 88], 51) := by decide +kernel
theorem dX7_count_172 : decode cX7_count 172 = .ok (.aload_n 0, 1) := by decide +kernel
theorem dX7_count_173 : decode cX7_count 173 = .ok (.getfield 7, 3) := by decide +kernel
theorem dX7_count_176 : decode cX7_count 176 = .ok (.ireturn, 1) := by decide +kernel
theorem dX7_count_177 : decode cX7_count 177 = .ok (.aload_n 0, 1) := by decide +kernel
theorem dX7_count_178 : decode cX7_count 178 = .ok (.getfield 52, 3) := by decide +kernel
theorem dX7_count_181 : decode cX7_count 181 = .ok (.ireturn, 1) := by decide +kernel
theorem dX7_count_182 : decode cX7_count 182 = .ok (.aload_n 0, 1) := by decide +kernel
theorem dX7_count_183 : decode cX7_count 183 = .ok (.invokevirtual 90, 3) := by decide +kernel
theorem dX7_count_186 : decode cX7_count 186 = .ok (.invokestatic 98, 3) := by decide +kernel
theorem dX7_count_189 : decode cX7_count 189 = .ok (.ireturn, 1) := by decide +kernel
theorem dX7_count_190 : decode cX7_count 190 = .ok (.aload_n 0, 1) := by decide +kernel
theorem dX7_count_191 : decode cX7_count 191 = .ok (.aload_n 0, 1) := by decide +kernel
theorem dX7_count_192 : decode cX7_count 192 = .ok (.invokevirtual 90, 3) := by decide +kernel
theorem dX7_count_195 : decode cX7_count 195 = .ok (.iconst 0, 1) := by decide +kernel
theorem dX7_count_196 : decode cX7_count 196 = .ok (.iconst (-1), 1) := by decide +kernel
theorem dX7_count_197 : decode cX7_count 197 = .ok (.invokevirtual 94, 3) := by decide +kernel
theorem dX7_count_200 : decode cX7_count 200 = .ok (.ireturn, 1) := by decide +kernel
theorem dX7_count_201 : decode cX7_count 201 = .ok (.aload_n 0, 1) := by decide +kernel
theorem dX7_count_202 : decode cX7_count 202 = .ok (.invokevirtual 123, 3) := by decide +kernel
theorem dX7_count_205 : decode cX7_count 205 = .ok (.invokestatic 98, 3) := by decide +kernel
theorem dX7_count_208 : decode cX7_count 208 = .ok (.ireturn, 1) := by decide +kernel
theorem dX7_count_209 : decode cX7_count 209 = .ok (.aload_n 0, 1) := by decide +kernel
theorem dX7_count_210 : decode cX7_count 210 = .ok (.getfield 55, 3) := by decide +kernel
theorem dX7_count_213 : decode cX7_count 213 = .ok (.ireturn, 1) := by decide +kernel
theorem dX7_count_214 : decode cX7_count 214 = .ok (.iload_n 2, 1) := by decide +kernel
theorem dX7_count_215 : decode cX7_count 215 = .ok (.ireturn, 1) := by decide +kernel
theorem dX7_foundAt_0 : decode cX7_foundAt 0 = .ok (.iload_n 1, 1) := by decide +kernel
theorem dX7_foundAt_1 : decode cX7_foundAt 1 = .ok (.iconst (-1), 1) := by decide +kernel
theorem dX7_foundAt_2 : decode cX7_foundAt 2 = .ok (.if_icmp .ne 10, 3) := by decide +kernel
theorem dX7_foundAt_5 : decode cX7_foundAt 5 = .ok (.aload_n 0, 1) := by decide +kernel
theorem dX7_foundAt_6 : decode cX7_foundAt 6 = .ok (.getfield 171, 3) := by decide +kernel
theorem dX7_foundAt_9 : decode cX7_foundAt 9 = .ok (.goto 30, 3) := by decide +kernel
theorem dX7_foundAt_12 : decode cX7_foundAt 12 = .ok (.iload_n 1, 1) := by decide +kernel
theorem dX7_foundAt_13 : decode cX7_foundAt 13 = .ok (.i2l, 1) := by decide +kernel
theorem dX7_foundAt_14 : decode cX7_foundAt 14 = .ok (.lconst 0, 1) := by decide +kernel
theorem dX7_foundAt_15 : decode cX7_foundAt 15 = .ok (.aload_n 0, 1) := by decide +kernel
theorem dX7_foundAt_16 : decode cX7_foundAt 16 = .ok (.getfield 171, 3) := by decide +kernel
theorem dX7_foundAt_19 : decode cX7_foundAt 19 = .ok (.iconst 1, 1) := by decide +kernel
theorem dX7_foundAt_20 : decode cX7_foundAt 20 = .ok (.isub, 1) := by decide +kernel
theorem dX7_foundAt_21 : decode cX7_foundAt 21 = .ok (.i2l, 1) := by decide +kernel
theorem dX7_foundAt_22 : decode cX7_foundAt 22 = .ok (.invokestatic 46, 3) := by decide +kernel
theorem dX7_foundAt_25 : decode cX7_foundAt 25 = .ok (.ifCond .eq 12, 3) := by decide +kernel
theorem dX7_foundAt_28 : decode cX7_foundAt 28 = .ok (.aload_n 0, 1) := by decide +kernel
theorem dX7_foundAt_29 : decode cX7_foundAt 29 = .ok (.getfield 43, 3) := by decide +kernel
theorem dX7_foundAt_32 : decode cX7_foundAt 32 = .ok (.iload_n 1, 1) := by decide +kernel
theorem dX7_foundAt_33 : decode cX7_foundAt 33 = .ok (.iaload, 1) := by decide +kernel
theorem dX7_foundAt_34 : decode cX7_foundAt 34 = .ok (.goto 5, 3) := by decide +kernel
theorem dX7_foundAt_37 : decode cX7_foundAt 37 = .ok (.bipush (-102), 2) := by decide +kernel
theorem dX7_foundAt_39 : decode cX7_foundAt 39 = .ok (.ireturn, 1) := by decide +kernel
theorem dX7_lying_0 : decode cX7_lying 0 = .ok (.aload_n 0, 1) := by decide +kernel
theorem dX7_lying_1 : decode cX7_lying 1 = .ok (.invokevirtual 90, 3) := by decide +kernel
theorem dX7_lying_4 : decode cX7_lying 4 = .ok (.istore_n 2, 1) := by decide +kernel
theorem dX7_lying_5 : decode cX7_lying 5 = .ok (.aload_n 0, 1) := by decide +kernel
theorem dX7_lying_6 : decode cX7_lying 6 = .ok (.iconst 0, 1) := by decide +kernel
theorem dX7_lying_7 : decode cX7_lying 7 = .ok (.putfield 171, 3) := by decide +kernel
theorem dX7_lying_10 : decode cX7_lying 10 = .ok (.iconst 0, 1) := by decide +kernel
theorem dX7_lying_11 : decode cX7_lying 11 = .ok (.istore_n 3, 1) := by decide +kernel
theorem dX7_lying_12 : decode cX7_lying 12 = .ok (.iload_n 3, 1) := by decide +kernel
theorem dX7_lying_13 : decode cX7_lying 13 = .ok (.bipush 10, 2) := by decide +kernel
theorem dX7_lying_15 : decode cX7_lying 15 = .ok (.if_icmp .gt 88, 3) := by decide +kernel
theorem dX7_lying_18 : decode cX7_lying 18 = .ok (.aload_n 0, 1) := by decide +kernel
theorem dX7_lying_19 : decode cX7_lying 19 = .ok (.getfield 171, 3) := by decide +kernel
theorem dX7_lying_22 : decode cX7_lying 22 = .ok (.ifCond .ne 81, 3) := by decide +kernel
theorem dX7_lying_25 : decode cX7_lying 25 = .ok (.iconst 0, 1) := by decide +kernel
theorem dX7_lying_26 : decode cX7_lying 26 = .ok (.istore 4, 2) := by decide +kernel
theorem dX7_lying_28 : decode cX7_lying 28 = .ok (.iload 4, 2) := by decide +kernel
theorem dX7_lying_30 : decode cX7_lying 30 = .ok (.iconst 1, 1) := by decide +kernel
theorem dX7_lying_31 : decode cX7_lying 31 = .ok (.aload_n 0, 1) := by decide +kernel
theorem dX7_lying_32 : decode cX7_lying 32 = .ok (.getfield 52, 3) := by decide +kernel
theorem dX7_lying_35 : decode cX7_lying 35 = .ok (.ishl, 1) := by decide +kernel
theorem dX7_lying_36 : decode cX7_lying 36 = .ok (.if_icmp .ge 61, 3) := by decide +kernel
theorem dX7_lying_39 : decode cX7_lying 39 = .ok (.iload 4, 2) := by decide +kernel
theorem dX7_lying_41 : decode cX7_lying 41 = .ok (.iload_n 2, 1) := by decide +kernel
theorem dX7_lying_42 : decode cX7_lying 42 = .ok (.iconst (-1), 1) := by decide +kernel
theorem dX7_lying_43 : decode cX7_lying 43 = .ok (.ixor, 1) := by decide +kernel
theorem dX7_lying_44 : decode cX7_lying 44 = .ok (.iand, 1) := by decide +kernel
theorem dX7_lying_45 : decode cX7_lying 45 = .ok (.ifCond .ne 46, 3) := by decide +kernel
theorem dX7_lying_48 : decode cX7_lying 48 = .ok (.iload 4, 2) := by decide +kernel
theorem dX7_lying_50 : decode cX7_lying 50 = .ok (.invokestatic 98, 3) := by decide +kernel
theorem dX7_lying_53 : decode cX7_lying 53 = .ok (.iload_n 3, 1) := by decide +kernel
theorem dX7_lying_54 : decode cX7_lying 54 = .ok (.if_icmp .ne 37, 3) := by decide +kernel
theorem dX7_lying_57 : decode cX7_lying 57 = .ok (.aload_n 0, 1) := by decide +kernel
theorem dX7_lying_58 : decode cX7_lying 58 = .ok (.iload_n 2, 1) := by decide +kernel
theorem dX7_lying_59 : decode cX7_lying 59 = .ok (.iload 4, 2) := by decide +kernel
theorem dX7_lying_61 : decode cX7_lying 61 = .ok (.iconst (-1), 1) := by decide +kernel
theorem dX7_lying_62 : decode cX7_lying 62 = .ok (.ixor, 1) := by decide +kernel
theorem dX7_lying_63 : decode cX7_lying 63 = .ok (.iand, 1) := by decide +kernel
theorem dX7_lying_64 : decode cX7_lying 64 = .ok (.invokevirtual 108, 3) := by decide +kernel
theorem dX7_lying_67 : decode cX7_lying 67 = .ok (.ifCond .eq 24, 3) := by decide +kernel
theorem dX7_lying_70 : decode cX7_lying 70 = .ok (.aload_n 0, 1) := by decide +kernel
theorem dX7_lying_71 : decode cX7_lying 71 = .ok (.getfield 43, 3) := by decide +kernel
theorem dX7_lying_74 : decode cX7_lying 74 = .ok (.aload_n 0, 1) := by decide +kernel
theorem dX7_lying_75 : decode cX7_lying 75 = .ok (.getfield 171, 3) := by decide +kernel
theorem dX7_lying_78 : decode cX7_lying 78 = .ok (.iload 4, 2) := by decide +kernel
theorem dX7_lying_80 : decode cX7_lying 80 = .ok (.iastore, 1) := by decide +kernel
theorem dX7_lying_81 : decode cX7_lying 81 = .ok (.aload_n 0, 1) := by decide +kernel
theorem dX7_lying_82 : decode cX7_lying 82 = .ok (.dup, 1) := by decide +kernel
theorem dX7_lying_83 : decode cX7_lying 83 = .ok (.getfield 171, 3) := by decide +kernel
theorem dX7_lying_86 : decode cX7_lying 86 = .ok (.iconst 1, 1) := by decide +kernel
theorem dX7_lying_87 : decode cX7_lying 87 = .ok (.iadd, 1) := by decide +kernel
theorem dX7_lying_88 : decode cX7_lying 88 = .ok (.putfield 171, 3) := by decide +kernel
theorem dX7_lying_91 : decode cX7_lying 91 = .ok (.iinc 4 1, 3) := by decide +kernel
theorem dX7_lying_94 : decode cX7_lying 94 = .ok (.goto (-66), 3) := by decide +kernel
theorem dX7_lying_97 : decode cX7_lying 97 = .ok (.iinc 3 1, 3) := by decide +kernel
theorem dX7_lying_100 : decode cX7_lying 100 = .ok (.goto (-88), 3) := by decide +kernel
theorem dX7_lying_103 : decode cX7_lying 103 = .ok (.aload_n 0, 1) := by decide +kernel
theorem dX7_lying_104 : decode cX7_lying 104 = .ok (.iload_n 1, 1) := by decide +kernel
theorem dX7_lying_105 : decode cX7_lying 105 = .ok (.invokevirtual 174, 3) := by decide +kernel
theorem dX7_lying_108 : decode cX7_lying 108 = .ok (.ireturn, 1) := by decide +kernel
theorem dX7_offer_0 : decode cX7_offer 0 = .ok (.aload_n 0, 1) := by decide +kernel
theorem dX7_offer_1 : decode cX7_offer 1 = .ok (.iload_n 1, 1) := by decide +kernel
theorem dX7_offer_2 : decode cX7_offer 2 = .ok (.iconst 1, 1) := by decide +kernel
theorem dX7_offer_3 : decode cX7_offer 3 = .ok (.invokevirtual 58, 3) := by decide +kernel
theorem dX7_offer_6 : decode cX7_offer 6 = .ok (.ifCond .eq 6, 3) := by decide +kernel
theorem dX7_offer_9 : decode cX7_offer 9 = .ok (.bipush (-102), 2) := by decide +kernel
theorem dX7_offer_11 : decode cX7_offer 11 = .ok (.ireturn, 1) := by decide +kernel
theorem dX7_offer_12 : decode cX7_offer 12 = .ok (.aload_n 0, 1) := by decide +kernel
theorem dX7_offer_13 : decode cX7_offer 13 = .ok (.getfield 55, 3) := by decide +kernel
theorem dX7_offer_16 : decode cX7_offer 16 = .ok (.bipush 10, 2) := by decide +kernel
theorem dX7_offer_18 : decode cX7_offer 18 = .ok (.if_icmp .ne 6, 3) := by decide +kernel
theorem dX7_offer_21 : decode cX7_offer 21 = .ok (.bipush (-104), 2) := by decide +kernel
theorem dX7_offer_23 : decode cX7_offer 23 = .ok (.ireturn, 1) := by decide +kernel
theorem dX7_offer_24 : decode cX7_offer 24 = .ok (.aload_n 0, 1) := by decide +kernel
theorem dX7_offer_25 : decode cX7_offer 25 = .ok (.getfield 27, 3) := by decide +kernel
theorem dX7_offer_28 : decode cX7_offer 28 = .ok (.aload_n 0, 1) := by decide +kernel
theorem dX7_offer_29 : decode cX7_offer 29 = .ok (.getfield 55, 3) := by decide +kernel
theorem dX7_offer_32 : decode cX7_offer 32 = .ok (.iload_n 1, 1) := by decide +kernel
theorem dX7_offer_33 : decode cX7_offer 33 = .ok (.iastore, 1) := by decide +kernel
theorem dX7_offer_34 : decode cX7_offer 34 = .ok (.aload_n 0, 1) := by decide +kernel
theorem dX7_offer_35 : decode cX7_offer 35 = .ok (.dup, 1) := by decide +kernel
theorem dX7_offer_36 : decode cX7_offer 36 = .ok (.getfield 55, 3) := by decide +kernel
theorem dX7_offer_39 : decode cX7_offer 39 = .ok (.iconst 1, 1) := by decide +kernel
theorem dX7_offer_40 : decode cX7_offer 40 = .ok (.iadd, 1) := by decide +kernel
theorem dX7_offer_41 : decode cX7_offer 41 = .ok (.putfield 55, 3) := by decide +kernel
theorem dX7_offer_44 : decode cX7_offer 44 = .ok (.aload_n 0, 1) := by decide +kernel
theorem dX7_offer_45 : decode cX7_offer 45 = .ok (.getfield 55, 3) := by decide +kernel
theorem dX7_offer_48 : decode cX7_offer 48 = .ok (.iconst 1, 1) := by decide +kernel
theorem dX7_offer_49 : decode cX7_offer 49 = .ok (.isub, 1) := by decide +kernel
theorem dX7_offer_50 : decode cX7_offer 50 = .ok (.ireturn, 1) := by decide +kernel
theorem dX7_offered_0 : decode cX7_offered 0 = .ok (.iload_n 1, 1) := by decide +kernel
theorem dX7_offered_1 : decode cX7_offered 1 = .ok (.i2l, 1) := by decide +kernel
theorem dX7_offered_2 : decode cX7_offered 2 = .ok (.lconst 0, 1) := by decide +kernel
theorem dX7_offered_3 : decode cX7_offered 3 = .ok (.aload_n 0, 1) := by decide +kernel
theorem dX7_offered_4 : decode cX7_offered 4 = .ok (.getfield 55, 3) := by decide +kernel
theorem dX7_offered_7 : decode cX7_offered 7 = .ok (.iconst 1, 1) := by decide +kernel
theorem dX7_offered_8 : decode cX7_offered 8 = .ok (.isub, 1) := by decide +kernel
theorem dX7_offered_9 : decode cX7_offered 9 = .ok (.i2l, 1) := by decide +kernel
theorem dX7_offered_10 : decode cX7_offered 10 = .ok (.invokestatic 46, 3) := by decide +kernel
theorem dX7_offered_13 : decode cX7_offered 13 = .ok (.ifCond .ne 6, 3) := by decide +kernel
theorem dX7_offered_16 : decode cX7_offered 16 = .ok (.bipush (-101), 2) := by decide +kernel
theorem dX7_offered_18 : decode cX7_offered 18 = .ok (.ireturn, 1) := by decide +kernel
theorem dX7_offered_19 : decode cX7_offered 19 = .ok (.aload_n 0, 1) := by decide +kernel
theorem dX7_offered_20 : decode cX7_offered 20 = .ok (.iload_n 2, 1) := by decide +kernel
theorem dX7_offered_21 : decode cX7_offered 21 = .ok (.iconst 1, 1) := by decide +kernel
theorem dX7_offered_22 : decode cX7_offered 22 = .ok (.invokevirtual 58, 3) := by decide +kernel
theorem dX7_offered_25 : decode cX7_offered 25 = .ok (.ifCond .eq 6, 3) := by decide +kernel
theorem dX7_offered_28 : decode cX7_offered 28 = .ok (.bipush (-102), 2) := by decide +kernel
theorem dX7_offered_30 : decode cX7_offered 30 = .ok (.ireturn, 1) := by decide +kernel
theorem dX7_offered_31 : decode cX7_offered 31 = .ok (.aload_n 0, 1) := by decide +kernel
theorem dX7_offered_32 : decode cX7_offered 32 = .ok (.getfield 27, 3) := by decide +kernel
theorem dX7_offered_35 : decode cX7_offered 35 = .ok (.iload_n 1, 1) := by decide +kernel
theorem dX7_offered_36 : decode cX7_offered 36 = .ok (.iaload, 1) := by decide +kernel
theorem dX7_offered_37 : decode cX7_offered 37 = .ok (.istore_n 3, 1) := by decide +kernel
theorem dX7_offered_38 : decode cX7_offered 38 = .ok (.aload_n 0, 1) := by decide +kernel
theorem dX7_offered_39 : decode cX7_offered 39 = .ok (.getfield 27, 3) := by decide +kernel
theorem dX7_offered_42 : decode cX7_offered 42 = .ok (.iload_n 1, 1) := by decide +kernel
theorem dX7_offered_43 : decode cX7_offered 43 = .ok (.iload_n 2, 1) := by decide +kernel
theorem dX7_offered_44 : decode cX7_offered 44 = .ok (.iastore, 1) := by decide +kernel
theorem dX7_offered_45 : decode cX7_offered 45 = .ok (.iload_n 3, 1) := by decide +kernel
theorem dX7_offered_46 : decode cX7_offered 46 = .ok (.ireturn, 1) := by decide +kernel
theorem dX7_advises_0 : decode cX7_advises 0 = .ok (.iconst 1, 1) := by decide +kernel
theorem dX7_advises_1 : decode cX7_advises 1 = .ok (.istore_n 3, 1) := by decide +kernel
theorem dX7_advises_2 : decode cX7_advises 2 = .ok (.iconst 0, 1) := by decide +kernel
theorem dX7_advises_3 : decode cX7_advises 3 = .ok (.istore 4, 2) := by decide +kernel
theorem dX7_advises_5 : decode cX7_advises 5 = .ok (.iload 4, 2) := by decide +kernel
theorem dX7_advises_7 : decode cX7_advises 7 = .ok (.aload_n 0, 1) := by decide +kernel
theorem dX7_advises_8 : decode cX7_advises 8 = .ok (.getfield 7, 3) := by decide +kernel
theorem dX7_advises_11 : decode cX7_advises 11 = .ok (.if_icmp .ge 38, 3) := by decide +kernel
theorem dX7_advises_14 : decode cX7_advises 14 = .ok (.iload_n 3, 1) := by decide +kernel
theorem dX7_advises_15 : decode cX7_advises 15 = .ok (.ifCond .eq 34, 3) := by decide +kernel
theorem dX7_advises_18 : decode cX7_advises 18 = .ok (.iload_n 2, 1) := by decide +kernel
theorem dX7_advises_19 : decode cX7_advises 19 = .ok (.iload 4, 2) := by decide +kernel
theorem dX7_advises_21 : decode cX7_advises 21 = .ok (.ishr, 1) := by decide +kernel
theorem dX7_advises_22 : decode cX7_advises 22 = .ok (.iconst 1, 1) := by decide +kernel
theorem dX7_advises_23 : decode cX7_advises 23 = .ok (.iand, 1) := by decide +kernel
theorem dX7_advises_24 : decode cX7_advises 24 = .ok (.ifCond .eq 13, 3) := by decide +kernel
theorem dX7_advises_27 : decode cX7_advises 27 = .ok (.aload_n 0, 1) := by decide +kernel
theorem dX7_advises_28 : decode cX7_advises 28 = .ok (.iload 4, 2) := by decide +kernel
theorem dX7_advises_30 : decode cX7_advises 30 = .ok (.iload_n 1, 1) := by decide +kernel
theorem dX7_advises_31 : decode cX7_advises 31 = .ok (.invokevirtual 160, 3) := by decide +kernel
theorem dX7_advises_34 : decode cX7_advises 34 = .ok (.ifCond .eq 7, 3) := by decide +kernel
theorem dX7_advises_37 : decode cX7_advises 37 = .ok (.iconst 1, 1) := by decide +kernel
theorem dX7_advises_38 : decode cX7_advises 38 = .ok (.goto 4, 3) := by decide +kernel
theorem dX7_advises_41 : decode cX7_advises 41 = .ok (.iconst 0, 1) := by decide +kernel
theorem dX7_advises_42 : decode cX7_advises 42 = .ok (.istore_n 3, 1) := by decide +kernel
theorem dX7_advises_43 : decode cX7_advises 43 = .ok (.iinc 4 1, 3) := by decide +kernel
theorem dX7_advises_46 : decode cX7_advises 46 = .ok (.goto (-41), 3) := by decide +kernel
theorem dX7_advises_49 : decode cX7_advises 49 = .ok (.iload_n 3, 1) := by decide +kernel
theorem dX7_advises_50 : decode cX7_advises 50 = .ok (.ireturn, 1) := by decide +kernel
theorem dX7_advice_0 : decode cX7_advice 0 = .ok (.aload_n 0, 1) := by decide +kernel
theorem dX7_advice_1 : decode cX7_advice 1 = .ok (.iload_n 1, 1) := by decide +kernel
theorem dX7_advice_2 : decode cX7_advice 2 = .ok (.iconst 0, 1) := by decide +kernel
theorem dX7_advice_3 : decode cX7_advice 3 = .ok (.invokevirtual 58, 3) := by decide +kernel
theorem dX7_advice_6 : decode cX7_advice 6 = .ok (.ifCond .eq 6, 3) := by decide +kernel
theorem dX7_advice_9 : decode cX7_advice 9 = .ok (.bipush (-102), 2) := by decide +kernel
theorem dX7_advice_11 : decode cX7_advice 11 = .ok (.ireturn, 1) := by decide +kernel
theorem dX7_advice_12 : decode cX7_advice 12 = .ok (.iconst 0, 1) := by decide +kernel
theorem dX7_advice_13 : decode cX7_advice 13 = .ok (.istore_n 2, 1) := by decide +kernel
theorem dX7_advice_14 : decode cX7_advice 14 = .ok (.iload_n 2, 1) := by decide +kernel
theorem dX7_advice_15 : decode cX7_advice 15 = .ok (.aload_n 0, 1) := by decide +kernel
theorem dX7_advice_16 : decode cX7_advice 16 = .ok (.getfield 55, 3) := by decide +kernel
theorem dX7_advice_19 : decode cX7_advice 19 = .ok (.if_icmp .gt 46, 3) := by decide +kernel
theorem dX7_advice_22 : decode cX7_advice 22 = .ok (.iconst 0, 1) := by decide +kernel
theorem dX7_advice_23 : decode cX7_advice 23 = .ok (.istore_n 3, 1) := by decide +kernel
theorem dX7_advice_24 : decode cX7_advice 24 = .ok (.iload_n 3, 1) := by decide +kernel
theorem dX7_advice_25 : decode cX7_advice 25 = .ok (.iconst 1, 1) := by decide +kernel
theorem dX7_advice_26 : decode cX7_advice 26 = .ok (.aload_n 0, 1) := by decide +kernel
theorem dX7_advice_27 : decode cX7_advice 27 = .ok (.getfield 55, 3) := by decide +kernel
theorem dX7_advice_30 : decode cX7_advice 30 = .ok (.ishl, 1) := by decide +kernel
theorem dX7_advice_31 : decode cX7_advice 31 = .ok (.if_icmp .ge 28, 3) := by decide +kernel
theorem dX7_advice_34 : decode cX7_advice 34 = .ok (.iload_n 3, 1) := by decide +kernel
theorem dX7_advice_35 : decode cX7_advice 35 = .ok (.invokestatic 98, 3) := by decide +kernel
theorem dX7_advice_38 : decode cX7_advice 38 = .ok (.iload_n 2, 1) := by decide +kernel
theorem dX7_advice_39 : decode cX7_advice 39 = .ok (.if_icmp .ne 14, 3) := by decide +kernel
theorem dX7_advice_42 : decode cX7_advice 42 = .ok (.aload_n 0, 1) := by decide +kernel
theorem dX7_advice_43 : decode cX7_advice 43 = .ok (.iload_n 3, 1) := by decide +kernel
theorem dX7_advice_44 : decode cX7_advice 44 = .ok (.iload_n 1, 1) := by decide +kernel
theorem dX7_advice_45 : decode cX7_advice 45 = .ok (.invokevirtual 177, 3) := by decide +kernel
theorem dX7_advice_48 : decode cX7_advice 48 = .ok (.ifCond .eq 5, 3) := by decide +kernel
theorem dX7_advice_51 : decode cX7_advice 51 = .ok (.iload_n 3, 1) := by decide +kernel
theorem dX7_advice_52 : decode cX7_advice 52 = .ok (.ireturn, 1) := by decide +kernel
theorem dX7_advice_53 : decode cX7_advice 53 = .ok (.iinc 3 1, 3) := by decide +kernel
theorem dX7_advice_56 : decode cX7_advice 56 = .ok (.goto (-32), 3) := by decide +kernel
theorem dX7_advice_59 : decode cX7_advice 59 = .ok (.iinc 2 1, 3) := by decide +kernel
theorem dX7_advice_62 : decode cX7_advice 62 = .ok (.goto (-48), 3) := by decide +kernel
theorem dX7_advice_65 : decode cX7_advice 65 = .ok (.iconst (-1), 1) := by decide +kernel
theorem dX7_advice_66 : decode cX7_advice 66 = .ok (.ireturn, 1) := by decide +kernel
theorem dX7_explains_0 : decode cX7_explains 0 = .ok (.iconst 1, 1) := by decide +kernel
theorem dX7_explains_1 : decode cX7_explains 1 = .ok (.istore_n 2, 1) := by decide +kernel
theorem dX7_explains_2 : decode cX7_explains 2 = .ok (.iconst 0, 1) := by decide +kernel
theorem dX7_explains_3 : decode cX7_explains 3 = .ok (.istore_n 3, 1) := by decide +kernel
theorem dX7_explains_4 : decode cX7_explains 4 = .ok (.iload_n 3, 1) := by decide +kernel
theorem dX7_explains_5 : decode cX7_explains 5 = .ok (.aload_n 0, 1) := by decide +kernel
theorem dX7_explains_6 : decode cX7_explains 6 = .ok (.getfield 52, 3) := by decide +kernel
theorem dX7_explains_9 : decode cX7_explains 9 = .ok (.if_icmp .ge 53, 3) := by decide +kernel
theorem dX7_explains_12 : decode cX7_explains 12 = .ok (.iload_n 2, 1) := by decide +kernel
theorem dX7_explains_13 : decode cX7_explains 13 = .ok (.ifCond .eq 41, 3) := by decide +kernel
theorem dX7_explains_16 : decode cX7_explains 16 = .ok (.aload_n 0, 1) := by decide +kernel
theorem dX7_explains_17 : decode cX7_explains 17 = .ok (.getfield 20, 3) := by decide +kernel
theorem dX7_explains_20 : decode cX7_explains 20 = .ok (.iload_n 3, 1) := by decide +kernel
theorem dX7_explains_21 : decode cX7_explains 21 = .ok (.baload, 1) := by decide +kernel
theorem dX7_explains_22 : decode cX7_explains 22 = .ok (.ifCond .eq 28, 3) := by decide +kernel
theorem dX7_explains_25 : decode cX7_explains 25 = .ok (.aload_n 0, 1) := by decide +kernel
theorem dX7_explains_26 : decode cX7_explains 26 = .ok (.getfield 24, 3) := by decide +kernel
theorem dX7_explains_29 : decode cX7_explains 29 = .ok (.iload_n 3, 1) := by decide +kernel
theorem dX7_explains_30 : decode cX7_explains 30 = .ok (.baload, 1) := by decide +kernel
theorem dX7_explains_31 : decode cX7_explains 31 = .ok (.aload_n 0, 1) := by decide +kernel
theorem dX7_explains_32 : decode cX7_explains 32 = .ok (.getfield 13, 3) := by decide +kernel
theorem dX7_explains_35 : decode cX7_explains 35 = .ok (.iload_n 3, 1) := by decide +kernel
theorem dX7_explains_36 : decode cX7_explains 36 = .ok (.iaload, 1) := by decide +kernel
theorem dX7_explains_37 : decode cX7_explains 37 = .ok (.iload_n 1, 1) := by decide +kernel
theorem dX7_explains_38 : decode cX7_explains 38 = .ok (.iand, 1) := by decide +kernel
theorem dX7_explains_39 : decode cX7_explains 39 = .ok (.ifCond .eq 7, 3) := by decide +kernel
theorem dX7_explains_42 : decode cX7_explains 42 = .ok (.iconst 1, 1) := by decide +kernel
theorem dX7_explains_43 : decode cX7_explains 43 = .ok (.goto 4, 3) := by decide +kernel
theorem dX7_explains_46 : decode cX7_explains 46 = .ok (.iconst 0, 1) := by decide +kernel
theorem dX7_explains_47 : decode cX7_explains 47 = .ok (.if_icmp .ne 7, 3) := by decide +kernel
theorem dX7_explains_50 : decode cX7_explains 50 = .ok (.iconst 1, 1) := by decide +kernel
theorem dX7_explains_51 : decode cX7_explains 51 = .ok (.goto 4, 3) := by decide +kernel
theorem dX7_explains_54 : decode cX7_explains 54 = .ok (.iconst 0, 1) := by decide +kernel
theorem dX7_explains_55 : decode cX7_explains 55 = .ok (.istore_n 2, 1) := by decide +kernel
theorem dX7_explains_56 : decode cX7_explains 56 = .ok (.iinc 3 1, 3) := by decide +kernel
theorem dX7_explains_59 : decode cX7_explains 59 = .ok (.goto (-55), 3) := by decide +kernel
theorem dX7_explains_62 : decode cX7_explains 62 = .ok (.iload_n 2, 1) := by decide +kernel
theorem dX7_explains_63 : decode cX7_explains 63 = .ok (.ireturn, 1) := by decide +kernel
theorem dX7_sick_0 : decode cX7_sick 0 = .ok (.aload_n 0, 1) := by decide +kernel
theorem dX7_sick_1 : decode cX7_sick 1 = .ok (.iconst 0, 1) := by decide +kernel
theorem dX7_sick_2 : decode cX7_sick 2 = .ok (.putfield 171, 3) := by decide +kernel
theorem dX7_sick_5 : decode cX7_sick 5 = .ok (.iconst 0, 1) := by decide +kernel
theorem dX7_sick_6 : decode cX7_sick 6 = .ok (.istore_n 2, 1) := by decide +kernel
theorem dX7_sick_7 : decode cX7_sick 7 = .ok (.iload_n 2, 1) := by decide +kernel
theorem dX7_sick_8 : decode cX7_sick 8 = .ok (.aload_n 0, 1) := by decide +kernel
theorem dX7_sick_9 : decode cX7_sick 9 = .ok (.getfield 7, 3) := by decide +kernel
theorem dX7_sick_12 : decode cX7_sick 12 = .ok (.if_icmp .gt 70, 3) := by decide +kernel
theorem dX7_sick_15 : decode cX7_sick 15 = .ok (.aload_n 0, 1) := by decide +kernel
theorem dX7_sick_16 : decode cX7_sick 16 = .ok (.getfield 171, 3) := by decide +kernel
theorem dX7_sick_19 : decode cX7_sick 19 = .ok (.ifCond .ne 63, 3) := by decide +kernel
theorem dX7_sick_22 : decode cX7_sick 22 = .ok (.iconst 0, 1) := by decide +kernel
theorem dX7_sick_23 : decode cX7_sick 23 = .ok (.istore_n 3, 1) := by decide +kernel
theorem dX7_sick_24 : decode cX7_sick 24 = .ok (.iload_n 3, 1) := by decide +kernel
theorem dX7_sick_25 : decode cX7_sick 25 = .ok (.iconst 1, 1) := by decide +kernel
theorem dX7_sick_26 : decode cX7_sick 26 = .ok (.aload_n 0, 1) := by decide +kernel
theorem dX7_sick_27 : decode cX7_sick 27 = .ok (.getfield 7, 3) := by decide +kernel
theorem dX7_sick_30 : decode cX7_sick 30 = .ok (.ishl, 1) := by decide +kernel
theorem dX7_sick_31 : decode cX7_sick 31 = .ok (.if_icmp .ge 45, 3) := by decide +kernel
theorem dX7_sick_34 : decode cX7_sick 34 = .ok (.iload_n 3, 1) := by decide +kernel
theorem dX7_sick_35 : decode cX7_sick 35 = .ok (.invokestatic 98, 3) := by decide +kernel
theorem dX7_sick_38 : decode cX7_sick 38 = .ok (.iload_n 2, 1) := by decide +kernel
theorem dX7_sick_39 : decode cX7_sick 39 = .ok (.if_icmp .ne 31, 3) := by decide +kernel
theorem dX7_sick_42 : decode cX7_sick 42 = .ok (.aload_n 0, 1) := by decide +kernel
theorem dX7_sick_43 : decode cX7_sick 43 = .ok (.iload_n 3, 1) := by decide +kernel
theorem dX7_sick_44 : decode cX7_sick 44 = .ok (.invokevirtual 180, 3) := by decide +kernel
theorem dX7_sick_47 : decode cX7_sick 47 = .ok (.ifCond .eq 23, 3) := by decide +kernel
theorem dX7_sick_50 : decode cX7_sick 50 = .ok (.aload_n 0, 1) := by decide +kernel
theorem dX7_sick_51 : decode cX7_sick 51 = .ok (.getfield 43, 3) := by decide +kernel
theorem dX7_sick_54 : decode cX7_sick 54 = .ok (.aload_n 0, 1) := by decide +kernel
theorem dX7_sick_55 : decode cX7_sick 55 = .ok (.getfield 171, 3) := by decide +kernel
theorem dX7_sick_58 : decode cX7_sick 58 = .ok (.iload_n 3, 1) := by decide +kernel
theorem dX7_sick_59 : decode cX7_sick 59 = .ok (.iastore, 1) := by decide +kernel
theorem dX7_sick_60 : decode cX7_sick 60 = .ok (.aload_n 0, 1) := by decide +kernel
theorem dX7_sick_61 : decode cX7_sick 61 = .ok (.dup, 1) := by decide +kernel
theorem dX7_sick_62 : decode cX7_sick 62 = .ok (.getfield 171, 3) := by decide +kernel
theorem dX7_sick_65 : decode cX7_sick 65 = .ok (.iconst 1, 1) := by decide +kernel
theorem dX7_sick_66 : decode cX7_sick 66 = .ok (.iadd, 1) := by decide +kernel
theorem dX7_sick_67 : decode cX7_sick 67 = .ok (.putfield 171, 3) := by decide +kernel
theorem dX7_sick_70 : decode cX7_sick 70 = .ok (.iinc 3 1, 3) := by decide +kernel
theorem dX7_sick_73 : decode cX7_sick 73 = .ok (.goto (-49), 3) := by decide +kernel
theorem dX7_sick_76 : decode cX7_sick 76 = .ok (.iinc 2 1, 3) := by decide +kernel
theorem dX7_sick_79 : decode cX7_sick 79 = .ok (.goto (-72), 3) := by decide +kernel
theorem dX7_sick_82 : decode cX7_sick 82 = .ok (.aload_n 0, 1) := by decide +kernel
theorem dX7_sick_83 : decode cX7_sick 83 = .ok (.iload_n 1, 1) := by decide +kernel
theorem dX7_sick_84 : decode cX7_sick 84 = .ok (.invokevirtual 174, 3) := by decide +kernel
theorem dX7_sick_87 : decode cX7_sick 87 = .ok (.ireturn, 1) := by decide +kernel
theorem dX7_pair_0 : decode cX7_pair 0 = .ok (.iload_n 1, 1) := by decide +kernel
theorem dX7_pair_1 : decode cX7_pair 1 = .ok (.i2l, 1) := by decide +kernel
theorem dX7_pair_2 : decode cX7_pair 2 = .ok (.lconst 0, 1) := by decide +kernel
theorem dX7_pair_3 : decode cX7_pair 3 = .ok (.ldc2_w 183, 3) := by decide +kernel
theorem dX7_pair_6 : decode cX7_pair 6 = .ok (.invokestatic 46, 3) := by decide +kernel
theorem dX7_pair_9 : decode cX7_pair 9 = .ok (.ifCond .eq 47, 3) := by decide +kernel
theorem dX7_pair_12 : decode cX7_pair 12 = .ok (.iload_n 2, 1) := by decide +kernel
theorem dX7_pair_13 : decode cX7_pair 13 = .ok (.i2l, 1) := by decide +kernel
theorem dX7_pair_14 : decode cX7_pair 14 = .ok (.lconst 0, 1) := by decide +kernel
theorem dX7_pair_15 : decode cX7_pair 15 = .ok (.iload_n 1, 1) := by decide +kernel
theorem dX7_pair_16 : decode cX7_pair 16 = .ok (.i2l, 1) := by decide +kernel
theorem dX7_pair_17 : decode cX7_pair 17 = .ok (.invokestatic 46, 3) := by decide +kernel
theorem dX7_pair_20 : decode cX7_pair 20 = .ok (.ifCond .eq 36, 3) := by decide +kernel
theorem dX7_pair_23 : decode cX7_pair 23 = .ok (.iload_n 3, 1) := by decide +kernel
theorem dX7_pair_24 : decode cX7_pair 24 = .ok (.i2l, 1) := by decide +kernel
theorem dX7_pair_25 : decode cX7_pair 25 = .ok (.lconst 0, 1) := by decide +kernel
theorem dX7_pair_26 : decode cX7_pair 26 = .ok (.iload_n 1, 1) := by decide +kernel
theorem dX7_pair_27 : decode cX7_pair 27 = .ok (.i2l, 1) := by decide +kernel
theorem dX7_pair_28 : decode cX7_pair 28 = .ok (.invokestatic 46, 3) := by decide +kernel
theorem dX7_pair_31 : decode cX7_pair 31 = .ok (.ifCond .eq 25, 3) := by decide +kernel
theorem dX7_pair_34 : decode cX7_pair 34 = .ok (.iload 4, 2) := by decide +kernel
theorem dX7_pair_36 : decode cX7_pair 36 = .ok (.i2l, 1) := by decide +kernel
theorem dX7_pair_37 : decode cX7_pair 37 = .ok (.lconst 0, 1) := by decide +kernel
theorem dX7_pair_38 : decode cX7_pair 38 = .ok (.iload_n 2, 1) := by decide +kernel
theorem dX7_pair_39 : decode cX7_pair 39 = .ok (.i2l, 1) := by decide +kernel
theorem dX7_pair_40 : decode cX7_pair 40 = .ok (.invokestatic 46, 3) := by decide +kernel
theorem dX7_pair_43 : decode cX7_pair 43 = .ok (.ifCond .eq 13, 3) := by decide +kernel
theorem dX7_pair_46 : decode cX7_pair 46 = .ok (.iload 4, 2) := by decide +kernel
theorem dX7_pair_48 : decode cX7_pair 48 = .ok (.iload_n 3, 1) := by decide +kernel
theorem dX7_pair_49 : decode cX7_pair 49 = .ok (.if_icmp .gt 7, 3) := by decide +kernel
theorem dX7_pair_52 : decode cX7_pair 52 = .ok (.iconst 1, 1) := by decide +kernel
theorem dX7_pair_53 : decode cX7_pair 53 = .ok (.goto 4, 3) := by decide +kernel
theorem dX7_pair_56 : decode cX7_pair 56 = .ok (.iconst 0, 1) := by decide +kernel
theorem dX7_pair_57 : decode cX7_pair 57 = .ok (.istore 7, 2) := by decide +kernel
theorem dX7_pair_59 : decode cX7_pair 59 = .ok (.iload 7, 2) := by decide +kernel
theorem dX7_pair_61 : decode cX7_pair 61 = .ok (.ifCond .eq 27, 3) := by decide +kernel
theorem dX7_pair_64 : decode cX7_pair 64 = .ok (.iload 5, 2) := by decide +kernel
theorem dX7_pair_66 : decode cX7_pair 66 = .ok (.i2l, 1) := by decide +kernel
theorem dX7_pair_67 : decode cX7_pair 67 = .ok (.lconst 0, 1) := by decide +kernel
theorem dX7_pair_68 : decode cX7_pair 68 = .ok (.ldc2_w 185, 3) := by decide +kernel
theorem dX7_pair_71 : decode cX7_pair 71 = .ok (.invokestatic 46, 3) := by decide +kernel
theorem dX7_pair_74 : decode cX7_pair 74 = .ok (.ifCond .eq 14, 3) := by decide +kernel
theorem dX7_pair_77 : decode cX7_pair 77 = .ok (.iload 6, 2) := by decide +kernel
theorem dX7_pair_79 : decode cX7_pair 79 = .ok (.i2l, 1) := by decide +kernel
theorem dX7_pair_80 : decode cX7_pair 80 = .ok (.lconst 0, 1) := by decide +kernel
theorem dX7_pair_81 : decode cX7_pair 81 = .ok (.lconst 1, 1) := by decide +kernel
theorem dX7_pair_82 : decode cX7_pair 82 = .ok (.invokestatic 46, 3) := by decide +kernel
theorem dX7_pair_85 : decode cX7_pair 85 = .ok (.ifCond .ne 7, 3) := by decide +kernel
theorem dX7_pair_88 : decode cX7_pair 88 = .ok (.ldc2_w 136, 3) := by decide +kernel
theorem dX7_pair_91 : decode cX7_pair 91 = .ok (.lreturn, 1) := by decide +kernel
theorem dX7_pair_92 : decode cX7_pair 92 = .ok (.iload 4, 2) := by decide +kernel
theorem dX7_pair_94 : decode cX7_pair 94 = .ok (.ifCond .ne 7, 3) := by decide +kernel
theorem dX7_pair_97 : decode cX7_pair 97 = .ok (.ldc2_w 138, 3) := by decide +kernel
theorem dX7_pair_100 : decode cX7_pair 100 = .ok (.lreturn, 1) := by decide +kernel
theorem dX7_pair_101 : decode cX7_pair 101 = .ok (.iload 5, 2) := by decide +kernel
theorem dX7_pair_103 : decode cX7_pair 103 = .ok (.ifCond .ne 22, 3) := by decide +kernel
theorem dX7_pair_106 : decode cX7_pair 106 = .ok (.iload_n 2, 1) := by decide +kernel
theorem dX7_pair_107 : decode cX7_pair 107 = .ok (.i2l, 1) := by decide +kernel
theorem dX7_pair_108 : decode cX7_pair 108 = .ok (.iload_n 3, 1) := by decide +kernel
theorem dX7_pair_109 : decode cX7_pair 109 = .ok (.i2l, 1) := by decide +kernel
theorem dX7_pair_110 : decode cX7_pair 110 = .ok (.lmul, 1) := by decide +kernel
theorem dX7_pair_111 : decode cX7_pair 111 = .ok (.iload_n 1, 1) := by decide +kernel
theorem dX7_pair_112 : decode cX7_pair 112 = .ok (.i2l, 1) := by decide +kernel
theorem dX7_pair_113 : decode cX7_pair 113 = .ok (.iload 4, 2) := by decide +kernel
theorem dX7_pair_115 : decode cX7_pair 115 = .ok (.i2l, 1) := by decide +kernel
theorem dX7_pair_116 : decode cX7_pair 116 = .ok (.lmul, 1) := by decide +kernel
theorem dX7_pair_117 : decode cX7_pair 117 = .ok (.iload 6, 2) := by decide +kernel
theorem dX7_pair_119 : decode cX7_pair 119 = .ok (.invokestatic 148, 3) := by decide +kernel
theorem dX7_pair_122 : decode cX7_pair 122 = .ok (.goto 24, 3) := by decide +kernel
theorem dX7_pair_125 : decode cX7_pair 125 = .ok (.iload 4, 2) := by decide +kernel
theorem dX7_pair_127 : decode cX7_pair 127 = .ok (.i2l, 1) := by decide +kernel
theorem dX7_pair_128 : decode cX7_pair 128 = .ok (.iload 5, 2) := by decide +kernel
theorem dX7_pair_130 : decode cX7_pair 130 = .ok (.iconst 1, 1) := by decide +kernel
theorem dX7_pair_131 : decode cX7_pair 131 = .ok (.if_icmp .ne 8, 3) := by decide +kernel
theorem dX7_pair_134 : decode cX7_pair 134 = .ok (.iload_n 3, 1) := by decide +kernel
theorem dX7_pair_135 : decode cX7_pair 135 = .ok (.i2l, 1) := by decide +kernel
theorem dX7_pair_136 : decode cX7_pair 136 = .ok (.goto 5, 3) := by decide +kernel
theorem dX7_pair_139 : decode cX7_pair 139 = .ok (.iload_n 2, 1) := by decide +kernel
theorem dX7_pair_140 : decode cX7_pair 140 = .ok (.i2l, 1) := by decide +kernel
theorem dX7_pair_141 : decode cX7_pair 141 = .ok (.iload 6, 2) := by decide +kernel
theorem dX7_pair_143 : decode cX7_pair 143 = .ok (.invokestatic 148, 3) := by decide +kernel
theorem dX7_pair_146 : decode cX7_pair 146 = .ok (.lreturn, 1) := by decide +kernel
