theorem dJ6_bitCount_0f7a4_0 : decode cJ6_bitCount_0f7a4 0 = .ok (.iload_n 0, 1) := by decide +kernel
theorem dJ6_bitCount_0f7a4_1 : decode cJ6_bitCount_0f7a4 1 = .ok (.iload_n 0, 1) := by decide +kernel
theorem dJ6_bitCount_0f7a4_2 : decode cJ6_bitCount_0f7a4 2 = .ok (.iconst 1, 1) := by decide +kernel
theorem dJ6_bitCount_0f7a4_3 : decode cJ6_bitCount_0f7a4 3 = .ok (.iushr, 1) := by decide +kernel
theorem dJ6_bitCount_0f7a4_4 : decode cJ6_bitCount_0f7a4 4 = .ok (.ldc_w 265, 3) := by decide +kernel
theorem dJ6_bitCount_0f7a4_7 : decode cJ6_bitCount_0f7a4 7 = .ok (.iand, 1) := by decide +kernel
theorem dJ6_bitCount_0f7a4_8 : decode cJ6_bitCount_0f7a4 8 = .ok (.isub, 1) := by decide +kernel
theorem dJ6_bitCount_0f7a4_9 : decode cJ6_bitCount_0f7a4 9 = .ok (.istore_n 0, 1) := by decide +kernel
theorem dJ6_bitCount_0f7a4_10 : decode cJ6_bitCount_0f7a4 10 = .ok (.iload_n 0, 1) := by decide +kernel
theorem dJ6_bitCount_0f7a4_11 : decode cJ6_bitCount_0f7a4 11 = .ok (.ldc_w 266, 3) := by decide +kernel
theorem dJ6_bitCount_0f7a4_14 : decode cJ6_bitCount_0f7a4 14 = .ok (.iand, 1) := by decide +kernel
theorem dJ6_bitCount_0f7a4_15 : decode cJ6_bitCount_0f7a4 15 = .ok (.iload_n 0, 1) := by decide +kernel
theorem dJ6_bitCount_0f7a4_16 : decode cJ6_bitCount_0f7a4 16 = .ok (.iconst 2, 1) := by decide +kernel
theorem dJ6_bitCount_0f7a4_17 : decode cJ6_bitCount_0f7a4 17 = .ok (.iushr, 1) := by decide +kernel
theorem dJ6_bitCount_0f7a4_18 : decode cJ6_bitCount_0f7a4 18 = .ok (.ldc_w 266, 3) := by decide +kernel
theorem dJ6_bitCount_0f7a4_21 : decode cJ6_bitCount_0f7a4 21 = .ok (.iand, 1) := by decide +kernel
theorem dJ6_bitCount_0f7a4_22 : decode cJ6_bitCount_0f7a4 22 = .ok (.iadd, 1) := by decide +kernel
theorem dJ6_bitCount_0f7a4_23 : decode cJ6_bitCount_0f7a4 23 = .ok (.istore_n 0, 1) := by decide +kernel
theorem dJ6_bitCount_0f7a4_24 : decode cJ6_bitCount_0f7a4 24 = .ok (.iload_n 0, 1) := by decide +kernel
theorem dJ6_bitCount_0f7a4_25 : decode cJ6_bitCount_0f7a4 25 = .ok (.iload_n 0, 1) := by decide +kernel
theorem dJ6_bitCount_0f7a4_26 : decode cJ6_bitCount_0f7a4 26 = .ok (.iconst 4, 1) := by decide +kernel
theorem dJ6_bitCount_0f7a4_27 : decode cJ6_bitCount_0f7a4 27 = .ok (.iushr, 1) := by decide +kernel
theorem dJ6_bitCount_0f7a4_28 : decode cJ6_bitCount_0f7a4 28 = .ok (.iadd, 1) := by decide +kernel
theorem dJ6_bitCount_0f7a4_29 : decode cJ6_bitCount_0f7a4 29 = .ok (.ldc_w 267, 3) := by decide +kernel
theorem dJ6_bitCount_0f7a4_32 : decode cJ6_bitCount_0f7a4 32 = .ok (.iand, 1) := by decide +kernel
theorem dJ6_bitCount_0f7a4_33 : decode cJ6_bitCount_0f7a4 33 = .ok (.istore_n 0, 1) := by decide +kernel
theorem dJ6_bitCount_0f7a4_34 : decode cJ6_bitCount_0f7a4 34 = .ok (.iload_n 0, 1) := by decide +kernel
theorem dJ6_bitCount_0f7a4_35 : decode cJ6_bitCount_0f7a4 35 = .ok (.iload_n 0, 1) := by decide +kernel
theorem dJ6_bitCount_0f7a4_36 : decode cJ6_bitCount_0f7a4 36 = .ok (.bipush 8, 2) := by decide +kernel
theorem dJ6_bitCount_0f7a4_38 : decode cJ6_bitCount_0f7a4 38 = .ok (.iushr, 1) := by decide +kernel
theorem dJ6_bitCount_0f7a4_39 : decode cJ6_bitCount_0f7a4 39 = .ok (.iadd, 1) := by decide +kernel
theorem dJ6_bitCount_0f7a4_40 : decode cJ6_bitCount_0f7a4 40 = .ok (.istore_n 0, 1) := by decide +kernel
theorem dJ6_bitCount_0f7a4_41 : decode cJ6_bitCount_0f7a4 41 = .ok (.iload_n 0, 1) := by decide +kernel
theorem dJ6_bitCount_0f7a4_42 : decode cJ6_bitCount_0f7a4 42 = .ok (.iload_n 0, 1) := by decide +kernel
theorem dJ6_bitCount_0f7a4_43 : decode cJ6_bitCount_0f7a4 43 = .ok (.bipush 16, 2) := by decide +kernel
theorem dJ6_bitCount_0f7a4_45 : decode cJ6_bitCount_0f7a4 45 = .ok (.iushr, 1) := by decide +kernel
theorem dJ6_bitCount_0f7a4_46 : decode cJ6_bitCount_0f7a4 46 = .ok (.iadd, 1) := by decide +kernel
theorem dJ6_bitCount_0f7a4_47 : decode cJ6_bitCount_0f7a4 47 = .ok (.istore_n 0, 1) := by decide +kernel
theorem dJ6_bitCount_0f7a4_48 : decode cJ6_bitCount_0f7a4 48 = .ok (.iload_n 0, 1) := by decide +kernel
theorem dJ6_bitCount_0f7a4_49 : decode cJ6_bitCount_0f7a4 49 = .ok (.bipush 63, 2) := by decide +kernel
theorem dJ6_bitCount_0f7a4_51 : decode cJ6_bitCount_0f7a4 51 = .ok (.iand, 1) := by decide +kernel
theorem dJ6_bitCount_0f7a4_52 : decode cJ6_bitCount_0f7a4 52 = .ok (.ireturn, 1) := by decide +kernel
theorem dJ7_fill_d0a16_0 : decode cJ7_fill_d0a16 0 = .ok (.iconst 0, 1) := by decide +kernel
theorem dJ7_fill_d0a16_1 : decode cJ7_fill_d0a16 1 = .ok (.istore_n 3, 1) := by decide +kernel
theorem dJ7_fill_d0a16_2 : decode cJ7_fill_d0a16 2 = .ok (.aload_n 0, 1) := by decide +kernel
theorem dJ7_fill_d0a16_3 : decode cJ7_fill_d0a16 3 = .ok (.arraylength, 1) := by decide +kernel
theorem dJ7_fill_d0a16_4 : decode cJ7_fill_d0a16 4 = .ok (.istore 4, 2) := by decide +kernel
theorem dJ7_fill_d0a16_6 : decode cJ7_fill_d0a16 6 = .ok (.iload_n 3, 1) := by decide +kernel
theorem dJ7_fill_d0a16_7 : decode cJ7_fill_d0a16 7 = .ok (.iload 4, 2) := by decide +kernel
theorem dJ7_fill_d0a16_9 : decode cJ7_fill_d0a16 9 = .ok (.if_icmp .ge 13, 3) := by decide +kernel
theorem dJ7_fill_d0a16_12 : decode cJ7_fill_d0a16 12 = .ok (.aload_n 0, 1) := by decide +kernel
theorem dJ7_fill_d0a16_13 : decode cJ7_fill_d0a16 13 = .ok (.iload_n 3, 1) := by decide +kernel
theorem dJ7_fill_d0a16_14 : decode cJ7_fill_d0a16 14 = .ok (.lload_n 1, 1) := by decide +kernel
theorem dJ7_fill_d0a16_15 : decode cJ7_fill_d0a16 15 = .ok (.lastore, 1) := by decide +kernel
theorem dJ7_fill_d0a16_16 : decode cJ7_fill_d0a16 16 = .ok (.iinc 3 1, 3) := by decide +kernel
theorem dJ7_fill_d0a16_19 : decode cJ7_fill_d0a16 19 = .ok (.goto (-13), 3) := by decide +kernel
theorem dJ7_fill_d0a16_22 : decode cJ7_fill_d0a16 22 = .ok (.return_, 1) := by decide +kernel
theorem dJ7_fill_53178_0 : decode cJ7_fill_53178 0 = .ok (.iconst 0, 1) := by decide +kernel
theorem dJ7_fill_53178_1 : decode cJ7_fill_53178 1 = .ok (.istore_n 2, 1) := by decide +kernel
theorem dJ7_fill_53178_2 : decode cJ7_fill_53178 2 = .ok (.aload_n 0, 1) := by decide +kernel
theorem dJ7_fill_53178_3 : decode cJ7_fill_53178 3 = .ok (.arraylength, 1) := by decide +kernel
theorem dJ7_fill_53178_4 : decode cJ7_fill_53178 4 = .ok (.istore_n 3, 1) := by decide +kernel
theorem dJ7_fill_53178_5 : decode cJ7_fill_53178 5 = .ok (.iload_n 2, 1) := by decide +kernel
theorem dJ7_fill_53178_6 : decode cJ7_fill_53178 6 = .ok (.iload_n 3, 1) := by decide +kernel
theorem dJ7_fill_53178_7 : decode cJ7_fill_53178 7 = .ok (.if_icmp .ge 13, 3) := by decide +kernel
theorem dJ7_fill_53178_10 : decode cJ7_fill_53178 10 = .ok (.aload_n 0, 1) := by decide +kernel
theorem dJ7_fill_53178_11 : decode cJ7_fill_53178 11 = .ok (.iload_n 2, 1) := by decide +kernel
theorem dJ7_fill_53178_12 : decode cJ7_fill_53178 12 = .ok (.iload_n 1, 1) := by decide +kernel
theorem dJ7_fill_53178_13 : decode cJ7_fill_53178 13 = .ok (.iastore, 1) := by decide +kernel
theorem dJ7_fill_53178_14 : decode cJ7_fill_53178 14 = .ok (.iinc 2 1, 3) := by decide +kernel
theorem dJ7_fill_53178_17 : decode cJ7_fill_53178 17 = .ok (.goto (-12), 3) := by decide +kernel
theorem dJ7_fill_53178_20 : decode cJ7_fill_53178 20 = .ok (.return_, 1) := by decide +kernel
theorem dX1_init_0 : decode cX1_init 0 = .ok (.aload_n 0, 1) := by decide +kernel
theorem dX1_init_1 : decode cX1_init 1 = .ok (.invokespecial 1, 3) := by decide +kernel
theorem dX1_init_4 : decode cX1_init 4 = .ok (.aload_n 0, 1) := by decide +kernel
theorem dX1_init_5 : decode cX1_init 5 = .ok (.new 7, 3) := by decide +kernel
theorem dX1_init_8 : decode cX1_init 8 = .ok (.dup, 1) := by decide +kernel
theorem dX1_init_9 : decode cX1_init 9 = .ok (.invokespecial 9, 3) := by decide +kernel
theorem dX1_init_12 : decode cX1_init 12 = .ok (.putfield 10, 3) := by decide +kernel
theorem dX1_init_15 : decode cX1_init 15 = .ok (.aload_n 0, 1) := by decide +kernel
theorem dX1_init_16 : decode cX1_init 16 = .ok (.new 7, 3) := by decide +kernel
theorem dX1_init_19 : decode cX1_init 19 = .ok (.dup, 1) := by decide +kernel
theorem dX1_init_20 : decode cX1_init 20 = .ok (.invokespecial 9, 3) := by decide +kernel
theorem dX1_init_23 : decode cX1_init 23 = .ok (.putfield 16, 3) := by decide +kernel
theorem dX1_init_26 : decode cX1_init 26 = .ok (.return_, 1) := by decide +kernel
theorem dX1_forget_0 : decode cX1_forget 0 = .ok (.aload_n 0, 1) := by decide +kernel
theorem dX1_forget_1 : decode cX1_forget 1 = .ok (.iconst 0, 1) := by decide +kernel
theorem dX1_forget_2 : decode cX1_forget 2 = .ok (.putfield 19, 3) := by decide +kernel
theorem dX1_forget_5 : decode cX1_forget 5 = .ok (.return_, 1) := by decide +kernel
theorem dX1_leastSets_0 : decode cX1_leastSets 0 = .ok (.aload_n 0, 1) := by decide +kernel
theorem dX1_leastSets_1 : decode cX1_leastSets 1 = .ok (.getfield 19, 3) := by decide +kernel
theorem dX1_leastSets_4 : decode cX1_leastSets 4 = .ok (.ifCond .eq 8, 3) := by decide +kernel
theorem dX1_leastSets_7 : decode cX1_leastSets 7 = .ok (.aload_n 0, 1) := by decide +kernel
theorem dX1_leastSets_8 : decode cX1_leastSets 8 = .ok (.getfield 10, 3) := by decide +kernel
theorem dX1_leastSets_11 : decode cX1_leastSets 11 = .ok (.areturn, 1) := by decide +kernel
theorem dX1_leastSets_12 : decode cX1_leastSets 12 = .ok (.aload_n 0, 1) := by decide +kernel
theorem dX1_leastSets_13 : decode cX1_leastSets 13 = .ok (.getfield 10, 3) := by decide +kernel
theorem dX1_leastSets_16 : decode cX1_leastSets 16 = .ok (.invokevirtual 23, 3) := by decide +kernel
theorem dX1_leastSets_19 : decode cX1_leastSets 19 = .ok (.aload_n 0, 1) := by decide +kernel
theorem dX1_leastSets_20 : decode cX1_leastSets 20 = .ok (.getfield 16, 3) := by decide +kernel
theorem dX1_leastSets_23 : decode cX1_leastSets 23 = .ok (.invokevirtual 23, 3) := by decide +kernel
theorem dX1_leastSets_26 : decode cX1_leastSets 26 = .ok (.aload_n 1, 1) := by decide +kernel
theorem dX1_leastSets_27 : decode cX1_leastSets 27 = .ok (.getfield 26, 3) := by decide +kernel
theorem dX1_leastSets_30 : decode cX1_leastSets 30 = .ok (.invokestatic 32, 3) := by decide +kernel
theorem dX1_leastSets_33 : decode cX1_leastSets 33 = .ok (.istore_n 3, 1) := by decide +kernel
theorem dX1_leastSets_34 : decode cX1_leastSets 34 = .ok (.iconst 0, 1) := by decide +kernel
theorem dX1_leastSets_35 : decode cX1_leastSets 35 = .ok (.istore 4, 2) := by decide +kernel
theorem dX1_leastSets_37 : decode cX1_leastSets 37 = .ok (.iload 4, 2) := by decide +kernel
theorem dX1_leastSets_39 : decode cX1_leastSets 39 = .ok (.iload_n 3, 1) := by decide +kernel
theorem dX1_leastSets_40 : decode cX1_leastSets 40 = .ok (.if_icmp .gt 27, 3) := by decide +kernel
theorem dX1_leastSets_43 : decode cX1_leastSets 43 = .ok (.aload_n 0, 1) := by decide +kernel
theorem dX1_leastSets_44 : decode cX1_leastSets 44 = .ok (.getfield 10, 3) := by decide +kernel
theorem dX1_leastSets_47 : decode cX1_leastSets 47 = .ok (.getfield 38, 3) := by decide +kernel
theorem dX1_leastSets_50 : decode cX1_leastSets 50 = .ok (.ifCond .ne 17, 3) := by decide +kernel
theorem dX1_leastSets_53 : decode cX1_leastSets 53 = .ok (.aload_n 0, 1) := by decide +kernel
theorem dX1_leastSets_54 : decode cX1_leastSets 54 = .ok (.iload 4, 2) := by decide +kernel
theorem dX1_leastSets_56 : decode cX1_leastSets 56 = .ok (.aload_n 1, 1) := by decide +kernel
theorem dX1_leastSets_57 : decode cX1_leastSets 57 = .ok (.aload_n 2, 1) := by decide +kernel
theorem dX1_leastSets_58 : decode cX1_leastSets 58 = .ok (.invokevirtual 41, 3) := by decide +kernel
theorem dX1_leastSets_61 : decode cX1_leastSets 61 = .ok (.iinc 4 1, 3) := by decide +kernel
theorem dX1_leastSets_64 : decode cX1_leastSets 64 = .ok (.goto (-27), 3) := by decide +kernel
theorem dX1_leastSets_67 : decode cX1_leastSets 67 = .ok (.aload_n 0, 1) := by decide +kernel
theorem dX1_leastSets_68 : decode cX1_leastSets 68 = .ok (.iconst 1, 1) := by decide +kernel
theorem dX1_leastSets_69 : decode cX1_leastSets 69 = .ok (.putfield 19, 3) := by decide +kernel
theorem dX1_leastSets_72 : decode cX1_leastSets 72 = .ok (.aload_n 0, 1) := by decide +kernel
theorem dX1_leastSets_73 : decode cX1_leastSets 73 = .ok (.getfield 10, 3) := by decide +kernel
theorem dX1_leastSets_76 : decode cX1_leastSets 76 = .ok (.areturn, 1) := by decide +kernel
theorem dX1_findOfSize_0 : decode cX1_findOfSize 0 = .ok (.iconst 0, 1) := by decide +kernel
theorem dX1_findOfSize_1 : decode cX1_findOfSize 1 = .ok (.istore 4, 2) := by decide +kernel
theorem dX1_findOfSize_3 : decode cX1_findOfSize 3 = .ok (.iload 4, 2) := by decide +kernel
theorem dX1_findOfSize_5 : decode cX1_findOfSize 5 = .ok (.aload_n 2, 1) := by decide +kernel
theorem dX1_findOfSize_6 : decode cX1_findOfSize 6 = .ok (.getfield 26, 3) := by decide +kernel
theorem dX1_findOfSize_9 : decode cX1_findOfSize 9 = .ok (.if_icmp .gt 99, 3) := by decide +kernel
theorem dX1_findOfSize_12 : decode cX1_findOfSize 12 = .ok (.iload 4, 2) := by decide +kernel
theorem dX1_findOfSize_14 : decode cX1_findOfSize 14 = .ok (.aload_n 2, 1) := by decide +kernel
theorem dX1_findOfSize_15 : decode cX1_findOfSize 15 = .ok (.getfield 26, 3) := by decide +kernel
theorem dX1_findOfSize_18 : decode cX1_findOfSize 18 = .ok (.iconst (-1), 1) := by decide +kernel
theorem dX1_findOfSize_19 : decode cX1_findOfSize 19 = .ok (.ixor, 1) := by decide +kernel
theorem dX1_findOfSize_20 : decode cX1_findOfSize 20 = .ok (.iand, 1) := by decide +kernel
theorem dX1_findOfSize_21 : decode cX1_findOfSize 21 = .ok (.ifCond .ne 16, 3) := by decide +kernel
theorem dX1_findOfSize_24 : decode cX1_findOfSize 24 = .ok (.iload 4, 2) := by decide +kernel
theorem dX1_findOfSize_26 : decode cX1_findOfSize 26 = .ok (.invokestatic 32, 3) := by decide +kernel
theorem dX1_findOfSize_29 : decode cX1_findOfSize 29 = .ok (.iload_n 1, 1) := by decide +kernel
theorem dX1_findOfSize_30 : decode cX1_findOfSize 30 = .ok (.if_icmp .ne 7, 3) := by decide +kernel
theorem dX1_findOfSize_33 : decode cX1_findOfSize 33 = .ok (.iconst 1, 1) := by decide +kernel
theorem dX1_findOfSize_34 : decode cX1_findOfSize 34 = .ok (.goto 4, 3) := by decide +kernel
theorem dX1_findOfSize_37 : decode cX1_findOfSize 37 = .ok (.iconst 0, 1) := by decide +kernel
theorem dX1_findOfSize_38 : decode cX1_findOfSize 38 = .ok (.istore 5, 2) := by decide +kernel
theorem dX1_findOfSize_40 : decode cX1_findOfSize 40 = .ok (.iload 5, 2) := by decide +kernel
theorem dX1_findOfSize_42 : decode cX1_findOfSize 42 = .ok (.ifCond .eq 60, 3) := by decide +kernel
theorem dX1_findOfSize_45 : decode cX1_findOfSize 45 = .ok (.aload_n 0, 1) := by decide +kernel
theorem dX1_findOfSize_46 : decode cX1_findOfSize 46 = .ok (.iload 4, 2) := by decide +kernel
theorem dX1_findOfSize_48 : decode cX1_findOfSize 48 = .ok (.invokevirtual 45, 3) := by decide +kernel
theorem dX1_findOfSize_51 : decode cX1_findOfSize 51 = .ok (.ifCond .ne 6, 3) := by decide +kernel
theorem dX1_findOfSize_54 : decode cX1_findOfSize 54 = .ok (.goto 48, 3) := by decide +kernel
theorem dX1_findOfSize_57 : decode cX1_findOfSize 57 = .ok (.aload_n 3, 1) := by decide +kernel
theorem dX1_findOfSize_58 : decode cX1_findOfSize 58 = .ok (.aload_n 2, 1) := by decide +kernel
theorem dX1_findOfSize_59 : decode cX1_findOfSize 59 = .ok (.aload_n 2, 1) := by decide +kernel
theorem dX1_findOfSize_60 : decode cX1_findOfSize 60 = .ok (.getfield 26, 3) := by decide +kernel
theorem dX1_findOfSize_63 : decode cX1_findOfSize 63 = .ok (.iload 4, 2) := by decide +kernel
theorem dX1_findOfSize_65 : decode cX1_findOfSize 65 = .ok (.iconst (-1), 1) := by decide +kernel
theorem dX1_findOfSize_66 : decode cX1_findOfSize 66 = .ok (.ixor, 1) := by decide +kernel
theorem dX1_findOfSize_67 : decode cX1_findOfSize 67 = .ok (.iand, 1) := by decide +kernel
theorem dX1_findOfSize_68 : decode cX1_findOfSize 68 = .ok (.invokevirtual 49, 3) := by decide +kernel
theorem dX1_findOfSize_71 : decode cX1_findOfSize 71 = .ok (.ifCond .eq 15, 3) := by decide +kernel
theorem dX1_findOfSize_74 : decode cX1_findOfSize 74 = .ok (.aload_n 0, 1) := by decide +kernel
theorem dX1_findOfSize_75 : decode cX1_findOfSize 75 = .ok (.getfield 10, 3) := by decide +kernel
theorem dX1_findOfSize_78 : decode cX1_findOfSize 78 = .ok (.iload 4, 2) := by decide +kernel
theorem dX1_findOfSize_80 : decode cX1_findOfSize 80 = .ok (.invokevirtual 55, 3) := by decide +kernel
theorem dX1_findOfSize_83 : decode cX1_findOfSize 83 = .ok (.goto 19, 3) := by decide +kernel
theorem dX1_findOfSize_86 : decode cX1_findOfSize 86 = .ok (.aload_n 0, 1) := by decide +kernel
theorem dX1_findOfSize_87 : decode cX1_findOfSize 87 = .ok (.getfield 16, 3) := by decide +kernel
theorem dX1_findOfSize_90 : decode cX1_findOfSize 90 = .ok (.aload_n 3, 1) := by decide +kernel
theorem dX1_findOfSize_91 : decode cX1_findOfSize 91 = .ok (.getfield 59, 3) := by decide +kernel
theorem dX1_findOfSize_94 : decode cX1_findOfSize 94 = .ok (.aload_n 2, 1) := by decide +kernel
theorem dX1_findOfSize_95 : decode cX1_findOfSize 95 = .ok (.aload_n 3, 1) := by decide +kernel
theorem dX1_findOfSize_96 : decode cX1_findOfSize 96 = .ok (.invokestatic 62, 3) := by decide +kernel
theorem dX1_findOfSize_99 : decode cX1_findOfSize 99 = .ok (.invokevirtual 55, 3) := by decide +kernel
theorem dX1_findOfSize_102 : decode cX1_findOfSize 102 = .ok (.iinc 4 1, 3) := by decide +kernel
theorem dX1_findOfSize_105 : decode cX1_findOfSize 105 = .ok (.goto (-102), 3) := by decide +kernel
theorem dX1_findOfSize_108 : decode cX1_findOfSize 108 = .ok (.return_, 1) := by decide +kernel
theorem dX1_breaksAllClashes_0 : decode cX1_breaksAllClashes 0 = .ok (.iconst 0, 1) := by decide +kernel
theorem dX1_breaksAllClashes_1 : decode cX1_breaksAllClashes 1 = .ok (.istore_n 2, 1) := by decide +kernel
theorem dX1_breaksAllClashes_2 : decode cX1_breaksAllClashes 2 = .ok (.iload_n 2, 1) := by decide +kernel
theorem dX1_breaksAllClashes_3 : decode cX1_breaksAllClashes 3 = .ok (.aload_n 0, 1) := by decide +kernel
theorem dX1_breaksAllClashes_4 : decode cX1_breaksAllClashes 4 = .ok (.getfield 16, 3) := by decide +kernel
theorem dX1_breaksAllClashes_7 : decode cX1_breaksAllClashes 7 = .ok (.getfield 38, 3) := by decide +kernel
theorem dX1_breaksAllClashes_10 : decode cX1_breaksAllClashes 10 = .ok (.if_icmp .ge 25, 3) := by decide +kernel
theorem dX1_breaksAllClashes_13 : decode cX1_breaksAllClashes 13 = .ok (.aload_n 0, 1) := by decide +kernel
theorem dX1_breaksAllClashes_14 : decode cX1_breaksAllClashes 14 = .ok (.getfield 16, 3) := by decide +kernel
theorem dX1_breaksAllClashes_17 : decode cX1_breaksAllClashes 17 = .ok (.getfield 66, 3) := by decide +kernel
theorem dX1_breaksAllClashes_20 : decode cX1_breaksAllClashes 20 = .ok (.iload_n 2, 1) := by decide +kernel
theorem dX1_breaksAllClashes_21 : decode cX1_breaksAllClashes 21 = .ok (.iaload, 1) := by decide +kernel
theorem dX1_breaksAllClashes_22 : decode cX1_breaksAllClashes 22 = .ok (.iload_n 1, 1) := by decide +kernel
theorem dX1_breaksAllClashes_23 : decode cX1_breaksAllClashes 23 = .ok (.iand, 1) := by decide +kernel
theorem dX1_breaksAllClashes_24 : decode cX1_breaksAllClashes 24 = .ok (.ifCond .ne 5, 3) := by decide +kernel
theorem dX1_breaksAllClashes_27 : decode cX1_breaksAllClashes 27 = .ok (.iconst 0, 1) := by decide +kernel
theorem dX1_breaksAllClashes_28 : decode cX1_breaksAllClashes 28 = .ok (.ireturn, 1) := by decide +kernel
theorem dX1_breaksAllClashes_29 : decode cX1_breaksAllClashes 29 = .ok (.iinc 2 1, 3) := by decide +kernel
theorem dX1_breaksAllClashes_32 : decode cX1_breaksAllClashes 32 = .ok (.goto (-30), 3) := by decide +kernel
theorem dX1_breaksAllClashes_35 : decode cX1_breaksAllClashes 35 = .ok (.iconst 1, 1) := by decide +kernel
theorem dX1_breaksAllClashes_36 : decode cX1_breaksAllClashes 36 = .ok (.ireturn, 1) := by decide +kernel
theorem dX1_leastClash_0 : decode cX1_leastClash 0 = .ok (.iload_n 0, 1) := by decide +kernel
theorem dX1_leastClash_1 : decode cX1_leastClash 1 = .ok (.istore_n 3, 1) := by decide +kernel
theorem dX1_leastClash_2 : decode cX1_leastClash 2 = .ok (.iconst 0, 1) := by decide +kernel
theorem dX1_leastClash_3 : decode cX1_leastClash 3 = .ok (.istore 4, 2) := by decide +kernel
theorem dX1_leastClash_5 : decode cX1_leastClash 5 = .ok (.iload 4, 2) := by decide +kernel
theorem dX1_leastClash_7 : decode cX1_leastClash 7 = .ok (.aload_n 1, 1) := by decide +kernel
theorem dX1_leastClash_8 : decode cX1_leastClash 8 = .ok (.getfield 70, 3) := by decide +kernel
theorem dX1_leastClash_11 : decode cX1_leastClash 11 = .ok (.if_icmp .ge 39, 3) := by decide +kernel
theorem dX1_leastClash_14 : decode cX1_leastClash 14 = .ok (.iload_n 3, 1) := by decide +kernel
theorem dX1_leastClash_15 : decode cX1_leastClash 15 = .ok (.iload 4, 2) := by decide +kernel
theorem dX1_leastClash_17 : decode cX1_leastClash 17 = .ok (.iconst 0, 1) := by decide +kernel
theorem dX1_leastClash_18 : decode cX1_leastClash 18 = .ok (.invokestatic 73, 3) := by decide +kernel
theorem dX1_leastClash_21 : decode cX1_leastClash 21 = .ok (.istore 5, 2) := by decide +kernel
theorem dX1_leastClash_23 : decode cX1_leastClash 23 = .ok (.iload 5, 2) := by decide +kernel
theorem dX1_leastClash_25 : decode cX1_leastClash 25 = .ok (.iload_n 3, 1) := by decide +kernel
theorem dX1_leastClash_26 : decode cX1_leastClash 26 = .ok (.if_icmp .eq 18, 3) := by decide +kernel
theorem dX1_leastClash_29 : decode cX1_leastClash 29 = .ok (.aload_n 2, 1) := by decide +kernel
theorem dX1_leastClash_30 : decode cX1_leastClash 30 = .ok (.aload_n 1, 1) := by decide +kernel
theorem dX1_leastClash_31 : decode cX1_leastClash 31 = .ok (.iload 5, 2) := by decide +kernel
theorem dX1_leastClash_33 : decode cX1_leastClash 33 = .ok (.invokevirtual 49, 3) := by decide +kernel
theorem dX1_leastClash_36 : decode cX1_leastClash 36 = .ok (.ifCond .ne 8, 3) := by decide +kernel
theorem dX1_leastClash_39 : decode cX1_leastClash 39 = .ok (.aload_n 2, 1) := by decide +kernel
theorem dX1_leastClash_40 : decode cX1_leastClash 40 = .ok (.getfield 59, 3) := by decide +kernel
theorem dX1_leastClash_43 : decode cX1_leastClash 43 = .ok (.istore_n 3, 1) := by decide +kernel
theorem dX1_leastClash_44 : decode cX1_leastClash 44 = .ok (.iinc 4 1, 3) := by decide +kernel
theorem dX1_leastClash_47 : decode cX1_leastClash 47 = .ok (.goto (-42), 3) := by decide +kernel
theorem dX1_leastClash_50 : decode cX1_leastClash 50 = .ok (.iload_n 3, 1) := by decide +kernel
theorem dX1_leastClash_51 : decode cX1_leastClash 51 = .ok (.ireturn, 1) := by decide +kernel
theorem dX2_init_0 : decode cX2_init 0 = .ok (.aload_n 0, 1) := by decide +kernel
theorem dX2_init_1 : decode cX2_init 1 = .ok (.invokespecial 3, 3) := by decide +kernel
theorem dX2_init_4 : decode cX2_init 4 = .ok (.aload_n 0, 1) := by decide +kernel
theorem dX2_init_5 : decode cX2_init 5 = .ok (.bipush 10, 2) := by decide +kernel
theorem dX2_init_7 : decode cX2_init 7 = .ok (.newarray .int, 2) := by decide +kernel
theorem dX2_init_9 : decode cX2_init 9 = .ok (.putfield 9, 3) := by decide +kernel
theorem dX2_init_12 : decode cX2_init 12 = .ok (.aload_n 0, 1) := by decide +kernel
theorem dX2_init_13 : decode cX2_init 13 = .ok (.bipush 10, 2) := by decide +kernel
theorem dX2_init_15 : decode cX2_init 15 = .ok (.newarray .int, 2) := by decide +kernel
theorem dX2_init_17 : decode cX2_init 17 = .ok (.putfield 15, 3) := by decide +kernel
theorem dX2_init_20 : decode cX2_init 20 = .ok (.aload_n 0, 1) := by decide +kernel
theorem dX2_init_21 : decode cX2_init 21 = .ok (.bipush 10, 2) := by decide +kernel
theorem dX2_init_23 : decode cX2_init 23 = .ok (.newarray .int, 2) := by decide +kernel
theorem dX2_init_25 : decode cX2_init 25 = .ok (.putfield 18, 3) := by decide +kernel
theorem dX2_init_28 : decode cX2_init 28 = .ok (.aload_n 0, 1) := by decide +kernel
theorem dX2_init_29 : decode cX2_init 29 = .ok (.iconst 4, 1) := by decide +kernel
theorem dX2_init_30 : decode cX2_init 30 = .ok (.putfield 21, 3) := by decide +kernel
theorem dX2_init_33 : decode cX2_init 33 = .ok (.return_, 1) := by decide +kernel
theorem dX2_startAnew_0 : decode cX2_startAnew 0 = .ok (.aload_n 0, 1) := by decide +kernel
theorem dX2_startAnew_1 : decode cX2_startAnew 1 = .ok (.iload_n 1, 1) := by decide +kernel
theorem dX2_startAnew_2 : decode cX2_startAnew 2 = .ok (.putfield 21, 3) := by decide +kernel
theorem dX2_startAnew_5 : decode cX2_startAnew 5 = .ok (.aload_n 0, 1) := by decide +kernel
theorem dX2_startAnew_6 : decode cX2_startAnew 6 = .ok (.iconst 0, 1) := by decide +kernel
theorem dX2_startAnew_7 : decode cX2_startAnew 7 = .ok (.putfield 25, 3) := by decide +kernel
theorem dX2_startAnew_10 : decode cX2_startAnew 10 = .ok (.aload_n 0, 1) := by decide +kernel
theorem dX2_startAnew_11 : decode cX2_startAnew 11 = .ok (.iconst 0, 1) := by decide +kernel
theorem dX2_startAnew_12 : decode cX2_startAnew 12 = .ok (.putfield 28, 3) := by decide +kernel
theorem dX2_startAnew_15 : decode cX2_startAnew 15 = .ok (.aload_n 0, 1) := by decide +kernel
theorem dX2_startAnew_16 : decode cX2_startAnew 16 = .ok (.iconst 0, 1) := by decide +kernel
theorem dX2_startAnew_17 : decode cX2_startAnew 17 = .ok (.putfield 31, 3) := by decide +kernel
theorem dX2_startAnew_20 : decode cX2_startAnew 20 = .ok (.aload_n 0, 1) := by decide +kernel
theorem dX2_startAnew_21 : decode cX2_startAnew 21 = .ok (.iconst 0, 1) := by decide +kernel
theorem dX2_startAnew_22 : decode cX2_startAnew 22 = .ok (.putfield 34, 3) := by decide +kernel
theorem dX2_startAnew_25 : decode cX2_startAnew 25 = .ok (.return_, 1) := by decide +kernel
theorem dX2_hasLine_0 : decode cX2_hasLine 0 = .ok (.iload_n 1, 1) := by decide +kernel
theorem dX2_hasLine_1 : decode cX2_hasLine 1 = .ok (.ifCond .lt 15, 3) := by decide +kernel
theorem dX2_hasLine_4 : decode cX2_hasLine 4 = .ok (.iload_n 1, 1) := by decide +kernel
theorem dX2_hasLine_5 : decode cX2_hasLine 5 = .ok (.aload_n 0, 1) := by decide +kernel
theorem dX2_hasLine_6 : decode cX2_hasLine 6 = .ok (.getfield 21, 3) := by decide +kernel
theorem dX2_hasLine_9 : decode cX2_hasLine 9 = .ok (.if_icmp .ge 7, 3) := by decide +kernel
theorem dX2_hasLine_12 : decode cX2_hasLine 12 = .ok (.iconst 1, 1) := by decide +kernel
theorem dX2_hasLine_13 : decode cX2_hasLine 13 = .ok (.goto 4, 3) := by decide +kernel
theorem dX2_hasLine_16 : decode cX2_hasLine 16 = .ok (.iconst 0, 1) := by decide +kernel
theorem dX2_hasLine_17 : decode cX2_hasLine 17 = .ok (.ireturn, 1) := by decide +kernel
theorem dX2_hasWay_0 : decode cX2_hasWay 0 = .ok (.iload_n 1, 1) := by decide +kernel
theorem dX2_hasWay_1 : decode cX2_hasWay 1 = .ok (.ifCond .lt 15, 3) := by decide +kernel
theorem dX2_hasWay_4 : decode cX2_hasWay 4 = .ok (.iload_n 1, 1) := by decide +kernel
theorem dX2_hasWay_5 : decode cX2_hasWay 5 = .ok (.aload_n 0, 1) := by decide +kernel
theorem dX2_hasWay_6 : decode cX2_hasWay 6 = .ok (.getfield 25, 3) := by decide +kernel
theorem dX2_hasWay_9 : decode cX2_hasWay 9 = .ok (.if_icmp .ge 7, 3) := by decide +kernel
theorem dX2_hasWay_12 : decode cX2_hasWay 12 = .ok (.iconst 1, 1) := by decide +kernel
theorem dX2_hasWay_13 : decode cX2_hasWay 13 = .ok (.goto 4, 3) := by decide +kernel
theorem dX2_hasWay_16 : decode cX2_hasWay 16 = .ok (.iconst 0, 1) := by decide +kernel
theorem dX2_hasWay_17 : decode cX2_hasWay 17 = .ok (.ireturn, 1) := by decide +kernel
theorem dX2_hasOffer_0 : decode cX2_hasOffer 0 = .ok (.iload_n 1, 1) := by decide +kernel
theorem dX2_hasOffer_1 : decode cX2_hasOffer 1 = .ok (.ifCond .lt 15, 3) := by decide +kernel
theorem dX2_hasOffer_4 : decode cX2_hasOffer 4 = .ok (.iload_n 1, 1) := by decide +kernel
theorem dX2_hasOffer_5 : decode cX2_hasOffer 5 = .ok (.aload_n 0, 1) := by decide +kernel
theorem dX2_hasOffer_6 : decode cX2_hasOffer 6 = .ok (.getfield 28, 3) := by decide +kernel
theorem dX2_hasOffer_9 : decode cX2_hasOffer 9 = .ok (.if_icmp .ge 7, 3) := by decide +kernel
theorem dX2_hasOffer_12 : decode cX2_hasOffer 12 = .ok (.iconst 1, 1) := by decide +kernel
theorem dX2_hasOffer_13 : decode cX2_hasOffer 13 = .ok (.goto 4, 3) := by decide +kernel
theorem dX2_hasOffer_16 : decode cX2_hasOffer 16 = .ok (.iconst 0, 1) := by decide +kernel
theorem dX2_hasOffer_17 : decode cX2_hasOffer 17 = .ok (.ireturn, 1) := by decide +kernel
theorem dX2_isLineSet_0 : decode cX2_isLineSet 0 = .ok (.iload_n 1, 1) := by decide +kernel
theorem dX2_isLineSet_1 : decode cX2_isLineSet 1 = .ok (.ifCond .lt 17, 3) := by decide +kernel
theorem dX2_isLineSet_4 : decode cX2_isLineSet 4 = .ok (.iload_n 1, 1) := by decide +kernel
theorem dX2_isLineSet_5 : decode cX2_isLineSet 5 = .ok (.iconst 1, 1) := by decide +kernel
theorem dX2_isLineSet_6 : decode cX2_isLineSet 6 = .ok (.aload_n 0, 1) := by decide +kernel
theorem dX2_isLineSet_7 : decode cX2_isLineSet 7 = .ok (.getfield 21, 3) := by decide +kernel
theorem dX2_isLineSet_10 : decode cX2_isLineSet 10 = .ok (.ishl, 1) := by decide +kernel
theorem dX2_isLineSet_11 : decode cX2_isLineSet 11 = .ok (.if_icmp .ge 7, 3) := by decide +kernel
theorem dX2_isLineSet_14 : decode cX2_isLineSet 14 = .ok (.iconst 1, 1) := by decide +kernel
theorem dX2_isLineSet_15 : decode cX2_isLineSet 15 = .ok (.goto 4, 3) := by decide +kernel
theorem dX2_isLineSet_18 : decode cX2_isLineSet 18 = .ok (.iconst 0, 1) := by decide +kernel
theorem dX2_isLineSet_19 : decode cX2_isLineSet 19 = .ok (.ireturn, 1) := by decide +kernel
theorem dX2_isFilledLineSet_0 : decode cX2_isFilledLineSet 0 = .ok (.iload_n 1, 1) := by decide +kernel
theorem dX2_isFilledLineSet_1 : decode cX2_isFilledLineSet 1 = .ok (.ifCond .eq 15, 3) := by decide +kernel
theorem dX2_isFilledLineSet_4 : decode cX2_isFilledLineSet 4 = .ok (.aload_n 0, 1) := by decide +kernel
theorem dX2_isFilledLineSet_5 : decode cX2_isFilledLineSet 5 = .ok (.iload_n 1, 1) := by decide +kernel
theorem dX2_isFilledLineSet_6 : decode cX2_isFilledLineSet 6 = .ok (.invokevirtual 37, 3) := by decide +kernel
theorem dX2_isFilledLineSet_9 : decode cX2_isFilledLineSet 9 = .ok (.ifCond .eq 7, 3) := by decide +kernel
theorem dX2_isFilledLineSet_12 : decode cX2_isFilledLineSet 12 = .ok (.iconst 1, 1) := by decide +kernel
theorem dX2_isFilledLineSet_13 : decode cX2_isFilledLineSet 13 = .ok (.goto 4, 3) := by decide +kernel
theorem dX2_isFilledLineSet_16 : decode cX2_isFilledLineSet 16 = .ok (.iconst 0, 1) := by decide +kernel
theorem dX2_isFilledLineSet_17 : decode cX2_isFilledLineSet 17 = .ok (.ireturn, 1) := by decide +kernel
theorem dX2_addWay_0 : decode cX2_addWay 0 = .ok (.aload_n 0, 1) := by decide +kernel
theorem dX2_addWay_1 : decode cX2_addWay 1 = .ok (.getfield 25, 3) := by decide +kernel
theorem dX2_addWay_4 : decode cX2_addWay 4 = .ok (.istore_n 3, 1) := by decide +kernel
theorem dX2_addWay_5 : decode cX2_addWay 5 = .ok (.aload_n 0, 1) := by decide +kernel
theorem dX2_addWay_6 : decode cX2_addWay 6 = .ok (.getfield 9, 3) := by decide +kernel
theorem dX2_addWay_9 : decode cX2_addWay 9 = .ok (.iload_n 3, 1) := by decide +kernel
theorem dX2_addWay_10 : decode cX2_addWay 10 = .ok (.iload_n 1, 1) := by decide +kernel
theorem dX2_addWay_11 : decode cX2_addWay 11 = .ok (.iastore, 1) := by decide +kernel
theorem dX2_addWay_12 : decode cX2_addWay 12 = .ok (.aload_n 0, 1) := by decide +kernel
theorem dX2_addWay_13 : decode cX2_addWay 13 = .ok (.getfield 15, 3) := by decide +kernel
theorem dX2_addWay_16 : decode cX2_addWay 16 = .ok (.iload_n 3, 1) := by decide +kernel
theorem dX2_addWay_17 : decode cX2_addWay 17 = .ok (.iload_n 2, 1) := by decide +kernel
theorem dX2_addWay_18 : decode cX2_addWay 18 = .ok (.iastore, 1) := by decide +kernel
theorem dX2_addWay_19 : decode cX2_addWay 19 = .ok (.aload_n 0, 1) := by decide +kernel
theorem dX2_addWay_20 : decode cX2_addWay 20 = .ok (.aload_n 0, 1) := by decide +kernel
theorem dX2_addWay_21 : decode cX2_addWay 21 = .ok (.getfield 31, 3) := by decide +kernel
theorem dX2_addWay_24 : decode cX2_addWay 24 = .ok (.iload_n 3, 1) := by decide +kernel
theorem dX2_addWay_25 : decode cX2_addWay 25 = .ok (.iconst 1, 1) := by decide +kernel
theorem dX2_addWay_26 : decode cX2_addWay 26 = .ok (.invokestatic 41, 3) := by decide +kernel
theorem dX2_addWay_29 : decode cX2_addWay 29 = .ok (.putfield 31, 3) := by decide +kernel
theorem dX2_addWay_32 : decode cX2_addWay 32 = .ok (.aload_n 0, 1) := by decide +kernel
theorem dX2_addWay_33 : decode cX2_addWay 33 = .ok (.aload_n 0, 1) := by decide +kernel
theorem dX2_addWay_34 : decode cX2_addWay 34 = .ok (.getfield 34, 3) := by decide +kernel
theorem dX2_addWay_37 : decode cX2_addWay 37 = .ok (.iload_n 3, 1) := by decide +kernel
theorem dX2_addWay_38 : decode cX2_addWay 38 = .ok (.iconst 0, 1) := by decide +kernel
theorem dX2_addWay_39 : decode cX2_addWay 39 = .ok (.invokestatic 41, 3) := by decide +kernel
theorem dX2_addWay_42 : decode cX2_addWay 42 = .ok (.putfield 34, 3) := by decide +kernel
theorem dX2_addWay_45 : decode cX2_addWay 45 = .ok (.aload_n 0, 1) := by decide +kernel
theorem dX2_addWay_46 : decode cX2_addWay 46 = .ok (.dup, 1) := by decide +kernel
theorem dX2_addWay_47 : decode cX2_addWay 47 = .ok (.getfield 25, 3) := by decide +kernel
theorem dX2_addWay_50 : decode cX2_addWay 50 = .ok (.iconst 1, 1) := by decide +kernel
theorem dX2_addWay_51 : decode cX2_addWay 51 = .ok (.iadd, 1) := by decide +kernel
theorem dX2_addWay_52 : decode cX2_addWay 52 = .ok (.putfield 25, 3) := by decide +kernel
theorem dX2_addWay_55 : decode cX2_addWay 55 = .ok (.iload_n 3, 1) := by decide +kernel
theorem dX2_addWay_56 : decode cX2_addWay 56 = .ok (.ireturn, 1) := by decide +kernel
theorem dX2_dropLastWay_0 : decode cX2_dropLastWay 0 = .ok (.aload_n 0, 1) := by decide +kernel
theorem dX2_dropLastWay_1 : decode cX2_dropLastWay 1 = .ok (.dup, 1) := by decide +kernel
theorem dX2_dropLastWay_2 : decode cX2_dropLastWay 2 = .ok (.getfield 25, 3) := by decide +kernel
theorem dX2_dropLastWay_5 : decode cX2_dropLastWay 5 = .ok (.iconst 1, 1) := by decide +kernel
theorem dX2_dropLastWay_6 : decode cX2_dropLastWay 6 = .ok (.isub, 1) := by decide +kernel
theorem dX2_dropLastWay_7 : decode cX2_dropLastWay 7 = .ok (.putfield 25, 3) := by decide +kernel
theorem dX2_dropLastWay_10 : decode cX2_dropLastWay 10 = .ok (.aload_n 0, 1) := by decide +kernel
theorem dX2_dropLastWay_11 : decode cX2_dropLastWay 11 = .ok (.aload_n 0, 1) := by decide +kernel
theorem dX2_dropLastWay_12 : decode cX2_dropLastWay 12 = .ok (.getfield 31, 3) := by decide +kernel
theorem dX2_dropLastWay_15 : decode cX2_dropLastWay 15 = .ok (.aload_n 0, 1) := by decide +kernel
theorem dX2_dropLastWay_16 : decode cX2_dropLastWay 16 = .ok (.getfield 25, 3) := by decide +kernel
theorem dX2_dropLastWay_19 : decode cX2_dropLastWay 19 = .ok (.iconst 0, 1) := by decide +kernel
theorem dX2_dropLastWay_20 : decode cX2_dropLastWay 20 = .ok (.invokestatic 41, 3) := by decide +kernel
theorem dX2_dropLastWay_23 : decode cX2_dropLastWay 23 = .ok (.putfield 31, 3) := by decide +kernel
theorem dX2_dropLastWay_26 : decode cX2_dropLastWay 26 = .ok (.aload_n 0, 1) := by decide +kernel
theorem dX2_dropLastWay_27 : decode cX2_dropLastWay 27 = .ok (.aload_n 0, 1) := by decide +kernel
theorem dX2_dropLastWay_28 : decode cX2_dropLastWay 28 = .ok (.getfield 34, 3) := by decide +kernel
theorem dX2_dropLastWay_31 : decode cX2_dropLastWay 31 = .ok (.aload_n 0, 1) := by decide +kernel
theorem dX2_dropLastWay_32 : decode cX2_dropLastWay 32 = .ok (.getfield 25, 3) := by decide +kernel
theorem dX2_dropLastWay_35 : decode cX2_dropLastWay 35 = .ok (.iconst 0, 1) := by decide +kernel
theorem dX2_dropLastWay_36 : decode cX2_dropLastWay 36 = .ok (.invokestatic 41, 3) := by decide +kernel
theorem dX2_dropLastWay_39 : decode cX2_dropLastWay 39 = .ok (.putfield 34, 3) := by decide +kernel
theorem dX2_dropLastWay_42 : decode cX2_dropLastWay 42 = .ok (.return_, 1) := by decide +kernel
theorem dX2_addOffer_0 : decode cX2_addOffer 0 = .ok (.aload_n 0, 1) := by decide +kernel
theorem dX2_addOffer_1 : decode cX2_addOffer 1 = .ok (.getfield 28, 3) := by decide +kernel
theorem dX2_addOffer_4 : decode cX2_addOffer 4 = .ok (.istore_n 2, 1) := by decide +kernel
theorem dX2_addOffer_5 : decode cX2_addOffer 5 = .ok (.aload_n 0, 1) := by decide +kernel
theorem dX2_addOffer_6 : decode cX2_addOffer 6 = .ok (.getfield 18, 3) := by decide +kernel
theorem dX2_addOffer_9 : decode cX2_addOffer 9 = .ok (.iload_n 2, 1) := by decide +kernel
theorem dX2_addOffer_10 : decode cX2_addOffer 10 = .ok (.iload_n 1, 1) := by decide +kernel
theorem dX2_addOffer_11 : decode cX2_addOffer 11 = .ok (.iastore, 1) := by decide +kernel
theorem dX2_addOffer_12 : decode cX2_addOffer 12 = .ok (.aload_n 0, 1) := by decide +kernel
theorem dX2_addOffer_13 : decode cX2_addOffer 13 = .ok (.dup, 1) := by decide +kernel
theorem dX2_addOffer_14 : decode cX2_addOffer 14 = .ok (.getfield 28, 3) := by decide +kernel
theorem dX2_addOffer_17 : decode cX2_addOffer 17 = .ok (.iconst 1, 1) := by decide +kernel
theorem dX2_addOffer_18 : decode cX2_addOffer 18 = .ok (.iadd, 1) := by decide +kernel
theorem dX2_addOffer_19 : decode cX2_addOffer 19 = .ok (.putfield 28, 3) := by decide +kernel
theorem dX2_addOffer_22 : decode cX2_addOffer 22 = .ok (.iload_n 2, 1) := by decide +kernel
theorem dX2_addOffer_23 : decode cX2_addOffer 23 = .ok (.ireturn, 1) := by decide +kernel
theorem dX2_isOn_0 : decode cX2_isOn 0 = .ok (.aload_n 0, 1) := by decide +kernel
theorem dX2_isOn_1 : decode cX2_isOn 1 = .ok (.getfield 31, 3) := by decide +kernel
theorem dX2_isOn_4 : decode cX2_isOn 4 = .ok (.iload_n 1, 1) := by decide +kernel
theorem dX2_isOn_5 : decode cX2_isOn 5 = .ok (.invokestatic 45, 3) := by decide +kernel
theorem dX2_isOn_8 : decode cX2_isOn 8 = .ok (.iconst 1, 1) := by decide +kernel
theorem dX2_isOn_9 : decode cX2_isOn 9 = .ok (.if_icmp .ne 7, 3) := by decide +kernel
theorem dX2_isOn_12 : decode cX2_isOn 12 = .ok (.iconst 1, 1) := by decide +kernel
theorem dX2_isOn_13 : decode cX2_isOn 13 = .ok (.goto 4, 3) := by decide +kernel
theorem dX2_isOn_16 : decode cX2_isOn 16 = .ok (.iconst 0, 1) := by decide +kernel
theorem dX2_isOn_17 : decode cX2_isOn 17 = .ok (.ireturn, 1) := by decide +kernel
theorem dX2_seenLines_0 : decode cX2_seenLines 0 = .ok (.iconst 0, 1) := by decide +kernel
theorem dX2_seenLines_1 : decode cX2_seenLines 1 = .ok (.istore_n 1, 1) := by decide +kernel
theorem dX2_seenLines_2 : decode cX2_seenLines 2 = .ok (.iconst 0, 1) := by decide +kernel
theorem dX2_seenLines_3 : decode cX2_seenLines 3 = .ok (.istore_n 2, 1) := by decide +kernel
theorem dX2_seenLines_4 : decode cX2_seenLines 4 = .ok (.iload_n 2, 1) := by decide +kernel
theorem dX2_seenLines_5 : decode cX2_seenLines 5 = .ok (.aload_n 0, 1) := by decide +kernel
theorem dX2_seenLines_6 : decode cX2_seenLines 6 = .ok (.getfield 25, 3) := by decide +kernel
theorem dX2_seenLines_9 : decode cX2_seenLines 9 = .ok (.if_icmp .ge 26, 3) := by decide +kernel
theorem dX2_seenLines_12 : decode cX2_seenLines 12 = .ok (.aload_n 0, 1) := by decide +kernel
theorem dX2_seenLines_13 : decode cX2_seenLines 13 = .ok (.iload_n 2, 1) := by decide +kernel
theorem dX2_seenLines_14 : decode cX2_seenLines 14 = .ok (.invokevirtual 49, 3) := by decide +kernel
theorem dX2_seenLines_17 : decode cX2_seenLines 17 = .ok (.ifCond .eq 12, 3) := by decide +kernel
theorem dX2_seenLines_20 : decode cX2_seenLines 20 = .ok (.iload_n 1, 1) := by decide +kernel
theorem dX2_seenLines_21 : decode cX2_seenLines 21 = .ok (.aload_n 0, 1) := by decide +kernel
theorem dX2_seenLines_22 : decode cX2_seenLines 22 = .ok (.getfield 9, 3) := by decide +kernel
theorem dX2_seenLines_25 : decode cX2_seenLines 25 = .ok (.iload_n 2, 1) := by decide +kernel
theorem dX2_seenLines_26 : decode cX2_seenLines 26 = .ok (.iaload, 1) := by decide +kernel
theorem dX2_seenLines_27 : decode cX2_seenLines 27 = .ok (.ior, 1) := by decide +kernel
theorem dX2_seenLines_28 : decode cX2_seenLines 28 = .ok (.istore_n 1, 1) := by decide +kernel
theorem dX2_seenLines_29 : decode cX2_seenLines 29 = .ok (.iinc 2 1, 3) := by decide +kernel
theorem dX2_seenLines_32 : decode cX2_seenLines 32 = .ok (.goto (-28), 3) := by decide +kernel
theorem dX2_seenLines_35 : decode cX2_seenLines 35 = .ok (.iload_n 1, 1) := by decide +kernel
theorem dX2_seenLines_36 : decode cX2_seenLines 36 = .ok (.ireturn, 1) := by decide +kernel
theorem dX2_linesAlike_0 : decode cX2_linesAlike 0 = .ok (.iconst 1, 1) := by decide +kernel
theorem dX2_linesAlike_1 : decode cX2_linesAlike 1 = .ok (.aload_n 0, 1) := by decide +kernel
theorem dX2_linesAlike_2 : decode cX2_linesAlike 2 = .ok (.getfield 21, 3) := by decide +kernel
theorem dX2_linesAlike_5 : decode cX2_linesAlike 5 = .ok (.ishl, 1) := by decide +kernel
theorem dX2_linesAlike_6 : decode cX2_linesAlike 6 = .ok (.iconst 1, 1) := by decide +kernel
theorem dX2_linesAlike_7 : decode cX2_linesAlike 7 = .ok (.isub, 1) := by decide +kernel
theorem dX2_linesAlike_8 : decode cX2_linesAlike 8 = .ok (.istore_n 2, 1) := by decide +kernel
theorem dX2_linesAlike_9 : decode cX2_linesAlike 9 = .ok (.iconst 0, 1) := by decide +kernel
theorem dX2_linesAlike_10 : decode cX2_linesAlike 10 = .ok (.istore_n 3, 1) := by decide +kernel
theorem dX2_linesAlike_11 : decode cX2_linesAlike 11 = .ok (.iload_n 3, 1) := by decide +kernel
theorem dX2_linesAlike_12 : decode cX2_linesAlike 12 = .ok (.aload_n 0, 1) := by decide +kernel
theorem dX2_linesAlike_13 : decode cX2_linesAlike 13 = .ok (.getfield 25, 3) := by decide +kernel
theorem dX2_linesAlike_16 : decode cX2_linesAlike 16 = .ok (.if_icmp .ge 51, 3) := by decide +kernel
theorem dX2_linesAlike_19 : decode cX2_linesAlike 19 = .ok (.aload_n 0, 1) := by decide +kernel
theorem dX2_linesAlike_20 : decode cX2_linesAlike 20 = .ok (.iload_n 3, 1) := by decide +kernel
theorem dX2_linesAlike_21 : decode cX2_linesAlike 21 = .ok (.invokevirtual 49, 3) := by decide +kernel
theorem dX2_linesAlike_24 : decode cX2_linesAlike 24 = .ok (.ifCond .eq 37, 3) := by decide +kernel
theorem dX2_linesAlike_27 : decode cX2_linesAlike 27 = .ok (.iload_n 2, 1) := by decide +kernel
theorem dX2_linesAlike_28 : decode cX2_linesAlike 28 = .ok (.aload_n 0, 1) := by decide +kernel
theorem dX2_linesAlike_29 : decode cX2_linesAlike 29 = .ok (.getfield 9, 3) := by decide +kernel
theorem dX2_linesAlike_32 : decode cX2_linesAlike 32 = .ok (.iload_n 3, 1) := by decide +kernel
theorem dX2_linesAlike_33 : decode cX2_linesAlike 33 = .ok (.iaload, 1) := by decide +kernel
theorem dX2_linesAlike_34 : decode cX2_linesAlike 34 = .ok (.iload_n 1, 1) := by decide +kernel
theorem dX2_linesAlike_35 : decode cX2_linesAlike 35 = .ok (.invokestatic 45, 3) := by decide +kernel
theorem dX2_linesAlike_38 : decode cX2_linesAlike 38 = .ok (.iconst 1, 1) := by decide +kernel
theorem dX2_linesAlike_39 : decode cX2_linesAlike 39 = .ok (.if_icmp .ne 12, 3) := by decide +kernel
theorem dX2_linesAlike_42 : decode cX2_linesAlike 42 = .ok (.aload_n 0, 1) := by decide +kernel
theorem dX2_linesAlike_43 : decode cX2_linesAlike 43 = .ok (.getfield 9, 3) := by decide +kernel
theorem dX2_linesAlike_46 : decode cX2_linesAlike 46 = .ok (.iload_n 3, 1) := by decide +kernel
theorem dX2_linesAlike_47 : decode cX2_linesAlike 47 = .ok (.iaload, 1) := by decide +kernel
theorem dX2_linesAlike_48 : decode cX2_linesAlike 48 = .ok (.goto 11, 3) := by decide +kernel
theorem dX2_linesAlike_51 : decode cX2_linesAlike 51 = .ok (.aload_n 0, 1) := by decide +kernel
theorem dX2_linesAlike_52 : decode cX2_linesAlike 52 = .ok (.getfield 9, 3) := by decide +kernel
theorem dX2_linesAlike_55 : decode cX2_linesAlike 55 = .ok (.iload_n 3, 1) := by decide +kernel
theorem dX2_linesAlike_56 : decode cX2_linesAlike 56 = .ok (.iaload, 1) := by decide +kernel
theorem dX2_linesAlike_57 : decode cX2_linesAlike 57 = .ok (.iconst (-1), 1) := by decide +kernel
theorem dX2_linesAlike_58 : decode cX2_linesAlike 58 = .ok (.ixor, 1) := by decide +kernel
theorem dX2_linesAlike_59 : decode cX2_linesAlike 59 = .ok (.iand, 1) := by decide +kernel
theorem dX2_linesAlike_60 : decode cX2_linesAlike 60 = .ok (.istore_n 2, 1) := by decide +kernel
theorem dX2_linesAlike_61 : decode cX2_linesAlike 61 = .ok (.iinc 3 1, 3) := by decide +kernel
theorem dX2_linesAlike_64 : decode cX2_linesAlike 64 = .ok (.goto (-53), 3) := by decide +kernel
theorem dX2_linesAlike_67 : decode cX2_linesAlike 67 = .ok (.iload_n 2, 1) := by decide +kernel
theorem dX2_linesAlike_68 : decode cX2_linesAlike 68 = .ok (.ireturn, 1) := by decide +kernel
theorem dX2_groupCount_0 : decode cX2_groupCount 0 = .ok (.iconst 0, 1) := by decide +kernel
theorem dX2_groupCount_1 : decode cX2_groupCount 1 = .ok (.istore_n 1, 1) := by decide +kernel
theorem dX2_groupCount_2 : decode cX2_groupCount 2 = .ok (.iconst 0, 1) := by decide +kernel
theorem dX2_groupCount_3 : decode cX2_groupCount 3 = .ok (.istore_n 2, 1) := by decide +kernel
theorem dX2_groupCount_4 : decode cX2_groupCount 4 = .ok (.iload_n 2, 1) := by decide +kernel
theorem dX2_groupCount_5 : decode cX2_groupCount 5 = .ok (.aload_n 0, 1) := by decide +kernel
theorem dX2_groupCount_6 : decode cX2_groupCount 6 = .ok (.getfield 21, 3) := by decide +kernel
theorem dX2_groupCount_9 : decode cX2_groupCount 9 = .ok (.if_icmp .ge 28, 3) := by decide +kernel
theorem dX2_groupCount_12 : decode cX2_groupCount 12 = .ok (.iconst 1, 1) := by decide +kernel
theorem dX2_groupCount_13 : decode cX2_groupCount 13 = .ok (.iload_n 2, 1) := by decide +kernel
theorem dX2_groupCount_14 : decode cX2_groupCount 14 = .ok (.ishl, 1) := by decide +kernel
theorem dX2_groupCount_15 : decode cX2_groupCount 15 = .ok (.iconst 1, 1) := by decide +kernel
theorem dX2_groupCount_16 : decode cX2_groupCount 16 = .ok (.isub, 1) := by decide +kernel
theorem dX2_groupCount_17 : decode cX2_groupCount 17 = .ok (.istore_n 3, 1) := by decide +kernel
theorem dX2_groupCount_18 : decode cX2_groupCount 18 = .ok (.aload_n 0, 1) := by decide +kernel
theorem dX2_groupCount_19 : decode cX2_groupCount 19 = .ok (.iload_n 2, 1) := by decide +kernel
theorem dX2_groupCount_20 : decode cX2_groupCount 20 = .ok (.invokevirtual 52, 3) := by decide +kernel
theorem dX2_groupCount_23 : decode cX2_groupCount 23 = .ok (.iload_n 3, 1) := by decide +kernel
theorem dX2_groupCount_24 : decode cX2_groupCount 24 = .ok (.iand, 1) := by decide +kernel
theorem dX2_groupCount_25 : decode cX2_groupCount 25 = .ok (.ifCond .ne 6, 3) := by decide +kernel
theorem dX2_groupCount_28 : decode cX2_groupCount 28 = .ok (.iinc 1 1, 3) := by decide +kernel
theorem dX2_groupCount_31 : decode cX2_groupCount 31 = .ok (.iinc 2 1, 3) := by decide +kernel
theorem dX2_groupCount_34 : decode cX2_groupCount 34 = .ok (.goto (-30), 3) := by decide +kernel
theorem dX2_groupCount_37 : decode cX2_groupCount 37 = .ok (.iload_n 1, 1) := by decide +kernel
theorem dX2_groupCount_38 : decode cX2_groupCount 38 = .ok (.ireturn, 1) := by decide +kernel
theorem dX3_init_0 : decode cX3_init 0 = .ok (.aload_n 0, 1) := by decide +kernel
theorem dX3_init_1 : decode cX3_init 1 = .ok (.invokespecial 3, 3) := by decide +kernel
theorem dX3_init_4 : decode cX3_init 4 = .ok (.aload_n 0, 1) := by decide +kernel
theorem dX3_init_5 : decode cX3_init 5 = .ok (.sipush 252, 3) := by decide +kernel
theorem dX3_init_8 : decode cX3_init 8 = .ok (.newarray .int, 2) := by decide +kernel
theorem dX3_init_10 : decode cX3_init 10 = .ok (.putfield 11, 3) := by decide +kernel
theorem dX3_init_13 : decode cX3_init 13 = .ok (.return_, 1) := by decide +kernel
theorem dX3_empty_0 : decode cX3_empty 0 = .ok (.aload_n 0, 1) := by decide +kernel
theorem dX3_empty_1 : decode cX3_empty 1 = .ok (.iconst 0, 1) := by decide +kernel
theorem dX3_empty_2 : decode cX3_empty 2 = .ok (.putfield 15, 3) := by decide +kernel
theorem dX3_empty_5 : decode cX3_empty 5 = .ok (.return_, 1) := by decide +kernel
theorem dX3_add_0 : decode cX3_add 0 = .ok (.aload_n 0, 1) := by decide +kernel
theorem dX3_add_1 : decode cX3_add 1 = .ok (.getfield 15, 3) := by decide +kernel
theorem dX3_add_4 : decode cX3_add 4 = .ok (.sipush 252, 3) := by decide +kernel
theorem dX3_add_7 : decode cX3_add 7 = .ok (.if_icmp .ge 23, 3) := by decide +kernel
theorem dX3_add_10 : decode cX3_add 10 = .ok (.aload_n 0, 1) := by decide +kernel
theorem dX3_add_11 : decode cX3_add 11 = .ok (.getfield 11, 3) := by decide +kernel
theorem dX3_add_14 : decode cX3_add 14 = .ok (.aload_n 0, 1) := by decide +kernel
theorem dX3_add_15 : decode cX3_add 15 = .ok (.getfield 15, 3) := by decide +kernel
theorem dX3_add_18 : decode cX3_add 18 = .ok (.iload_n 1, 1) := by decide +kernel
theorem dX3_add_19 : decode cX3_add 19 = .ok (.iastore, 1) := by decide +kernel
theorem dX3_add_20 : decode cX3_add 20 = .ok (.aload_n 0, 1) := by decide +kernel
theorem dX3_add_21 : decode cX3_add 21 = .ok (.dup, 1) := by decide +kernel
theorem dX3_add_22 : decode cX3_add 22 = .ok (.getfield 15, 3) := by decide +kernel
theorem dX3_add_25 : decode cX3_add 25 = .ok (.iconst 1, 1) := by decide +kernel
theorem dX3_add_26 : decode cX3_add 26 = .ok (.iadd, 1) := by decide +kernel
theorem dX3_add_27 : decode cX3_add 27 = .ok (.putfield 15, 3) := by decide +kernel
theorem dX3_add_30 : decode cX3_add 30 = .ok (.return_, 1) := by decide +kernel
theorem dX3_answer_0 : decode cX3_answer 0 = .ok (.iload_n 1, 1) := by decide +kernel
theorem dX3_answer_1 : decode cX3_answer 1 = .ok (.iconst (-1), 1) := by decide +kernel
theorem dX3_answer_2 : decode cX3_answer 2 = .ok (.if_icmp .ne 8, 3) := by decide +kernel
theorem dX3_answer_5 : decode cX3_answer 5 = .ok (.aload_n 0, 1) := by decide +kernel
theorem dX3_answer_6 : decode cX3_answer 6 = .ok (.getfield 15, 3) := by decide +kernel
theorem dX3_answer_9 : decode cX3_answer 9 = .ok (.ireturn, 1) := by decide +kernel
theorem dX3_answer_10 : decode cX3_answer 10 = .ok (.iload_n 1, 1) := by decide +kernel
theorem dX3_answer_11 : decode cX3_answer 11 = .ok (.ifCond .lt 20, 3) := by decide +kernel
theorem dX3_answer_14 : decode cX3_answer 14 = .ok (.iload_n 1, 1) := by decide +kernel
theorem dX3_answer_15 : decode cX3_answer 15 = .ok (.aload_n 0, 1) := by decide +kernel
theorem dX3_answer_16 : decode cX3_answer 16 = .ok (.getfield 15, 3) := by decide +kernel
theorem dX3_answer_19 : decode cX3_answer 19 = .ok (.if_icmp .ge 12, 3) := by decide +kernel
theorem dX3_answer_22 : decode cX3_answer 22 = .ok (.aload_n 0, 1) := by decide +kernel
theorem dX3_answer_23 : decode cX3_answer 23 = .ok (.getfield 11, 3) := by decide +kernel
theorem dX3_answer_26 : decode cX3_answer 26 = .ok (.iload_n 1, 1) := by decide +kernel
theorem dX3_answer_27 : decode cX3_answer 27 = .ok (.iaload, 1) := by decide +kernel
theorem dX3_answer_28 : decode cX3_answer 28 = .ok (.goto 5, 3) := by decide +kernel
theorem dX3_answer_31 : decode cX3_answer 31 = .ok (.bipush (-102), 2) := by decide +kernel
theorem dX3_answer_33 : decode cX3_answer 33 = .ok (.ireturn, 1) := by decide +kernel
theorem dX4_init_0 : decode cX4_init 0 = .ok (.aload_n 0, 1) := by decide +kernel
theorem dX4_init_1 : decode cX4_init 1 = .ok (.invokespecial 3, 3) := by decide +kernel
theorem dX4_init_4 : decode cX4_init 4 = .ok (.aload_n 0, 1) := by decide +kernel
theorem dX4_init_5 : decode cX4_init 5 = .ok (.new 9, 3) := by decide +kernel
theorem dX4_init_8 : decode cX4_init 8 = .ok (.dup, 1) := by decide +kernel
theorem dX4_init_9 : decode cX4_init 9 = .ok (.invokespecial 11, 3) := by decide +kernel
theorem dX4_init_12 : decode cX4_init 12 = .ok (.putfield 12, 3) := by decide +kernel
theorem dX4_init_15 : decode cX4_init 15 = .ok (.return_, 1) := by decide +kernel
theorem dX4_leastSets_0 : decode cX4_leastSets 0 = .ok (.aload_n 0, 1) := by decide +kernel
theorem dX4_leastSets_1 : decode cX4_leastSets 1 = .ok (.getfield 12, 3) := by decide +kernel
theorem dX4_leastSets_4 : decode cX4_leastSets 4 = .ok (.invokevirtual 18, 3) := by decide +kernel
theorem dX4_leastSets_7 : decode cX4_leastSets 7 = .ok (.aload_n 1, 1) := by decide +kernel
theorem dX4_leastSets_8 : decode cX4_leastSets 8 = .ok (.invokestatic 21, 3) := by decide +kernel
theorem dX4_leastSets_11 : decode cX4_leastSets 11 = .ok (.istore_n 2, 1) := by decide +kernel
theorem dX4_leastSets_12 : decode cX4_leastSets 12 = .ok (.bipush 10, 2) := by decide +kernel
theorem dX4_leastSets_14 : decode cX4_leastSets 14 = .ok (.istore_n 3, 1) := by decide +kernel
theorem dX4_leastSets_15 : decode cX4_leastSets 15 = .ok (.iconst 0, 1) := by decide +kernel
theorem dX4_leastSets_16 : decode cX4_leastSets 16 = .ok (.istore 4, 2) := by decide +kernel
theorem dX4_leastSets_18 : decode cX4_leastSets 18 = .ok (.iload 4, 2) := by decide +kernel
theorem dX4_leastSets_20 : decode cX4_leastSets 20 = .ok (.iload_n 2, 1) := by decide +kernel
theorem dX4_leastSets_21 : decode cX4_leastSets 21 = .ok (.if_icmp .gt 65, 3) := by decide +kernel
theorem dX4_leastSets_24 : decode cX4_leastSets 24 = .ok (.iload 4, 2) := by decide +kernel
theorem dX4_leastSets_26 : decode cX4_leastSets 26 = .ok (.invokestatic 25, 3) := by decide +kernel
theorem dX4_leastSets_29 : decode cX4_leastSets 29 = .ok (.istore 5, 2) := by decide +kernel
theorem dX4_leastSets_31 : decode cX4_leastSets 31 = .ok (.iload 4, 2) := by decide +kernel
theorem dX4_leastSets_33 : decode cX4_leastSets 33 = .ok (.iload_n 2, 1) := by decide +kernel
theorem dX4_leastSets_34 : decode cX4_leastSets 34 = .ok (.iconst (-1), 1) := by decide +kernel
theorem dX4_leastSets_35 : decode cX4_leastSets 35 = .ok (.ixor, 1) := by decide +kernel
theorem dX4_leastSets_36 : decode cX4_leastSets 36 = .ok (.iand, 1) := by decide +kernel
theorem dX4_leastSets_37 : decode cX4_leastSets 37 = .ok (.ifCond .ne 43, 3) := by decide +kernel
theorem dX4_leastSets_40 : decode cX4_leastSets 40 = .ok (.iload 5, 2) := by decide +kernel
theorem dX4_leastSets_42 : decode cX4_leastSets 42 = .ok (.iload_n 3, 1) := by decide +kernel
theorem dX4_leastSets_43 : decode cX4_leastSets 43 = .ok (.if_icmp .gt 37, 3) := by decide +kernel
theorem dX4_leastSets_46 : decode cX4_leastSets 46 = .ok (.aload_n 1, 1) := by decide +kernel
theorem dX4_leastSets_47 : decode cX4_leastSets 47 = .ok (.iload 4, 2) := by decide +kernel
theorem dX4_leastSets_49 : decode cX4_leastSets 49 = .ok (.invokestatic 31, 3) := by decide +kernel
theorem dX4_leastSets_52 : decode cX4_leastSets 52 = .ok (.ifCond .eq 28, 3) := by decide +kernel
theorem dX4_leastSets_55 : decode cX4_leastSets 55 = .ok (.iload 5, 2) := by decide +kernel
theorem dX4_leastSets_57 : decode cX4_leastSets 57 = .ok (.iload_n 3, 1) := by decide +kernel
theorem dX4_leastSets_58 : decode cX4_leastSets 58 = .ok (.if_icmp .ge 13, 3) := by decide +kernel
theorem dX4_leastSets_61 : decode cX4_leastSets 61 = .ok (.aload_n 0, 1) := by decide +kernel
theorem dX4_leastSets_62 : decode cX4_leastSets 62 = .ok (.getfield 12, 3) := by decide +kernel
theorem dX4_leastSets_65 : decode cX4_leastSets 65 = .ok (.invokevirtual 18, 3) := by decide +kernel
theorem dX4_leastSets_68 : decode cX4_leastSets 68 = .ok (.iload 5, 2) := by decide +kernel
theorem dX4_leastSets_70 : decode cX4_leastSets 70 = .ok (.istore_n 3, 1) := by decide +kernel
theorem dX4_leastSets_71 : decode cX4_leastSets 71 = .ok (.aload_n 0, 1) := by decide +kernel
theorem dX4_leastSets_72 : decode cX4_leastSets 72 = .ok (.getfield 12, 3) := by decide +kernel
theorem dX4_leastSets_75 : decode cX4_leastSets 75 = .ok (.iload 4, 2) := by decide +kernel
theorem dX4_leastSets_77 : decode cX4_leastSets 77 = .ok (.invokevirtual 35, 3) := by decide +kernel
theorem dX4_leastSets_80 : decode cX4_leastSets 80 = .ok (.iinc 4 1, 3) := by decide +kernel
theorem dX4_leastSets_83 : decode cX4_leastSets 83 = .ok (.goto (-65), 3) := by decide +kernel
theorem dX4_leastSets_86 : decode cX4_leastSets 86 = .ok (.aload_n 0, 1) := by decide +kernel
theorem dX4_leastSets_87 : decode cX4_leastSets 87 = .ok (.getfield 12, 3) := by decide +kernel
theorem dX4_leastSets_90 : decode cX4_leastSets 90 = .ok (.areturn, 1) := by decide +kernel
theorem dX4_linesOfNoGoodWay_0 : decode cX4_linesOfNoGoodWay 0 = .ok (.iconst 1, 1) := by decide +kernel
theorem dX4_linesOfNoGoodWay_1 : decode cX4_linesOfNoGoodWay 1 = .ok (.aload_n 0, 1) := by decide +kernel
theorem dX4_linesOfNoGoodWay_2 : decode cX4_linesOfNoGoodWay 2 = .ok (.getfield 39, 3) := by decide +kernel
theorem dX4_linesOfNoGoodWay_5 : decode cX4_linesOfNoGoodWay 5 = .ok (.ishl, 1) := by decide +kernel
theorem dX4_linesOfNoGoodWay_6 : decode cX4_linesOfNoGoodWay 6 = .ok (.iconst 1, 1) := by decide +kernel
theorem dX4_linesOfNoGoodWay_7 : decode cX4_linesOfNoGoodWay 7 = .ok (.isub, 1) := by decide +kernel
theorem dX4_linesOfNoGoodWay_8 : decode cX4_linesOfNoGoodWay 8 = .ok (.istore_n 1, 1) := by decide +kernel
theorem dX4_linesOfNoGoodWay_9 : decode cX4_linesOfNoGoodWay 9 = .ok (.iconst 0, 1) := by decide +kernel
theorem dX4_linesOfNoGoodWay_10 : decode cX4_linesOfNoGoodWay 10 = .ok (.istore_n 2, 1) := by decide +kernel
theorem dX4_linesOfNoGoodWay_11 : decode cX4_linesOfNoGoodWay 11 = .ok (.iload_n 2, 1) := by decide +kernel
theorem dX4_linesOfNoGoodWay_12 : decode cX4_linesOfNoGoodWay 12 = .ok (.aload_n 0, 1) := by decide +kernel
theorem dX4_linesOfNoGoodWay_13 : decode cX4_linesOfNoGoodWay 13 = .ok (.getfield 45, 3) := by decide +kernel
theorem dX4_linesOfNoGoodWay_16 : decode cX4_linesOfNoGoodWay 16 = .ok (.if_icmp .ge 39, 3) := by decide +kernel
theorem dX4_linesOfNoGoodWay_19 : decode cX4_linesOfNoGoodWay 19 = .ok (.aload_n 0, 1) := by decide +kernel
theorem dX4_linesOfNoGoodWay_20 : decode cX4_linesOfNoGoodWay 20 = .ok (.iload_n 2, 1) := by decide +kernel
theorem dX4_linesOfNoGoodWay_21 : decode cX4_linesOfNoGoodWay 21 = .ok (.invokevirtual 48, 3) := by decide +kernel
theorem dX4_linesOfNoGoodWay_24 : decode cX4_linesOfNoGoodWay 24 = .ok (.ifCond .eq 25, 3) := by decide +kernel
theorem dX4_linesOfNoGoodWay_27 : decode cX4_linesOfNoGoodWay 27 = .ok (.aload_n 0, 1) := by decide +kernel
theorem dX4_linesOfNoGoodWay_28 : decode cX4_linesOfNoGoodWay 28 = .ok (.getfield 52, 3) := by decide +kernel
theorem dX4_linesOfNoGoodWay_31 : decode cX4_linesOfNoGoodWay 31 = .ok (.iload_n 2, 1) := by decide +kernel
theorem dX4_linesOfNoGoodWay_32 : decode cX4_linesOfNoGoodWay 32 = .ok (.invokestatic 55, 3) := by decide +kernel
theorem dX4_linesOfNoGoodWay_35 : decode cX4_linesOfNoGoodWay 35 = .ok (.ifCond .ne 14, 3) := by decide +kernel
theorem dX4_linesOfNoGoodWay_38 : decode cX4_linesOfNoGoodWay 38 = .ok (.iload_n 1, 1) := by decide +kernel
theorem dX4_linesOfNoGoodWay_39 : decode cX4_linesOfNoGoodWay 39 = .ok (.aload_n 0, 1) := by decide +kernel
theorem dX4_linesOfNoGoodWay_40 : decode cX4_linesOfNoGoodWay 40 = .ok (.getfield 59, 3) := by decide +kernel
theorem dX4_linesOfNoGoodWay_43 : decode cX4_linesOfNoGoodWay 43 = .ok (.iload_n 2, 1) := by decide +kernel
theorem dX4_linesOfNoGoodWay_44 : decode cX4_linesOfNoGoodWay 44 = .ok (.iaload, 1) := by decide +kernel
theorem dX4_linesOfNoGoodWay_45 : decode cX4_linesOfNoGoodWay 45 = .ok (.iconst (-1), 1) := by decide +kernel
theorem dX4_linesOfNoGoodWay_46 : decode cX4_linesOfNoGoodWay 46 = .ok (.ixor, 1) := by decide +kernel
theorem dX4_linesOfNoGoodWay_47 : decode cX4_linesOfNoGoodWay 47 = .ok (.iand, 1) := by decide +kernel
theorem dX4_linesOfNoGoodWay_48 : decode cX4_linesOfNoGoodWay 48 = .ok (.istore_n 1, 1) := by decide +kernel
theorem dX4_linesOfNoGoodWay_49 : decode cX4_linesOfNoGoodWay 49 = .ok (.iinc 2 1, 3) := by decide +kernel
theorem dX4_linesOfNoGoodWay_52 : decode cX4_linesOfNoGoodWay 52 = .ok (.goto (-41), 3) := by decide +kernel
theorem dX4_linesOfNoGoodWay_55 : decode cX4_linesOfNoGoodWay 55 = .ok (.iload_n 1, 1) := by decide +kernel
theorem dX4_linesOfNoGoodWay_56 : decode cX4_linesOfNoGoodWay 56 = .ok (.ireturn, 1) := by decide +kernel
theorem dX4_meetsAllBadWays_0 : decode cX4_meetsAllBadWays 0 = .ok (.iconst 0, 1) := by decide +kernel
theorem dX4_meetsAllBadWays_1 : decode cX4_meetsAllBadWays 1 = .ok (.istore_n 2, 1) := by decide +kernel
theorem dX4_meetsAllBadWays_2 : decode cX4_meetsAllBadWays 2 = .ok (.iload_n 2, 1) := by decide +kernel
theorem dX4_meetsAllBadWays_3 : decode cX4_meetsAllBadWays 3 = .ok (.aload_n 0, 1) := by decide +kernel
theorem dX4_meetsAllBadWays_4 : decode cX4_meetsAllBadWays 4 = .ok (.getfield 45, 3) := by decide +kernel
theorem dX4_meetsAllBadWays_7 : decode cX4_meetsAllBadWays 7 = .ok (.if_icmp .ge 52, 3) := by decide +kernel
theorem dX4_meetsAllBadWays_10 : decode cX4_meetsAllBadWays 10 = .ok (.aload_n 0, 1) := by decide +kernel
theorem dX4_meetsAllBadWays_11 : decode cX4_meetsAllBadWays 11 = .ok (.iload_n 2, 1) := by decide +kernel
theorem dX4_meetsAllBadWays_12 : decode cX4_meetsAllBadWays 12 = .ok (.invokevirtual 48, 3) := by decide +kernel
theorem dX4_meetsAllBadWays_15 : decode cX4_meetsAllBadWays 15 = .ok (.ifCond .eq 19, 3) := by decide +kernel
theorem dX4_meetsAllBadWays_18 : decode cX4_meetsAllBadWays 18 = .ok (.aload_n 0, 1) := by decide +kernel
theorem dX4_meetsAllBadWays_19 : decode cX4_meetsAllBadWays 19 = .ok (.getfield 52, 3) := by decide +kernel
theorem dX4_meetsAllBadWays_22 : decode cX4_meetsAllBadWays 22 = .ok (.iload_n 2, 1) := by decide +kernel
theorem dX4_meetsAllBadWays_23 : decode cX4_meetsAllBadWays 23 = .ok (.invokestatic 55, 3) := by decide +kernel
theorem dX4_meetsAllBadWays_26 : decode cX4_meetsAllBadWays 26 = .ok (.iconst 1, 1) := by decide +kernel
theorem dX4_meetsAllBadWays_27 : decode cX4_meetsAllBadWays 27 = .ok (.if_icmp .ne 7, 3) := by decide +kernel
theorem dX4_meetsAllBadWays_30 : decode cX4_meetsAllBadWays 30 = .ok (.iconst 1, 1) := by decide +kernel
theorem dX4_meetsAllBadWays_31 : decode cX4_meetsAllBadWays 31 = .ok (.goto 4, 3) := by decide +kernel
theorem dX4_meetsAllBadWays_34 : decode cX4_meetsAllBadWays 34 = .ok (.iconst 0, 1) := by decide +kernel
theorem dX4_meetsAllBadWays_35 : decode cX4_meetsAllBadWays 35 = .ok (.istore_n 3, 1) := by decide +kernel
theorem dX4_meetsAllBadWays_36 : decode cX4_meetsAllBadWays 36 = .ok (.iload_n 3, 1) := by decide +kernel
theorem dX4_meetsAllBadWays_37 : decode cX4_meetsAllBadWays 37 = .ok (.ifCond .eq 16, 3) := by decide +kernel
theorem dX4_meetsAllBadWays_40 : decode cX4_meetsAllBadWays 40 = .ok (.aload_n 0, 1) := by decide +kernel
theorem dX4_meetsAllBadWays_41 : decode cX4_meetsAllBadWays 41 = .ok (.getfield 59, 3) := by decide +kernel
theorem dX4_meetsAllBadWays_44 : decode cX4_meetsAllBadWays 44 = .ok (.iload_n 2, 1) := by decide +kernel
theorem dX4_meetsAllBadWays_45 : decode cX4_meetsAllBadWays 45 = .ok (.iaload, 1) := by decide +kernel
theorem dX4_meetsAllBadWays_46 : decode cX4_meetsAllBadWays 46 = .ok (.iload_n 1, 1) := by decide +kernel
theorem dX4_meetsAllBadWays_47 : decode cX4_meetsAllBadWays 47 = .ok (.iand, 1) := by decide +kernel
theorem dX4_meetsAllBadWays_48 : decode cX4_meetsAllBadWays 48 = .ok (.ifCond .ne 5, 3) := by decide +kernel
theorem dX4_meetsAllBadWays_51 : decode cX4_meetsAllBadWays 51 = .ok (.iconst 0, 1) := by decide +kernel
theorem dX4_meetsAllBadWays_52 : decode cX4_meetsAllBadWays 52 = .ok (.ireturn, 1) := by decide +kernel
theorem dX4_meetsAllBadWays_53 : decode cX4_meetsAllBadWays 53 = .ok (.iinc 2 1, 3) := by decide +kernel
theorem dX4_meetsAllBadWays_56 : decode cX4_meetsAllBadWays 56 = .ok (.goto (-54), 3) := by decide +kernel
theorem dX4_meetsAllBadWays_59 : decode cX4_meetsAllBadWays 59 = .ok (.iconst 1, 1) := by decide +kernel
theorem dX4_meetsAllBadWays_60 : decode cX4_meetsAllBadWays 60 = .ok (.ireturn, 1) := by decide +kernel
