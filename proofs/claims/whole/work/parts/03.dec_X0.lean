theorem dX0_init_0 : decode cX0_init 0 = .ok (.aload_n 0, 1) := by decide +kernel
theorem dX0_init_1 : decode cX0_init 1 = .ok (.invokespecial 3, 3) := by decide +kernel
theorem dX0_init_4 : decode cX0_init 4 = .ok (.aload_n 0, 1) := by decide +kernel
theorem dX0_init_5 : decode cX0_init 5 = .ok (.sipush 210, 3) := by decide +kernel
theorem dX0_init_8 : decode cX0_init 8 = .ok (.newarray .long, 2) := by decide +kernel
theorem dX0_init_10 : decode cX0_init 10 = .ok (.putfield 9, 3) := by decide +kernel
theorem dX0_init_13 : decode cX0_init 13 = .ok (.aload_n 0, 1) := by decide +kernel
theorem dX0_init_14 : decode cX0_init 14 = .ok (.bipush 10, 2) := by decide +kernel
theorem dX0_init_16 : decode cX0_init 16 = .ok (.newarray .int, 2) := by decide +kernel
theorem dX0_init_18 : decode cX0_init 18 = .ok (.putfield 15, 3) := by decide +kernel
theorem dX0_init_21 : decode cX0_init 21 = .ok (.aload_n 0, 1) := by decide +kernel
theorem dX0_init_22 : decode cX0_init 22 = .ok (.bipush 10, 2) := by decide +kernel
theorem dX0_init_24 : decode cX0_init 24 = .ok (.newarray .int, 2) := by decide +kernel
theorem dX0_init_26 : decode cX0_init 26 = .ok (.putfield 19, 3) := by decide +kernel
theorem dX0_init_29 : decode cX0_init 29 = .ok (.aload_n 0, 1) := by decide +kernel
theorem dX0_init_30 : decode cX0_init 30 = .ok (.bipush 10, 2) := by decide +kernel
theorem dX0_init_32 : decode cX0_init 32 = .ok (.newarray .int, 2) := by decide +kernel
theorem dX0_init_34 : decode cX0_init 34 = .ok (.putfield 22, 3) := by decide +kernel
theorem dX0_init_37 : decode cX0_init 37 = .ok (.aload_n 0, 1) := by decide +kernel
theorem dX0_init_38 : decode cX0_init 38 = .ok (.lconst 1, 1) := by decide +kernel
theorem dX0_init_39 : decode cX0_init 39 = .ok (.putfield 25, 3) := by decide +kernel
theorem dX0_init_42 : decode cX0_init 42 = .ok (.aload_n 0, 1) := by decide +kernel
theorem dX0_init_43 : decode cX0_init 43 = .ok (.iconst (-1), 1) := by decide +kernel
theorem dX0_init_44 : decode cX0_init 44 = .ok (.putfield 29, 3) := by decide +kernel
theorem dX0_init_47 : decode cX0_init 47 = .ok (.return_, 1) := by decide +kernel
theorem dX0_forget_0 : decode cX0_forget 0 = .ok (.aload_n 0, 1) := by decide +kernel
theorem dX0_forget_1 : decode cX0_forget 1 = .ok (.iconst (-1), 1) := by decide +kernel
theorem dX0_forget_2 : decode cX0_forget 2 = .ok (.putfield 29, 3) := by decide +kernel
theorem dX0_forget_5 : decode cX0_forget 5 = .ok (.return_, 1) := by decide +kernel
theorem dX0_solve_0 : decode cX0_solve 0 = .ok (.iload_n 2, 1) := by decide +kernel
theorem dX0_solve_1 : decode cX0_solve 1 = .ok (.aload_n 0, 1) := by decide +kernel
theorem dX0_solve_2 : decode cX0_solve 2 = .ok (.getfield 29, 3) := by decide +kernel
theorem dX0_solve_5 : decode cX0_solve 5 = .ok (.if_icmp .ne 8, 3) := by decide +kernel
theorem dX0_solve_8 : decode cX0_solve 8 = .ok (.aload_n 0, 1) := by decide +kernel
theorem dX0_solve_9 : decode cX0_solve 9 = .ok (.getfield 33, 3) := by decide +kernel
theorem dX0_solve_12 : decode cX0_solve 12 = .ok (.ireturn, 1) := by decide +kernel
theorem dX0_solve_13 : decode cX0_solve 13 = .ok (.aload_n 0, 1) := by decide +kernel
theorem dX0_solve_14 : decode cX0_solve 14 = .ok (.aload_n 1, 1) := by decide +kernel
theorem dX0_solve_15 : decode cX0_solve 15 = .ok (.iload_n 2, 1) := by decide +kernel
theorem dX0_solve_16 : decode cX0_solve 16 = .ok (.invokevirtual 37, 3) := by decide +kernel
theorem dX0_solve_19 : decode cX0_solve 19 = .ok (.aload_n 0, 1) := by decide +kernel
theorem dX0_solve_20 : decode cX0_solve 20 = .ok (.iconst 0, 1) := by decide +kernel
theorem dX0_solve_21 : decode cX0_solve 21 = .ok (.iconst 0, 1) := by decide +kernel
theorem dX0_solve_22 : decode cX0_solve 22 = .ok (.iconst 1, 1) := by decide +kernel
theorem dX0_solve_23 : decode cX0_solve 23 = .ok (.invokevirtual 41, 3) := by decide +kernel
theorem dX0_solve_26 : decode cX0_solve 26 = .ok (.aload_n 0, 1) := by decide +kernel
theorem dX0_solve_27 : decode cX0_solve 27 = .ok (.invokevirtual 45, 3) := by decide +kernel
theorem dX0_solve_30 : decode cX0_solve 30 = .ok (.aload_n 0, 1) := by decide +kernel
theorem dX0_solve_31 : decode cX0_solve 31 = .ok (.aload_n 0, 1) := by decide +kernel
theorem dX0_solve_32 : decode cX0_solve 32 = .ok (.aload_n 0, 1) := by decide +kernel
theorem dX0_solve_33 : decode cX0_solve 33 = .ok (.getfield 48, 3) := by decide +kernel
theorem dX0_solve_36 : decode cX0_solve 36 = .ok (.iconst 1, 1) := by decide +kernel
theorem dX0_solve_37 : decode cX0_solve 37 = .ok (.isub, 1) := by decide +kernel
theorem dX0_solve_38 : decode cX0_solve 38 = .ok (.invokevirtual 51, 3) := by decide +kernel
theorem dX0_solve_41 : decode cX0_solve 41 = .ok (.lconst 0, 1) := by decide +kernel
theorem dX0_solve_42 : decode cX0_solve 42 = .ok (.lcmp, 1) := by decide +kernel
theorem dX0_solve_43 : decode cX0_solve 43 = .ok (.ifCond .ne 7, 3) := by decide +kernel
theorem dX0_solve_46 : decode cX0_solve 46 = .ok (.iconst 1, 1) := by decide +kernel
theorem dX0_solve_47 : decode cX0_solve 47 = .ok (.goto 4, 3) := by decide +kernel
theorem dX0_solve_50 : decode cX0_solve 50 = .ok (.iconst 0, 1) := by decide +kernel
theorem dX0_solve_51 : decode cX0_solve 51 = .ok (.putfield 33, 3) := by decide +kernel
theorem dX0_solve_54 : decode cX0_solve 54 = .ok (.aload_n 0, 1) := by decide +kernel
theorem dX0_solve_55 : decode cX0_solve 55 = .ok (.getfield 33, 3) := by decide +kernel
theorem dX0_solve_58 : decode cX0_solve 58 = .ok (.ifCond .eq 10, 3) := by decide +kernel
theorem dX0_solve_61 : decode cX0_solve 61 = .ok (.aload_n 0, 1) := by decide +kernel
theorem dX0_solve_62 : decode cX0_solve 62 = .ok (.invokevirtual 55, 3) := by decide +kernel
theorem dX0_solve_65 : decode cX0_solve 65 = .ok (.goto 11, 3) := by decide +kernel
theorem dX0_solve_68 : decode cX0_solve 68 = .ok (.aload_n 0, 1) := by decide +kernel
theorem dX0_solve_69 : decode cX0_solve 69 = .ok (.aload_n 0, 1) := by decide +kernel
theorem dX0_solve_70 : decode cX0_solve 70 = .ok (.invokevirtual 58, 3) := by decide +kernel
theorem dX0_solve_73 : decode cX0_solve 73 = .ok (.putfield 62, 3) := by decide +kernel
theorem dX0_solve_76 : decode cX0_solve 76 = .ok (.aload_n 0, 1) := by decide +kernel
theorem dX0_solve_77 : decode cX0_solve 77 = .ok (.iload_n 2, 1) := by decide +kernel
theorem dX0_solve_78 : decode cX0_solve 78 = .ok (.putfield 29, 3) := by decide +kernel
theorem dX0_solve_81 : decode cX0_solve 81 = .ok (.aload_n 0, 1) := by decide +kernel
theorem dX0_solve_82 : decode cX0_solve 82 = .ok (.getfield 33, 3) := by decide +kernel
theorem dX0_solve_85 : decode cX0_solve 85 = .ok (.ireturn, 1) := by decide +kernel
theorem dX0_goToEnd_0 : decode cX0_goToEnd 0 = .ok (.aload_n 0, 1) := by decide +kernel
theorem dX0_goToEnd_1 : decode cX0_goToEnd 1 = .ok (.iconst 0, 1) := by decide +kernel
theorem dX0_goToEnd_2 : decode cX0_goToEnd 2 = .ok (.putfield 65, 3) := by decide +kernel
theorem dX0_goToEnd_5 : decode cX0_goToEnd 5 = .ok (.aload_n 0, 1) := by decide +kernel
theorem dX0_goToEnd_6 : decode cX0_goToEnd 6 = .ok (.iload_n 1, 1) := by decide +kernel
theorem dX0_goToEnd_7 : decode cX0_goToEnd 7 = .ok (.iload_n 2, 1) := by decide +kernel
theorem dX0_goToEnd_8 : decode cX0_goToEnd 8 = .ok (.ifCond .ne 7, 3) := by decide +kernel
theorem dX0_goToEnd_11 : decode cX0_goToEnd 11 = .ok (.iconst 1, 1) := by decide +kernel
theorem dX0_goToEnd_12 : decode cX0_goToEnd 12 = .ok (.goto 4, 3) := by decide +kernel
theorem dX0_goToEnd_15 : decode cX0_goToEnd 15 = .ok (.iconst (-1), 1) := by decide +kernel
theorem dX0_goToEnd_16 : decode cX0_goToEnd 16 = .ok (.iconst 0, 1) := by decide +kernel
theorem dX0_goToEnd_17 : decode cX0_goToEnd 17 = .ok (.invokevirtual 41, 3) := by decide +kernel
theorem dX0_goToEnd_20 : decode cX0_goToEnd 20 = .ok (.aload_n 0, 1) := by decide +kernel
theorem dX0_goToEnd_21 : decode cX0_goToEnd 21 = .ok (.invokevirtual 45, 3) := by decide +kernel
theorem dX0_goToEnd_24 : decode cX0_goToEnd 24 = .ok (.return_, 1) := by decide +kernel
theorem dX0_leastInTurnUpTo_0 : decode cX0_leastInTurnUpTo 0 = .ok (.iconst 0, 1) := by decide +kernel
theorem dX0_leastInTurnUpTo_1 : decode cX0_leastInTurnUpTo 1 = .ok (.istore_n 2, 1) := by decide +kernel
theorem dX0_leastInTurnUpTo_2 : decode cX0_leastInTurnUpTo 2 = .ok (.iload_n 2, 1) := by decide +kernel
theorem dX0_leastInTurnUpTo_3 : decode cX0_leastInTurnUpTo 3 = .ok (.iload_n 1, 1) := by decide +kernel
theorem dX0_leastInTurnUpTo_4 : decode cX0_leastInTurnUpTo 4 = .ok (.if_icmp .gt 34, 3) := by decide +kernel
theorem dX0_leastInTurnUpTo_7 : decode cX0_leastInTurnUpTo 7 = .ok (.iload_n 2, 1) := by decide +kernel
theorem dX0_leastInTurnUpTo_8 : decode cX0_leastInTurnUpTo 8 = .ok (.aload_n 0, 1) := by decide +kernel
theorem dX0_leastInTurnUpTo_9 : decode cX0_leastInTurnUpTo 9 = .ok (.getfield 68, 3) := by decide +kernel
theorem dX0_leastInTurnUpTo_12 : decode cX0_leastInTurnUpTo 12 = .ok (.if_icmp .ge 26, 3) := by decide +kernel
theorem dX0_leastInTurnUpTo_15 : decode cX0_leastInTurnUpTo 15 = .ok (.aload_n 0, 1) := by decide +kernel
theorem dX0_leastInTurnUpTo_16 : decode cX0_leastInTurnUpTo 16 = .ok (.invokevirtual 71, 3) := by decide +kernel
theorem dX0_leastInTurnUpTo_19 : decode cX0_leastInTurnUpTo 19 = .ok (.aload_n 0, 1) := by decide +kernel
theorem dX0_leastInTurnUpTo_20 : decode cX0_leastInTurnUpTo 20 = .ok (.iconst 1, 1) := by decide +kernel
theorem dX0_leastInTurnUpTo_21 : decode cX0_leastInTurnUpTo 21 = .ok (.iload_n 2, 1) := by decide +kernel
theorem dX0_leastInTurnUpTo_22 : decode cX0_leastInTurnUpTo 22 = .ok (.ishl, 1) := by decide +kernel
theorem dX0_leastInTurnUpTo_23 : decode cX0_leastInTurnUpTo 23 = .ok (.iconst 1, 1) := by decide +kernel
theorem dX0_leastInTurnUpTo_24 : decode cX0_leastInTurnUpTo 24 = .ok (.iconst 0, 1) := by decide +kernel
theorem dX0_leastInTurnUpTo_25 : decode cX0_leastInTurnUpTo 25 = .ok (.invokevirtual 41, 3) := by decide +kernel
theorem dX0_leastInTurnUpTo_28 : decode cX0_leastInTurnUpTo 28 = .ok (.aload_n 0, 1) := by decide +kernel
theorem dX0_leastInTurnUpTo_29 : decode cX0_leastInTurnUpTo 29 = .ok (.invokevirtual 45, 3) := by decide +kernel
theorem dX0_leastInTurnUpTo_32 : decode cX0_leastInTurnUpTo 32 = .ok (.iinc 2 1, 3) := by decide +kernel
theorem dX0_leastInTurnUpTo_35 : decode cX0_leastInTurnUpTo 35 = .ok (.goto (-33), 3) := by decide +kernel
theorem dX0_leastInTurnUpTo_38 : decode cX0_leastInTurnUpTo 38 = .ok (.return_, 1) := by decide +kernel
theorem dX0_upperOf_0 : decode cX0_upperOf 0 = .ok (.lconst 0, 1) := by decide +kernel
theorem dX0_upperOf_1 : decode cX0_upperOf 1 = .ok (.lstore_n 2, 1) := by decide +kernel
theorem dX0_upperOf_2 : decode cX0_upperOf 2 = .ok (.iconst 0, 1) := by decide +kernel
theorem dX0_upperOf_3 : decode cX0_upperOf 3 = .ok (.istore 4, 2) := by decide +kernel
theorem dX0_upperOf_5 : decode cX0_upperOf 5 = .ok (.iload 4, 2) := by decide +kernel
theorem dX0_upperOf_7 : decode cX0_upperOf 7 = .ok (.aload_n 0, 1) := by decide +kernel
theorem dX0_upperOf_8 : decode cX0_upperOf 8 = .ok (.getfield 74, 3) := by decide +kernel
theorem dX0_upperOf_11 : decode cX0_upperOf 11 = .ok (.if_icmp .ge 56, 3) := by decide +kernel
theorem dX0_upperOf_14 : decode cX0_upperOf 14 = .ok (.aload_n 0, 1) := by decide +kernel
theorem dX0_upperOf_15 : decode cX0_upperOf 15 = .ok (.getfield 15, 3) := by decide +kernel
theorem dX0_upperOf_18 : decode cX0_upperOf 18 = .ok (.iload 4, 2) := by decide +kernel
theorem dX0_upperOf_20 : decode cX0_upperOf 20 = .ok (.iaload, 1) := by decide +kernel
theorem dX0_upperOf_21 : decode cX0_upperOf 21 = .ok (.ifCond .lt 40, 3) := by decide +kernel
theorem dX0_upperOf_24 : decode cX0_upperOf 24 = .ok (.iload_n 1, 1) := by decide +kernel
theorem dX0_upperOf_25 : decode cX0_upperOf 25 = .ok (.aload_n 0, 1) := by decide +kernel
theorem dX0_upperOf_26 : decode cX0_upperOf 26 = .ok (.getfield 15, 3) := by decide +kernel
theorem dX0_upperOf_29 : decode cX0_upperOf 29 = .ok (.iload 4, 2) := by decide +kernel
theorem dX0_upperOf_31 : decode cX0_upperOf 31 = .ok (.iaload, 1) := by decide +kernel
theorem dX0_upperOf_32 : decode cX0_upperOf 32 = .ok (.invokestatic 77, 3) := by decide +kernel
theorem dX0_upperOf_35 : decode cX0_upperOf 35 = .ok (.iconst 1, 1) := by decide +kernel
theorem dX0_upperOf_36 : decode cX0_upperOf 36 = .ok (.if_icmp .ne 25, 3) := by decide +kernel
theorem dX0_upperOf_39 : decode cX0_upperOf 39 = .ok (.lload_n 2, 1) := by decide +kernel
theorem dX0_upperOf_40 : decode cX0_upperOf 40 = .ok (.aload_n 0, 1) := by decide +kernel
theorem dX0_upperOf_41 : decode cX0_upperOf 41 = .ok (.getfield 9, 3) := by decide +kernel
theorem dX0_upperOf_44 : decode cX0_upperOf 44 = .ok (.iload 4, 2) := by decide +kernel
theorem dX0_upperOf_46 : decode cX0_upperOf 46 = .ok (.aload_n 0, 1) := by decide +kernel
theorem dX0_upperOf_47 : decode cX0_upperOf 47 = .ok (.getfield 48, 3) := by decide +kernel
theorem dX0_upperOf_50 : decode cX0_upperOf 50 = .ok (.imul, 1) := by decide +kernel
theorem dX0_upperOf_51 : decode cX0_upperOf 51 = .ok (.aload_n 0, 1) := by decide +kernel
theorem dX0_upperOf_52 : decode cX0_upperOf 52 = .ok (.getfield 48, 3) := by decide +kernel
theorem dX0_upperOf_55 : decode cX0_upperOf 55 = .ok (.iadd, 1) := by decide +kernel
theorem dX0_upperOf_56 : decode cX0_upperOf 56 = .ok (.iconst 1, 1) := by decide +kernel
theorem dX0_upperOf_57 : decode cX0_upperOf 57 = .ok (.isub, 1) := by decide +kernel
theorem dX0_upperOf_58 : decode cX0_upperOf 58 = .ok (.laload, 1) := by decide +kernel
theorem dX0_upperOf_59 : decode cX0_upperOf 59 = .ok (.ladd, 1) := by decide +kernel
theorem dX0_upperOf_60 : decode cX0_upperOf 60 = .ok (.lstore_n 2, 1) := by decide +kernel
theorem dX0_upperOf_61 : decode cX0_upperOf 61 = .ok (.iinc 4 1, 3) := by decide +kernel
theorem dX0_upperOf_64 : decode cX0_upperOf 64 = .ok (.goto (-59), 3) := by decide +kernel
theorem dX0_upperOf_67 : decode cX0_upperOf 67 = .ok (.lload_n 2, 1) := by decide +kernel
theorem dX0_upperOf_68 : decode cX0_upperOf 68 = .ok (.lreturn, 1) := by decide +kernel
theorem dX0_load_0 : decode cX0_load 0 = .ok (.aload_n 0, 1) := by decide +kernel
theorem dX0_load_1 : decode cX0_load 1 = .ok (.aload_n 1, 1) := by decide +kernel
theorem dX0_load_2 : decode cX0_load 2 = .ok (.getfield 81, 3) := by decide +kernel
theorem dX0_load_5 : decode cX0_load 5 = .ok (.putfield 68, 3) := by decide +kernel
theorem dX0_load_8 : decode cX0_load 8 = .ok (.aload_n 0, 1) := by decide +kernel
theorem dX0_load_9 : decode cX0_load 9 = .ok (.iload_n 2, 1) := by decide +kernel
theorem dX0_load_10 : decode cX0_load 10 = .ok (.invokestatic 84, 3) := by decide +kernel
theorem dX0_load_13 : decode cX0_load 13 = .ok (.putfield 74, 3) := by decide +kernel
theorem dX0_load_16 : decode cX0_load 16 = .ok (.aload_n 0, 1) := by decide +kernel
theorem dX0_load_17 : decode cX0_load 17 = .ok (.aload_n 0, 1) := by decide +kernel
theorem dX0_load_18 : decode cX0_load 18 = .ok (.getfield 68, 3) := by decide +kernel
theorem dX0_load_21 : decode cX0_load 21 = .ok (.aload_n 0, 1) := by decide +kernel
theorem dX0_load_22 : decode cX0_load 22 = .ok (.getfield 74, 3) := by decide +kernel
theorem dX0_load_25 : decode cX0_load 25 = .ok (.iadd, 1) := by decide +kernel
theorem dX0_load_26 : decode cX0_load 26 = .ok (.iconst 1, 1) := by decide +kernel
theorem dX0_load_27 : decode cX0_load 27 = .ok (.iadd, 1) := by decide +kernel
theorem dX0_load_28 : decode cX0_load 28 = .ok (.putfield 48, 3) := by decide +kernel
theorem dX0_load_31 : decode cX0_load 31 = .ok (.aload_n 0, 1) := by decide +kernel
theorem dX0_load_32 : decode cX0_load 32 = .ok (.lconst 1, 1) := by decide +kernel
theorem dX0_load_33 : decode cX0_load 33 = .ok (.putfield 25, 3) := by decide +kernel
theorem dX0_load_36 : decode cX0_load 36 = .ok (.aload_n 0, 1) := by decide +kernel
theorem dX0_load_37 : decode cX0_load 37 = .ok (.iconst 0, 1) := by decide +kernel
theorem dX0_load_38 : decode cX0_load 38 = .ok (.putfield 65, 3) := by decide +kernel
theorem dX0_load_41 : decode cX0_load 41 = .ok (.aload_n 0, 1) := by decide +kernel
theorem dX0_load_42 : decode cX0_load 42 = .ok (.getfield 9, 3) := by decide +kernel
theorem dX0_load_45 : decode cX0_load 45 = .ok (.lconst 0, 1) := by decide +kernel
theorem dX0_load_46 : decode cX0_load 46 = .ok (.invokestatic 90, 3) := by decide +kernel
theorem dX0_load_49 : decode cX0_load 49 = .ok (.iconst 0, 1) := by decide +kernel
theorem dX0_load_50 : decode cX0_load 50 = .ok (.istore_n 3, 1) := by decide +kernel
theorem dX0_load_51 : decode cX0_load 51 = .ok (.iconst 0, 1) := by decide +kernel
theorem dX0_load_52 : decode cX0_load 52 = .ok (.istore 4, 2) := by decide +kernel
theorem dX0_load_54 : decode cX0_load 54 = .ok (.iload 4, 2) := by decide +kernel
theorem dX0_load_56 : decode cX0_load 56 = .ok (.aload_n 1, 1) := by decide +kernel
theorem dX0_load_57 : decode cX0_load 57 = .ok (.getfield 96, 3) := by decide +kernel
theorem dX0_load_60 : decode cX0_load 60 = .ok (.if_icmp .ge 49, 3) := by decide +kernel
theorem dX0_load_63 : decode cX0_load 63 = .ok (.iload_n 2, 1) := by decide +kernel
theorem dX0_load_64 : decode cX0_load 64 = .ok (.iload 4, 2) := by decide +kernel
theorem dX0_load_66 : decode cX0_load 66 = .ok (.invokestatic 77, 3) := by decide +kernel
theorem dX0_load_69 : decode cX0_load 69 = .ok (.iconst 1, 1) := by decide +kernel
theorem dX0_load_70 : decode cX0_load 70 = .ok (.if_icmp .ne 33, 3) := by decide +kernel
theorem dX0_load_73 : decode cX0_load 73 = .ok (.aload_n 0, 1) := by decide +kernel
theorem dX0_load_74 : decode cX0_load 74 = .ok (.iload_n 3, 1) := by decide +kernel
theorem dX0_load_75 : decode cX0_load 75 = .ok (.aload_n 1, 1) := by decide +kernel
theorem dX0_load_76 : decode cX0_load 76 = .ok (.getfield 99, 3) := by decide +kernel
theorem dX0_load_79 : decode cX0_load 79 = .ok (.iload 4, 2) := by decide +kernel
theorem dX0_load_81 : decode cX0_load 81 = .ok (.iaload, 1) := by decide +kernel
theorem dX0_load_82 : decode cX0_load 82 = .ok (.aload_n 1, 1) := by decide +kernel
theorem dX0_load_83 : decode cX0_load 83 = .ok (.getfield 102, 3) := by decide +kernel
theorem dX0_load_86 : decode cX0_load 86 = .ok (.iload 4, 2) := by decide +kernel
theorem dX0_load_88 : decode cX0_load 88 = .ok (.iaload, 1) := by decide +kernel
theorem dX0_load_89 : decode cX0_load 89 = .ok (.invokevirtual 105, 3) := by decide +kernel
theorem dX0_load_92 : decode cX0_load 92 = .ok (.aload_n 0, 1) := by decide +kernel
theorem dX0_load_93 : decode cX0_load 93 = .ok (.getfield 19, 3) := by decide +kernel
theorem dX0_load_96 : decode cX0_load 96 = .ok (.iload_n 3, 1) := by decide +kernel
theorem dX0_load_97 : decode cX0_load 97 = .ok (.iload 4, 2) := by decide +kernel
theorem dX0_load_99 : decode cX0_load 99 = .ok (.iastore, 1) := by decide +kernel
theorem dX0_load_100 : decode cX0_load 100 = .ok (.iinc 3 1, 3) := by decide +kernel
theorem dX0_load_103 : decode cX0_load 103 = .ok (.iinc 4 1, 3) := by decide +kernel
theorem dX0_load_106 : decode cX0_load 106 = .ok (.goto (-52), 3) := by decide +kernel
theorem dX0_load_109 : decode cX0_load 109 = .ok (.return_, 1) := by decide +kernel
theorem dX0_loadRow_0 : decode cX0_loadRow 0 = .ok (.iload_n 1, 1) := by decide +kernel
theorem dX0_loadRow_1 : decode cX0_loadRow 1 = .ok (.aload_n 0, 1) := by decide +kernel
theorem dX0_loadRow_2 : decode cX0_loadRow 2 = .ok (.getfield 48, 3) := by decide +kernel
theorem dX0_loadRow_5 : decode cX0_loadRow 5 = .ok (.imul, 1) := by decide +kernel
theorem dX0_loadRow_6 : decode cX0_loadRow 6 = .ok (.istore 4, 2) := by decide +kernel
theorem dX0_loadRow_8 : decode cX0_loadRow 8 = .ok (.iconst 0, 1) := by decide +kernel
theorem dX0_loadRow_9 : decode cX0_loadRow 9 = .ok (.istore 5, 2) := by decide +kernel
theorem dX0_loadRow_11 : decode cX0_loadRow 11 = .ok (.iload 5, 2) := by decide +kernel
theorem dX0_loadRow_13 : decode cX0_loadRow 13 = .ok (.aload_n 0, 1) := by decide +kernel
theorem dX0_loadRow_14 : decode cX0_loadRow 14 = .ok (.getfield 68, 3) := by decide +kernel
theorem dX0_loadRow_17 : decode cX0_loadRow 17 = .ok (.if_icmp .ge 26, 3) := by decide +kernel
theorem dX0_loadRow_20 : decode cX0_loadRow 20 = .ok (.aload_n 0, 1) := by decide +kernel
theorem dX0_loadRow_21 : decode cX0_loadRow 21 = .ok (.getfield 9, 3) := by decide +kernel
theorem dX0_loadRow_24 : decode cX0_loadRow 24 = .ok (.iload 4, 2) := by decide +kernel
theorem dX0_loadRow_26 : decode cX0_loadRow 26 = .ok (.iload 5, 2) := by decide +kernel
theorem dX0_loadRow_28 : decode cX0_loadRow 28 = .ok (.iadd, 1) := by decide +kernel
theorem dX0_loadRow_29 : decode cX0_loadRow 29 = .ok (.iload_n 2, 1) := by decide +kernel
theorem dX0_loadRow_30 : decode cX0_loadRow 30 = .ok (.iload 5, 2) := by decide +kernel
theorem dX0_loadRow_32 : decode cX0_loadRow 32 = .ok (.invokestatic 77, 3) := by decide +kernel
theorem dX0_loadRow_35 : decode cX0_loadRow 35 = .ok (.i2l, 1) := by decide +kernel
theorem dX0_loadRow_36 : decode cX0_loadRow 36 = .ok (.lastore, 1) := by decide +kernel
theorem dX0_loadRow_37 : decode cX0_loadRow 37 = .ok (.iinc 5 1, 3) := by decide +kernel
theorem dX0_loadRow_40 : decode cX0_loadRow 40 = .ok (.goto (-29), 3) := by decide +kernel
theorem dX0_loadRow_43 : decode cX0_loadRow 43 = .ok (.aload_n 0, 1) := by decide +kernel
theorem dX0_loadRow_44 : decode cX0_loadRow 44 = .ok (.getfield 9, 3) := by decide +kernel
theorem dX0_loadRow_47 : decode cX0_loadRow 47 = .ok (.iload 4, 2) := by decide +kernel
theorem dX0_loadRow_49 : decode cX0_loadRow 49 = .ok (.aload_n 0, 1) := by decide +kernel
theorem dX0_loadRow_50 : decode cX0_loadRow 50 = .ok (.getfield 68, 3) := by decide +kernel
theorem dX0_loadRow_53 : decode cX0_loadRow 53 = .ok (.iadd, 1) := by decide +kernel
theorem dX0_loadRow_54 : decode cX0_loadRow 54 = .ok (.iload_n 1, 1) := by decide +kernel
theorem dX0_loadRow_55 : decode cX0_loadRow 55 = .ok (.iadd, 1) := by decide +kernel
theorem dX0_loadRow_56 : decode cX0_loadRow 56 = .ok (.lconst 1, 1) := by decide +kernel
theorem dX0_loadRow_57 : decode cX0_loadRow 57 = .ok (.lastore, 1) := by decide +kernel
theorem dX0_loadRow_58 : decode cX0_loadRow 58 = .ok (.aload_n 0, 1) := by decide +kernel
theorem dX0_loadRow_59 : decode cX0_loadRow 59 = .ok (.getfield 9, 3) := by decide +kernel
theorem dX0_loadRow_62 : decode cX0_loadRow 62 = .ok (.iload 4, 2) := by decide +kernel
theorem dX0_loadRow_64 : decode cX0_loadRow 64 = .ok (.aload_n 0, 1) := by decide +kernel
theorem dX0_loadRow_65 : decode cX0_loadRow 65 = .ok (.getfield 48, 3) := by decide +kernel
theorem dX0_loadRow_68 : decode cX0_loadRow 68 = .ok (.iadd, 1) := by decide +kernel
theorem dX0_loadRow_69 : decode cX0_loadRow 69 = .ok (.iconst 1, 1) := by decide +kernel
theorem dX0_loadRow_70 : decode cX0_loadRow 70 = .ok (.isub, 1) := by decide +kernel
theorem dX0_loadRow_71 : decode cX0_loadRow 71 = .ok (.iload_n 3, 1) := by decide +kernel
theorem dX0_loadRow_72 : decode cX0_loadRow 72 = .ok (.i2l, 1) := by decide +kernel
theorem dX0_loadRow_73 : decode cX0_loadRow 73 = .ok (.lastore, 1) := by decide +kernel
theorem dX0_loadRow_74 : decode cX0_loadRow 74 = .ok (.aload_n 0, 1) := by decide +kernel
theorem dX0_loadRow_75 : decode cX0_loadRow 75 = .ok (.getfield 15, 3) := by decide +kernel
theorem dX0_loadRow_78 : decode cX0_loadRow 78 = .ok (.iload_n 1, 1) := by decide +kernel
theorem dX0_loadRow_79 : decode cX0_loadRow 79 = .ok (.iconst (-1), 1) := by decide +kernel
theorem dX0_loadRow_80 : decode cX0_loadRow 80 = .ok (.iastore, 1) := by decide +kernel
theorem dX0_loadRow_81 : decode cX0_loadRow 81 = .ok (.return_, 1) := by decide +kernel
theorem dX0_setGoal_0 : decode cX0_setGoal 0 = .ok (.iconst 0, 1) := by decide +kernel
theorem dX0_setGoal_1 : decode cX0_setGoal 1 = .ok (.istore 4, 2) := by decide +kernel
theorem dX0_setGoal_3 : decode cX0_setGoal 3 = .ok (.iload 4, 2) := by decide +kernel
theorem dX0_setGoal_5 : decode cX0_setGoal 5 = .ok (.aload_n 0, 1) := by decide +kernel
theorem dX0_setGoal_6 : decode cX0_setGoal 6 = .ok (.getfield 68, 3) := by decide +kernel
theorem dX0_setGoal_9 : decode cX0_setGoal 9 = .ok (.if_icmp .ge 31, 3) := by decide +kernel
theorem dX0_setGoal_12 : decode cX0_setGoal 12 = .ok (.aload_n 0, 1) := by decide +kernel
theorem dX0_setGoal_13 : decode cX0_setGoal 13 = .ok (.getfield 22, 3) := by decide +kernel
theorem dX0_setGoal_16 : decode cX0_setGoal 16 = .ok (.iload 4, 2) := by decide +kernel
theorem dX0_setGoal_18 : decode cX0_setGoal 18 = .ok (.iload_n 1, 1) := by decide +kernel
theorem dX0_setGoal_19 : decode cX0_setGoal 19 = .ok (.iload 4, 2) := by decide +kernel
theorem dX0_setGoal_21 : decode cX0_setGoal 21 = .ok (.invokestatic 77, 3) := by decide +kernel
theorem dX0_setGoal_24 : decode cX0_setGoal 24 = .ok (.iconst 1, 1) := by decide +kernel
theorem dX0_setGoal_25 : decode cX0_setGoal 25 = .ok (.if_icmp .ne 7, 3) := by decide +kernel
theorem dX0_setGoal_28 : decode cX0_setGoal 28 = .ok (.iload_n 2, 1) := by decide +kernel
theorem dX0_setGoal_29 : decode cX0_setGoal 29 = .ok (.goto 4, 3) := by decide +kernel
theorem dX0_setGoal_32 : decode cX0_setGoal 32 = .ok (.iconst 0, 1) := by decide +kernel
theorem dX0_setGoal_33 : decode cX0_setGoal 33 = .ok (.iastore, 1) := by decide +kernel
theorem dX0_setGoal_34 : decode cX0_setGoal 34 = .ok (.iinc 4 1, 3) := by decide +kernel
theorem dX0_setGoal_37 : decode cX0_setGoal 37 = .ok (.goto (-34), 3) := by decide +kernel
theorem dX0_setGoal_40 : decode cX0_setGoal 40 = .ok (.aload_n 0, 1) := by decide +kernel
theorem dX0_setGoal_41 : decode cX0_setGoal 41 = .ok (.iload_n 3, 1) := by decide +kernel
theorem dX0_setGoal_42 : decode cX0_setGoal 42 = .ok (.putfield 108, 3) := by decide +kernel
theorem dX0_setGoal_45 : decode cX0_setGoal 45 = .ok (.return_, 1) := by decide +kernel
theorem dX0_walkToLeast_0 : decode cX0_walkToLeast 0 = .ok (.iconst 0, 1) := by decide +kernel
theorem dX0_walkToLeast_1 : decode cX0_walkToLeast 1 = .ok (.istore_n 1, 1) := by decide +kernel
theorem dX0_walkToLeast_2 : decode cX0_walkToLeast 2 = .ok (.iload_n 1, 1) := by decide +kernel
theorem dX0_walkToLeast_3 : decode cX0_walkToLeast 3 = .ok (.ldc 111, 2) := by decide +kernel
theorem dX0_walkToLeast_5 : decode cX0_walkToLeast 5 = .ok (.if_icmp .ge 38, 3) := by decide +kernel
theorem dX0_walkToLeast_8 : decode cX0_walkToLeast 8 = .ok (.aload_n 0, 1) := by decide +kernel
theorem dX0_walkToLeast_9 : decode cX0_walkToLeast 9 = .ok (.invokevirtual 112, 3) := by decide +kernel
theorem dX0_walkToLeast_12 : decode cX0_walkToLeast 12 = .ok (.istore_n 2, 1) := by decide +kernel
theorem dX0_walkToLeast_13 : decode cX0_walkToLeast 13 = .ok (.iload_n 2, 1) := by decide +kernel
theorem dX0_walkToLeast_14 : decode cX0_walkToLeast 14 = .ok (.iconst (-1), 1) := by decide +kernel
theorem dX0_walkToLeast_15 : decode cX0_walkToLeast 15 = .ok (.if_icmp .ne 4, 3) := by decide +kernel
theorem dX0_walkToLeast_18 : decode cX0_walkToLeast 18 = .ok (.return_, 1) := by decide +kernel
theorem dX0_walkToLeast_19 : decode cX0_walkToLeast 19 = .ok (.aload_n 0, 1) := by decide +kernel
theorem dX0_walkToLeast_20 : decode cX0_walkToLeast 20 = .ok (.iload_n 2, 1) := by decide +kernel
theorem dX0_walkToLeast_21 : decode cX0_walkToLeast 21 = .ok (.invokevirtual 115, 3) := by decide +kernel
theorem dX0_walkToLeast_24 : decode cX0_walkToLeast 24 = .ok (.istore_n 3, 1) := by decide +kernel
theorem dX0_walkToLeast_25 : decode cX0_walkToLeast 25 = .ok (.iload_n 3, 1) := by decide +kernel
theorem dX0_walkToLeast_26 : decode cX0_walkToLeast 26 = .ok (.iconst (-1), 1) := by decide +kernel
theorem dX0_walkToLeast_27 : decode cX0_walkToLeast 27 = .ok (.if_icmp .ne 4, 3) := by decide +kernel
theorem dX0_walkToLeast_30 : decode cX0_walkToLeast 30 = .ok (.return_, 1) := by decide +kernel
theorem dX0_walkToLeast_31 : decode cX0_walkToLeast 31 = .ok (.aload_n 0, 1) := by decide +kernel
theorem dX0_walkToLeast_32 : decode cX0_walkToLeast 32 = .ok (.iload_n 3, 1) := by decide +kernel
theorem dX0_walkToLeast_33 : decode cX0_walkToLeast 33 = .ok (.iload_n 2, 1) := by decide +kernel
theorem dX0_walkToLeast_34 : decode cX0_walkToLeast 34 = .ok (.invokevirtual 118, 3) := by decide +kernel
theorem dX0_walkToLeast_37 : decode cX0_walkToLeast 37 = .ok (.iinc 1 1, 3) := by decide +kernel
theorem dX0_walkToLeast_40 : decode cX0_walkToLeast 40 = .ok (.goto (-38), 3) := by decide +kernel
theorem dX0_walkToLeast_43 : decode cX0_walkToLeast 43 = .ok (.return_, 1) := by decide +kernel
theorem dX0_firstLineThatHelps_0 : decode cX0_firstLineThatHelps 0 = .ok (.iconst 0, 1) := by decide +kernel
theorem dX0_firstLineThatHelps_1 : decode cX0_firstLineThatHelps 1 = .ok (.istore_n 1, 1) := by decide +kernel
theorem dX0_firstLineThatHelps_2 : decode cX0_firstLineThatHelps 2 = .ok (.iload_n 1, 1) := by decide +kernel
theorem dX0_firstLineThatHelps_3 : decode cX0_firstLineThatHelps 3 = .ok (.aload_n 0, 1) := by decide +kernel
theorem dX0_firstLineThatHelps_4 : decode cX0_firstLineThatHelps 4 = .ok (.getfield 68, 3) := by decide +kernel
theorem dX0_firstLineThatHelps_7 : decode cX0_firstLineThatHelps 7 = .ok (.if_icmp .ge 43, 3) := by decide +kernel
theorem dX0_firstLineThatHelps_10 : decode cX0_firstLineThatHelps 10 = .ok (.aload_n 0, 1) := by decide +kernel
theorem dX0_firstLineThatHelps_11 : decode cX0_firstLineThatHelps 11 = .ok (.getfield 65, 3) := by decide +kernel
theorem dX0_firstLineThatHelps_14 : decode cX0_firstLineThatHelps 14 = .ok (.iload_n 1, 1) := by decide +kernel
theorem dX0_firstLineThatHelps_15 : decode cX0_firstLineThatHelps 15 = .ok (.invokestatic 77, 3) := by decide +kernel
theorem dX0_firstLineThatHelps_18 : decode cX0_firstLineThatHelps 18 = .ok (.ifCond .ne 26, 3) := by decide +kernel
theorem dX0_firstLineThatHelps_21 : decode cX0_firstLineThatHelps 21 = .ok (.aload_n 0, 1) := by decide +kernel
theorem dX0_firstLineThatHelps_22 : decode cX0_firstLineThatHelps 22 = .ok (.getfield 25, 3) := by decide +kernel
theorem dX0_firstLineThatHelps_25 : decode cX0_firstLineThatHelps 25 = .ok (.aload_n 0, 1) := by decide +kernel
theorem dX0_firstLineThatHelps_26 : decode cX0_firstLineThatHelps 26 = .ok (.getfield 22, 3) := by decide +kernel
theorem dX0_firstLineThatHelps_29 : decode cX0_firstLineThatHelps 29 = .ok (.iload_n 1, 1) := by decide +kernel
theorem dX0_firstLineThatHelps_30 : decode cX0_firstLineThatHelps 30 = .ok (.iaload, 1) := by decide +kernel
theorem dX0_firstLineThatHelps_31 : decode cX0_firstLineThatHelps 31 = .ok (.i2l, 1) := by decide +kernel
theorem dX0_firstLineThatHelps_32 : decode cX0_firstLineThatHelps 32 = .ok (.lmul, 1) := by decide +kernel
theorem dX0_firstLineThatHelps_33 : decode cX0_firstLineThatHelps 33 = .ok (.aload_n 0, 1) := by decide +kernel
theorem dX0_firstLineThatHelps_34 : decode cX0_firstLineThatHelps 34 = .ok (.iload_n 1, 1) := by decide +kernel
theorem dX0_firstLineThatHelps_35 : decode cX0_firstLineThatHelps 35 = .ok (.invokevirtual 51, 3) := by decide +kernel
theorem dX0_firstLineThatHelps_38 : decode cX0_firstLineThatHelps 38 = .ok (.lcmp, 1) := by decide +kernel
theorem dX0_firstLineThatHelps_39 : decode cX0_firstLineThatHelps 39 = .ok (.ifCond .ge 5, 3) := by decide +kernel
theorem dX0_firstLineThatHelps_42 : decode cX0_firstLineThatHelps 42 = .ok (.iload_n 1, 1) := by decide +kernel
theorem dX0_firstLineThatHelps_43 : decode cX0_firstLineThatHelps 43 = .ok (.ireturn, 1) := by decide +kernel
theorem dX0_firstLineThatHelps_44 : decode cX0_firstLineThatHelps 44 = .ok (.iinc 1 1, 3) := by decide +kernel
theorem dX0_firstLineThatHelps_47 : decode cX0_firstLineThatHelps 47 = .ok (.goto (-45), 3) := by decide +kernel
theorem dX0_firstLineThatHelps_50 : decode cX0_firstLineThatHelps 50 = .ok (.iconst (-1), 1) := by decide +kernel
theorem dX0_firstLineThatHelps_51 : decode cX0_firstLineThatHelps 51 = .ok (.ireturn, 1) := by decide +kernel
theorem dX0_costOfColumn_0 : decode cX0_costOfColumn 0 = .ok (.lconst 0, 1) := by decide +kernel
theorem dX0_costOfColumn_1 : decode cX0_costOfColumn 1 = .ok (.lstore_n 2, 1) := by decide +kernel
theorem dX0_costOfColumn_2 : decode cX0_costOfColumn 2 = .ok (.iconst 0, 1) := by decide +kernel
theorem dX0_costOfColumn_3 : decode cX0_costOfColumn 3 = .ok (.istore 4, 2) := by decide +kernel
theorem dX0_costOfColumn_5 : decode cX0_costOfColumn 5 = .ok (.iload 4, 2) := by decide +kernel
theorem dX0_costOfColumn_7 : decode cX0_costOfColumn 7 = .ok (.aload_n 0, 1) := by decide +kernel
theorem dX0_costOfColumn_8 : decode cX0_costOfColumn 8 = .ok (.getfield 74, 3) := by decide +kernel
theorem dX0_costOfColumn_11 : decode cX0_costOfColumn 11 = .ok (.if_icmp .ge 61, 3) := by decide +kernel
theorem dX0_costOfColumn_14 : decode cX0_costOfColumn 14 = .ok (.aload_n 0, 1) := by decide +kernel
theorem dX0_costOfColumn_15 : decode cX0_costOfColumn 15 = .ok (.getfield 15, 3) := by decide +kernel
theorem dX0_costOfColumn_18 : decode cX0_costOfColumn 18 = .ok (.iload 4, 2) := by decide +kernel
theorem dX0_costOfColumn_20 : decode cX0_costOfColumn 20 = .ok (.iaload, 1) := by decide +kernel
theorem dX0_costOfColumn_21 : decode cX0_costOfColumn 21 = .ok (.ifCond .ge 10, 3) := by decide +kernel
theorem dX0_costOfColumn_24 : decode cX0_costOfColumn 24 = .ok (.aload_n 0, 1) := by decide +kernel
theorem dX0_costOfColumn_25 : decode cX0_costOfColumn 25 = .ok (.getfield 108, 3) := by decide +kernel
theorem dX0_costOfColumn_28 : decode cX0_costOfColumn 28 = .ok (.goto 15, 3) := by decide +kernel
theorem dX0_costOfColumn_31 : decode cX0_costOfColumn 31 = .ok (.aload_n 0, 1) := by decide +kernel
theorem dX0_costOfColumn_32 : decode cX0_costOfColumn 32 = .ok (.getfield 22, 3) := by decide +kernel
theorem dX0_costOfColumn_35 : decode cX0_costOfColumn 35 = .ok (.aload_n 0, 1) := by decide +kernel
theorem dX0_costOfColumn_36 : decode cX0_costOfColumn 36 = .ok (.getfield 15, 3) := by decide +kernel
theorem dX0_costOfColumn_39 : decode cX0_costOfColumn 39 = .ok (.iload 4, 2) := by decide +kernel
theorem dX0_costOfColumn_41 : decode cX0_costOfColumn 41 = .ok (.iaload, 1) := by decide +kernel
theorem dX0_costOfColumn_42 : decode cX0_costOfColumn 42 = .ok (.iaload, 1) := by decide +kernel
theorem dX0_costOfColumn_43 : decode cX0_costOfColumn 43 = .ok (.istore 5, 2) := by decide +kernel
theorem dX0_costOfColumn_45 : decode cX0_costOfColumn 45 = .ok (.lload_n 2, 1) := by decide +kernel
theorem dX0_costOfColumn_46 : decode cX0_costOfColumn 46 = .ok (.iload 5, 2) := by decide +kernel
theorem dX0_costOfColumn_48 : decode cX0_costOfColumn 48 = .ok (.i2l, 1) := by decide +kernel
theorem dX0_costOfColumn_49 : decode cX0_costOfColumn 49 = .ok (.aload_n 0, 1) := by decide +kernel
theorem dX0_costOfColumn_50 : decode cX0_costOfColumn 50 = .ok (.getfield 9, 3) := by decide +kernel
theorem dX0_costOfColumn_53 : decode cX0_costOfColumn 53 = .ok (.iload 4, 2) := by decide +kernel
theorem dX0_costOfColumn_55 : decode cX0_costOfColumn 55 = .ok (.aload_n 0, 1) := by decide +kernel
theorem dX0_costOfColumn_56 : decode cX0_costOfColumn 56 = .ok (.getfield 48, 3) := by decide +kernel
theorem dX0_costOfColumn_59 : decode cX0_costOfColumn 59 = .ok (.imul, 1) := by decide +kernel
theorem dX0_costOfColumn_60 : decode cX0_costOfColumn 60 = .ok (.iload_n 1, 1) := by decide +kernel
theorem dX0_costOfColumn_61 : decode cX0_costOfColumn 61 = .ok (.iadd, 1) := by decide +kernel
theorem dX0_costOfColumn_62 : decode cX0_costOfColumn 62 = .ok (.laload, 1) := by decide +kernel
theorem dX0_costOfColumn_63 : decode cX0_costOfColumn 63 = .ok (.lmul, 1) := by decide +kernel
theorem dX0_costOfColumn_64 : decode cX0_costOfColumn 64 = .ok (.ladd, 1) := by decide +kernel
theorem dX0_costOfColumn_65 : decode cX0_costOfColumn 65 = .ok (.lstore_n 2, 1) := by decide +kernel
theorem dX0_costOfColumn_66 : decode cX0_costOfColumn 66 = .ok (.iinc 4 1, 3) := by decide +kernel
theorem dX0_costOfColumn_69 : decode cX0_costOfColumn 69 = .ok (.goto (-64), 3) := by decide +kernel
theorem dX0_costOfColumn_72 : decode cX0_costOfColumn 72 = .ok (.lload_n 2, 1) := by decide +kernel
theorem dX0_costOfColumn_73 : decode cX0_costOfColumn 73 = .ok (.lreturn, 1) := by decide +kernel
theorem dX0_rowThatGivesWay_0 : decode cX0_rowThatGivesWay 0 = .ok (.iconst (-1), 1) := by decide +kernel
theorem dX0_rowThatGivesWay_1 : decode cX0_rowThatGivesWay 1 = .ok (.istore_n 2, 1) := by decide +kernel
theorem dX0_rowThatGivesWay_2 : decode cX0_rowThatGivesWay 2 = .ok (.iconst 0, 1) := by decide +kernel
theorem dX0_rowThatGivesWay_3 : decode cX0_rowThatGivesWay 3 = .ok (.istore_n 3, 1) := by decide +kernel
theorem dX0_rowThatGivesWay_4 : decode cX0_rowThatGivesWay 4 = .ok (.iload_n 3, 1) := by decide +kernel
theorem dX0_rowThatGivesWay_5 : decode cX0_rowThatGivesWay 5 = .ok (.aload_n 0, 1) := by decide +kernel
theorem dX0_rowThatGivesWay_6 : decode cX0_rowThatGivesWay 6 = .ok (.getfield 74, 3) := by decide +kernel
theorem dX0_rowThatGivesWay_9 : decode cX0_rowThatGivesWay 9 = .ok (.if_icmp .ge 44, 3) := by decide +kernel
theorem dX0_rowThatGivesWay_12 : decode cX0_rowThatGivesWay 12 = .ok (.aload_n 0, 1) := by decide +kernel
theorem dX0_rowThatGivesWay_13 : decode cX0_rowThatGivesWay 13 = .ok (.getfield 9, 3) := by decide +kernel
theorem dX0_rowThatGivesWay_16 : decode cX0_rowThatGivesWay 16 = .ok (.iload_n 3, 1) := by decide +kernel
theorem dX0_rowThatGivesWay_17 : decode cX0_rowThatGivesWay 17 = .ok (.aload_n 0, 1) := by decide +kernel
theorem dX0_rowThatGivesWay_18 : decode cX0_rowThatGivesWay 18 = .ok (.getfield 48, 3) := by decide +kernel
theorem dX0_rowThatGivesWay_21 : decode cX0_rowThatGivesWay 21 = .ok (.imul, 1) := by decide +kernel
theorem dX0_rowThatGivesWay_22 : decode cX0_rowThatGivesWay 22 = .ok (.iload_n 1, 1) := by decide +kernel
theorem dX0_rowThatGivesWay_23 : decode cX0_rowThatGivesWay 23 = .ok (.iadd, 1) := by decide +kernel
theorem dX0_rowThatGivesWay_24 : decode cX0_rowThatGivesWay 24 = .ok (.laload, 1) := by decide +kernel
theorem dX0_rowThatGivesWay_25 : decode cX0_rowThatGivesWay 25 = .ok (.lconst 0, 1) := by decide +kernel
theorem dX0_rowThatGivesWay_26 : decode cX0_rowThatGivesWay 26 = .ok (.lcmp, 1) := by decide +kernel
theorem dX0_rowThatGivesWay_27 : decode cX0_rowThatGivesWay 27 = .ok (.ifCond .le 20, 3) := by decide +kernel
theorem dX0_rowThatGivesWay_30 : decode cX0_rowThatGivesWay 30 = .ok (.iload_n 2, 1) := by decide +kernel
theorem dX0_rowThatGivesWay_31 : decode cX0_rowThatGivesWay 31 = .ok (.iconst (-1), 1) := by decide +kernel
theorem dX0_rowThatGivesWay_32 : decode cX0_rowThatGivesWay 32 = .ok (.if_icmp .eq 13, 3) := by decide +kernel
theorem dX0_rowThatGivesWay_35 : decode cX0_rowThatGivesWay 35 = .ok (.aload_n 0, 1) := by decide +kernel
theorem dX0_rowThatGivesWay_36 : decode cX0_rowThatGivesWay 36 = .ok (.iload_n 3, 1) := by decide +kernel
theorem dX0_rowThatGivesWay_37 : decode cX0_rowThatGivesWay 37 = .ok (.iload_n 2, 1) := by decide +kernel
theorem dX0_rowThatGivesWay_38 : decode cX0_rowThatGivesWay 38 = .ok (.iload_n 1, 1) := by decide +kernel
theorem dX0_rowThatGivesWay_39 : decode cX0_rowThatGivesWay 39 = .ok (.invokevirtual 122, 3) := by decide +kernel
theorem dX0_rowThatGivesWay_42 : decode cX0_rowThatGivesWay 42 = .ok (.ifCond .eq 5, 3) := by decide +kernel
theorem dX0_rowThatGivesWay_45 : decode cX0_rowThatGivesWay 45 = .ok (.iload_n 3, 1) := by decide +kernel
theorem dX0_rowThatGivesWay_46 : decode cX0_rowThatGivesWay 46 = .ok (.istore_n 2, 1) := by decide +kernel
theorem dX0_rowThatGivesWay_47 : decode cX0_rowThatGivesWay 47 = .ok (.iinc 3 1, 3) := by decide +kernel
theorem dX0_rowThatGivesWay_50 : decode cX0_rowThatGivesWay 50 = .ok (.goto (-46), 3) := by decide +kernel
theorem dX0_rowThatGivesWay_53 : decode cX0_rowThatGivesWay 53 = .ok (.iload_n 2, 1) := by decide +kernel
theorem dX0_rowThatGivesWay_54 : decode cX0_rowThatGivesWay 54 = .ok (.ireturn, 1) := by decide +kernel
theorem dX0_givesWayBefore_0 : decode cX0_givesWayBefore 0 = .ok (.iload_n 1, 1) := by decide +kernel
theorem dX0_givesWayBefore_1 : decode cX0_givesWayBefore 1 = .ok (.aload_n 0, 1) := by decide +kernel
theorem dX0_givesWayBefore_2 : decode cX0_givesWayBefore 2 = .ok (.getfield 48, 3) := by decide +kernel
theorem dX0_givesWayBefore_5 : decode cX0_givesWayBefore 5 = .ok (.imul, 1) := by decide +kernel
theorem dX0_givesWayBefore_6 : decode cX0_givesWayBefore 6 = .ok (.istore 4, 2) := by decide +kernel
theorem dX0_givesWayBefore_8 : decode cX0_givesWayBefore 8 = .ok (.iload_n 2, 1) := by decide +kernel
theorem dX0_givesWayBefore_9 : decode cX0_givesWayBefore 9 = .ok (.aload_n 0, 1) := by decide +kernel
theorem dX0_givesWayBefore_10 : decode cX0_givesWayBefore 10 = .ok (.getfield 48, 3) := by decide +kernel
theorem dX0_givesWayBefore_13 : decode cX0_givesWayBefore 13 = .ok (.imul, 1) := by decide +kernel
theorem dX0_givesWayBefore_14 : decode cX0_givesWayBefore 14 = .ok (.istore 5, 2) := by decide +kernel
theorem dX0_givesWayBefore_16 : decode cX0_givesWayBefore 16 = .ok (.aload_n 0, 1) := by decide +kernel
theorem dX0_givesWayBefore_17 : decode cX0_givesWayBefore 17 = .ok (.getfield 9, 3) := by decide +kernel
theorem dX0_givesWayBefore_20 : decode cX0_givesWayBefore 20 = .ok (.iload 4, 2) := by decide +kernel
theorem dX0_givesWayBefore_22 : decode cX0_givesWayBefore 22 = .ok (.aload_n 0, 1) := by decide +kernel
theorem dX0_givesWayBefore_23 : decode cX0_givesWayBefore 23 = .ok (.getfield 48, 3) := by decide +kernel
theorem dX0_givesWayBefore_26 : decode cX0_givesWayBefore 26 = .ok (.iadd, 1) := by decide +kernel
theorem dX0_givesWayBefore_27 : decode cX0_givesWayBefore 27 = .ok (.iconst 1, 1) := by decide +kernel
theorem dX0_givesWayBefore_28 : decode cX0_givesWayBefore 28 = .ok (.isub, 1) := by decide +kernel
theorem dX0_givesWayBefore_29 : decode cX0_givesWayBefore 29 = .ok (.laload, 1) := by decide +kernel
theorem dX0_givesWayBefore_30 : decode cX0_givesWayBefore 30 = .ok (.aload_n 0, 1) := by decide +kernel
theorem dX0_givesWayBefore_31 : decode cX0_givesWayBefore 31 = .ok (.getfield 9, 3) := by decide +kernel
theorem dX0_givesWayBefore_34 : decode cX0_givesWayBefore 34 = .ok (.iload 5, 2) := by decide +kernel
theorem dX0_givesWayBefore_36 : decode cX0_givesWayBefore 36 = .ok (.iload_n 3, 1) := by decide +kernel
theorem dX0_givesWayBefore_37 : decode cX0_givesWayBefore 37 = .ok (.iadd, 1) := by decide +kernel
theorem dX0_givesWayBefore_38 : decode cX0_givesWayBefore 38 = .ok (.laload, 1) := by decide +kernel
theorem dX0_givesWayBefore_39 : decode cX0_givesWayBefore 39 = .ok (.lmul, 1) := by decide +kernel
theorem dX0_givesWayBefore_40 : decode cX0_givesWayBefore 40 = .ok (.lstore 6, 2) := by decide +kernel
theorem dX0_givesWayBefore_42 : decode cX0_givesWayBefore 42 = .ok (.aload_n 0, 1) := by decide +kernel
theorem dX0_givesWayBefore_43 : decode cX0_givesWayBefore 43 = .ok (.getfield 9, 3) := by decide +kernel
theorem dX0_givesWayBefore_46 : decode cX0_givesWayBefore 46 = .ok (.iload 5, 2) := by decide +kernel
theorem dX0_givesWayBefore_48 : decode cX0_givesWayBefore 48 = .ok (.aload_n 0, 1) := by decide +kernel
theorem dX0_givesWayBefore_49 : decode cX0_givesWayBefore 49 = .ok (.getfield 48, 3) := by decide +kernel
theorem dX0_givesWayBefore_52 : decode cX0_givesWayBefore 52 = .ok (.iadd, 1) := by decide +kernel
theorem dX0_givesWayBefore_53 : decode cX0_givesWayBefore 53 = .ok (.iconst 1, 1) := by decide +kernel
theorem dX0_givesWayBefore_54 : decode cX0_givesWayBefore 54 = .ok (.isub, 1) := by decide +kernel
theorem dX0_givesWayBefore_55 : decode cX0_givesWayBefore 55 = .ok (.laload, 1) := by decide +kernel
theorem dX0_givesWayBefore_56 : decode cX0_givesWayBefore 56 = .ok (.aload_n 0, 1) := by decide +kernel
theorem dX0_givesWayBefore_57 : decode cX0_givesWayBefore 57 = .ok (.getfield 9, 3) := by decide +kernel
theorem dX0_givesWayBefore_60 : decode cX0_givesWayBefore 60 = .ok (.iload 4, 2) := by decide +kernel
theorem dX0_givesWayBefore_62 : decode cX0_givesWayBefore 62 = .ok (.iload_n 3, 1) := by decide +kernel
theorem dX0_givesWayBefore_63 : decode cX0_givesWayBefore 63 = .ok (.iadd, 1) := by decide +kernel
theorem dX0_givesWayBefore_64 : decode cX0_givesWayBefore 64 = .ok (.laload, 1) := by decide +kernel
theorem dX0_givesWayBefore_65 : decode cX0_givesWayBefore 65 = .ok (.lmul, 1) := by decide +kernel
theorem dX0_givesWayBefore_66 : decode cX0_givesWayBefore 66 = .ok (.lstore 8, 2) := by decide +kernel
theorem dX0_givesWayBefore_68 : decode cX0_givesWayBefore 68 = .ok (.lload 6, 2) := by decide +kernel
theorem dX0_givesWayBefore_70 : decode cX0_givesWayBefore 70 = .ok (.lload 8, 2) := by decide +kernel
theorem dX0_givesWayBefore_72 : decode cX0_givesWayBefore 72 = .ok (.lcmp, 1) := by decide +kernel
theorem dX0_givesWayBefore_73 : decode cX0_givesWayBefore 73 = .ok (.ifCond .lt 26, 3) := by decide +kernel
theorem dX0_givesWayBefore_76 : decode cX0_givesWayBefore 76 = .ok (.lload 6, 2) := by decide +kernel
theorem dX0_givesWayBefore_78 : decode cX0_givesWayBefore 78 = .ok (.lload 8, 2) := by decide +kernel
theorem dX0_givesWayBefore_80 : decode cX0_givesWayBefore 80 = .ok (.lcmp, 1) := by decide +kernel
theorem dX0_givesWayBefore_81 : decode cX0_givesWayBefore 81 = .ok (.ifCond .ne 22, 3) := by decide +kernel
theorem dX0_givesWayBefore_84 : decode cX0_givesWayBefore 84 = .ok (.aload_n 0, 1) := by decide +kernel
theorem dX0_givesWayBefore_85 : decode cX0_givesWayBefore 85 = .ok (.getfield 15, 3) := by decide +kernel
theorem dX0_givesWayBefore_88 : decode cX0_givesWayBefore 88 = .ok (.iload_n 1, 1) := by decide +kernel
theorem dX0_givesWayBefore_89 : decode cX0_givesWayBefore 89 = .ok (.iaload, 1) := by decide +kernel
theorem dX0_givesWayBefore_90 : decode cX0_givesWayBefore 90 = .ok (.aload_n 0, 1) := by decide +kernel
theorem dX0_givesWayBefore_91 : decode cX0_givesWayBefore 91 = .ok (.getfield 15, 3) := by decide +kernel
theorem dX0_givesWayBefore_94 : decode cX0_givesWayBefore 94 = .ok (.iload_n 2, 1) := by decide +kernel
theorem dX0_givesWayBefore_95 : decode cX0_givesWayBefore 95 = .ok (.iaload, 1) := by decide +kernel
theorem dX0_givesWayBefore_96 : decode cX0_givesWayBefore 96 = .ok (.if_icmp .ge 7, 3) := by decide +kernel
theorem dX0_givesWayBefore_99 : decode cX0_givesWayBefore 99 = .ok (.iconst 1, 1) := by decide +kernel
theorem dX0_givesWayBefore_100 : decode cX0_givesWayBefore 100 = .ok (.goto 4, 3) := by decide +kernel
theorem dX0_givesWayBefore_103 : decode cX0_givesWayBefore 103 = .ok (.iconst 0, 1) := by decide +kernel
theorem dX0_givesWayBefore_104 : decode cX0_givesWayBefore 104 = .ok (.ireturn, 1) := by decide +kernel
theorem dX0_exchange_0 : decode cX0_exchange 0 = .ok (.iload_n 1, 1) := by decide +kernel
theorem dX0_exchange_1 : decode cX0_exchange 1 = .ok (.aload_n 0, 1) := by decide +kernel
theorem dX0_exchange_2 : decode cX0_exchange 2 = .ok (.getfield 48, 3) := by decide +kernel
theorem dX0_exchange_5 : decode cX0_exchange 5 = .ok (.imul, 1) := by decide +kernel
theorem dX0_exchange_6 : decode cX0_exchange 6 = .ok (.istore_n 3, 1) := by decide +kernel
theorem dX0_exchange_7 : decode cX0_exchange 7 = .ok (.aload_n 0, 1) := by decide +kernel
theorem dX0_exchange_8 : decode cX0_exchange 8 = .ok (.getfield 9, 3) := by decide +kernel
theorem dX0_exchange_11 : decode cX0_exchange 11 = .ok (.iload_n 3, 1) := by decide +kernel
theorem dX0_exchange_12 : decode cX0_exchange 12 = .ok (.iload_n 2, 1) := by decide +kernel
theorem dX0_exchange_13 : decode cX0_exchange 13 = .ok (.iadd, 1) := by decide +kernel
theorem dX0_exchange_14 : decode cX0_exchange 14 = .ok (.laload, 1) := by decide +kernel
theorem dX0_exchange_15 : decode cX0_exchange 15 = .ok (.lconst 0, 1) := by decide +kernel
theorem dX0_exchange_16 : decode cX0_exchange 16 = .ok (.lcmp, 1) := by decide +kernel
theorem dX0_exchange_17 : decode cX0_exchange 17 = .ok (.ifCond .ge 8, 3) := by decide +kernel
theorem dX0_exchange_20 : decode cX0_exchange 20 = .ok (.aload_n 0, 1) := by decide +kernel
theorem dX0_exchange_21 : decode cX0_exchange 21 = .ok (.iload_n 3, 1) := by decide +kernel
theorem dX0_exchange_22 : decode cX0_exchange 22 = .ok (.invokevirtual 126, 3) := by decide +kernel
theorem dX0_exchange_25 : decode cX0_exchange 25 = .ok (.aload_n 0, 1) := by decide +kernel
theorem dX0_exchange_26 : decode cX0_exchange 26 = .ok (.getfield 9, 3) := by decide +kernel
theorem dX0_exchange_29 : decode cX0_exchange 29 = .ok (.iload_n 3, 1) := by decide +kernel
theorem dX0_exchange_30 : decode cX0_exchange 30 = .ok (.iload_n 2, 1) := by decide +kernel
theorem dX0_exchange_31 : decode cX0_exchange 31 = .ok (.iadd, 1) := by decide +kernel
theorem dX0_exchange_32 : decode cX0_exchange 32 = .ok (.laload, 1) := by decide +kernel
theorem dX0_exchange_33 : decode cX0_exchange 33 = .ok (.lstore 4, 2) := by decide +kernel
theorem dX0_exchange_35 : decode cX0_exchange 35 = .ok (.lload 4, 2) := by decide +kernel
theorem dX0_exchange_37 : decode cX0_exchange 37 = .ok (.lconst 0, 1) := by decide +kernel
theorem dX0_exchange_38 : decode cX0_exchange 38 = .ok (.lcmp, 1) := by decide +kernel
theorem dX0_exchange_39 : decode cX0_exchange 39 = .ok (.ifCond .eq 12, 3) := by decide +kernel
theorem dX0_exchange_42 : decode cX0_exchange 42 = .ok (.aload_n 0, 1) := by decide +kernel
theorem dX0_exchange_43 : decode cX0_exchange 43 = .ok (.getfield 25, 3) := by decide +kernel
theorem dX0_exchange_46 : decode cX0_exchange 46 = .ok (.lconst 0, 1) := by decide +kernel
theorem dX0_exchange_47 : decode cX0_exchange 47 = .ok (.lcmp, 1) := by decide +kernel
theorem dX0_exchange_48 : decode cX0_exchange 48 = .ok (.ifCond .ne 4, 3) := by decide +kernel
theorem dX0_exchange_51 : decode cX0_exchange 51 = .ok (.return_, 1) := by decide +kernel
theorem dX0_exchange_52 : decode cX0_exchange 52 = .ok (.iconst 0, 1) := by decide +kernel
theorem dX0_exchange_53 : decode cX0_exchange 53 = .ok (.istore 6, 2) := by decide +kernel
theorem dX0_exchange_55 : decode cX0_exchange 55 = .ok (.iload 6, 2) := by decide +kernel
theorem dX0_exchange_57 : decode cX0_exchange 57 = .ok (.aload_n 0, 1) := by decide +kernel
theorem dX0_exchange_58 : decode cX0_exchange 58 = .ok (.getfield 74, 3) := by decide +kernel
theorem dX0_exchange_61 : decode cX0_exchange 61 = .ok (.if_icmp .ge 28, 3) := by decide +kernel
theorem dX0_exchange_64 : decode cX0_exchange 64 = .ok (.iload 6, 2) := by decide +kernel
theorem dX0_exchange_66 : decode cX0_exchange 66 = .ok (.iload_n 1, 1) := by decide +kernel
theorem dX0_exchange_67 : decode cX0_exchange 67 = .ok (.if_icmp .eq 16, 3) := by decide +kernel
theorem dX0_exchange_70 : decode cX0_exchange 70 = .ok (.aload_n 0, 1) := by decide +kernel
theorem dX0_exchange_71 : decode cX0_exchange 71 = .ok (.iload 6, 2) := by decide +kernel
theorem dX0_exchange_73 : decode cX0_exchange 73 = .ok (.aload_n 0, 1) := by decide +kernel
theorem dX0_exchange_74 : decode cX0_exchange 74 = .ok (.getfield 48, 3) := by decide +kernel
theorem dX0_exchange_77 : decode cX0_exchange 77 = .ok (.imul, 1) := by decide +kernel
theorem dX0_exchange_78 : decode cX0_exchange 78 = .ok (.iload_n 3, 1) := by decide +kernel
theorem dX0_exchange_79 : decode cX0_exchange 79 = .ok (.iload_n 2, 1) := by decide +kernel
theorem dX0_exchange_80 : decode cX0_exchange 80 = .ok (.invokevirtual 130, 3) := by decide +kernel
theorem dX0_exchange_83 : decode cX0_exchange 83 = .ok (.iinc 6 1, 3) := by decide +kernel
theorem dX0_exchange_86 : decode cX0_exchange 86 = .ok (.goto (-31), 3) := by decide +kernel
theorem dX0_exchange_89 : decode cX0_exchange 89 = .ok (.aload_n 0, 1) := by decide +kernel
theorem dX0_exchange_90 : decode cX0_exchange 90 = .ok (.lload 4, 2) := by decide +kernel
theorem dX0_exchange_92 : decode cX0_exchange 92 = .ok (.putfield 25, 3) := by decide +kernel
theorem dX0_exchange_95 : decode cX0_exchange 95 = .ok (.aload_n 0, 1) := by decide +kernel
theorem dX0_exchange_96 : decode cX0_exchange 96 = .ok (.getfield 15, 3) := by decide +kernel
theorem dX0_exchange_99 : decode cX0_exchange 99 = .ok (.iload_n 1, 1) := by decide +kernel
theorem dX0_exchange_100 : decode cX0_exchange 100 = .ok (.iload_n 2, 1) := by decide +kernel
theorem dX0_exchange_101 : decode cX0_exchange 101 = .ok (.iastore, 1) := by decide +kernel
theorem dX0_exchange_102 : decode cX0_exchange 102 = .ok (.return_, 1) := by decide +kernel
theorem dX0_turnSigns_0 : decode cX0_turnSigns 0 = .ok (.iconst 0, 1) := by decide +kernel
theorem dX0_turnSigns_1 : decode cX0_turnSigns 1 = .ok (.istore_n 2, 1) := by decide +kernel
theorem dX0_turnSigns_2 : decode cX0_turnSigns 2 = .ok (.iload_n 2, 1) := by decide +kernel
theorem dX0_turnSigns_3 : decode cX0_turnSigns 3 = .ok (.aload_n 0, 1) := by decide +kernel
theorem dX0_turnSigns_4 : decode cX0_turnSigns 4 = .ok (.getfield 48, 3) := by decide +kernel
theorem dX0_turnSigns_7 : decode cX0_turnSigns 7 = .ok (.if_icmp .ge 26, 3) := by decide +kernel
theorem dX0_turnSigns_10 : decode cX0_turnSigns 10 = .ok (.aload_n 0, 1) := by decide +kernel
theorem dX0_turnSigns_11 : decode cX0_turnSigns 11 = .ok (.getfield 9, 3) := by decide +kernel
theorem dX0_turnSigns_14 : decode cX0_turnSigns 14 = .ok (.iload_n 1, 1) := by decide +kernel
theorem dX0_turnSigns_15 : decode cX0_turnSigns 15 = .ok (.iload_n 2, 1) := by decide +kernel
theorem dX0_turnSigns_16 : decode cX0_turnSigns 16 = .ok (.iadd, 1) := by decide +kernel
theorem dX0_turnSigns_17 : decode cX0_turnSigns 17 = .ok (.aload_n 0, 1) := by decide +kernel
theorem dX0_turnSigns_18 : decode cX0_turnSigns 18 = .ok (.getfield 9, 3) := by decide +kernel
theorem dX0_turnSigns_21 : decode cX0_turnSigns 21 = .ok (.iload_n 1, 1) := by decide +kernel
theorem dX0_turnSigns_22 : decode cX0_turnSigns 22 = .ok (.iload_n 2, 1) := by decide +kernel
theorem dX0_turnSigns_23 : decode cX0_turnSigns 23 = .ok (.iadd, 1) := by decide +kernel
theorem dX0_turnSigns_24 : decode cX0_turnSigns 24 = .ok (.laload, 1) := by decide +kernel
theorem dX0_turnSigns_25 : decode cX0_turnSigns 25 = .ok (.lneg, 1) := by decide +kernel
theorem dX0_turnSigns_26 : decode cX0_turnSigns 26 = .ok (.lastore, 1) := by decide +kernel
theorem dX0_turnSigns_27 : decode cX0_turnSigns 27 = .ok (.iinc 2 1, 3) := by decide +kernel
theorem dX0_turnSigns_30 : decode cX0_turnSigns 30 = .ok (.goto (-28), 3) := by decide +kernel
theorem dX0_turnSigns_33 : decode cX0_turnSigns 33 = .ok (.return_, 1) := by decide +kernel
theorem dX0_clearColumn_0 : decode cX0_clearColumn 0 = .ok (.aload_n 0, 1) := by decide +kernel
theorem dX0_clearColumn_1 : decode cX0_clearColumn 1 = .ok (.getfield 9, 3) := by decide +kernel
theorem dX0_clearColumn_4 : decode cX0_clearColumn 4 = .ok (.iload_n 2, 1) := by decide +kernel
theorem dX0_clearColumn_5 : decode cX0_clearColumn 5 = .ok (.iload_n 3, 1) := by decide +kernel
theorem dX0_clearColumn_6 : decode cX0_clearColumn 6 = .ok (.iadd, 1) := by decide +kernel
theorem dX0_clearColumn_7 : decode cX0_clearColumn 7 = .ok (.laload, 1) := by decide +kernel
theorem dX0_clearColumn_8 : decode cX0_clearColumn 8 = .ok (.lstore 4, 2) := by decide +kernel
theorem dX0_clearColumn_10 : decode cX0_clearColumn 10 = .ok (.aload_n 0, 1) := by decide +kernel
theorem dX0_clearColumn_11 : decode cX0_clearColumn 11 = .ok (.getfield 9, 3) := by decide +kernel
theorem dX0_clearColumn_14 : decode cX0_clearColumn 14 = .ok (.iload_n 1, 1) := by decide +kernel
theorem dX0_clearColumn_15 : decode cX0_clearColumn 15 = .ok (.iload_n 3, 1) := by decide +kernel
theorem dX0_clearColumn_16 : decode cX0_clearColumn 16 = .ok (.iadd, 1) := by decide +kernel
theorem dX0_clearColumn_17 : decode cX0_clearColumn 17 = .ok (.laload, 1) := by decide +kernel
theorem dX0_clearColumn_18 : decode cX0_clearColumn 18 = .ok (.lstore 6, 2) := by decide +kernel
theorem dX0_clearColumn_20 : decode cX0_clearColumn 20 = .ok (.aload_n 0, 1) := by decide +kernel
theorem dX0_clearColumn_21 : decode cX0_clearColumn 21 = .ok (.getfield 25, 3) := by decide +kernel
theorem dX0_clearColumn_24 : decode cX0_clearColumn 24 = .ok (.lconst 0, 1) := by decide +kernel
theorem dX0_clearColumn_25 : decode cX0_clearColumn 25 = .ok (.lcmp, 1) := by decide +kernel
theorem dX0_clearColumn_26 : decode cX0_clearColumn 26 = .ok (.ifCond .eq 20, 3) := by decide +kernel
theorem dX0_clearColumn_29 : decode cX0_clearColumn 29 = .ok (.lload 6, 2) := by decide +kernel
theorem dX0_clearColumn_31 : decode cX0_clearColumn 31 = .ok (.lconst 0, 1) := by decide +kernel
theorem dX0_clearColumn_32 : decode cX0_clearColumn 32 = .ok (.lcmp, 1) := by decide +kernel
theorem dX0_clearColumn_33 : decode cX0_clearColumn 33 = .ok (.ifCond .ne 14, 3) := by decide +kernel
theorem dX0_clearColumn_36 : decode cX0_clearColumn 36 = .ok (.lload 4, 2) := by decide +kernel
theorem dX0_clearColumn_38 : decode cX0_clearColumn 38 = .ok (.aload_n 0, 1) := by decide +kernel
theorem dX0_clearColumn_39 : decode cX0_clearColumn 39 = .ok (.getfield 25, 3) := by decide +kernel
theorem dX0_clearColumn_42 : decode cX0_clearColumn 42 = .ok (.lcmp, 1) := by decide +kernel
theorem dX0_clearColumn_43 : decode cX0_clearColumn 43 = .ok (.ifCond .ne 4, 3) := by decide +kernel
theorem dX0_clearColumn_46 : decode cX0_clearColumn 46 = .ok (.return_, 1) := by decide +kernel
theorem dX0_clearColumn_47 : decode cX0_clearColumn 47 = .ok (.iconst 0, 1) := by decide +kernel
theorem dX0_clearColumn_48 : decode cX0_clearColumn 48 = .ok (.istore 8, 2) := by decide +kernel
theorem dX0_clearColumn_50 : decode cX0_clearColumn 50 = .ok (.iload 8, 2) := by decide +kernel
theorem dX0_clearColumn_52 : decode cX0_clearColumn 52 = .ok (.aload_n 0, 1) := by decide +kernel
theorem dX0_clearColumn_53 : decode cX0_clearColumn 53 = .ok (.getfield 48, 3) := by decide +kernel
theorem dX0_clearColumn_56 : decode cX0_clearColumn 56 = .ok (.if_icmp .ge 52, 3) := by decide +kernel
theorem dX0_clearColumn_59 : decode cX0_clearColumn 59 = .ok (.aload_n 0, 1) := by decide +kernel
theorem dX0_clearColumn_60 : decode cX0_clearColumn 60 = .ok (.getfield 9, 3) := by decide +kernel
theorem dX0_clearColumn_63 : decode cX0_clearColumn 63 = .ok (.iload_n 1, 1) := by decide +kernel
theorem dX0_clearColumn_64 : decode cX0_clearColumn 64 = .ok (.iload 8, 2) := by decide +kernel
theorem dX0_clearColumn_66 : decode cX0_clearColumn 66 = .ok (.iadd, 1) := by decide +kernel
theorem dX0_clearColumn_67 : decode cX0_clearColumn 67 = .ok (.laload, 1) := by decide +kernel
theorem dX0_clearColumn_68 : decode cX0_clearColumn 68 = .ok (.lload 4, 2) := by decide +kernel
theorem dX0_clearColumn_70 : decode cX0_clearColumn 70 = .ok (.lmul, 1) := by decide +kernel
theorem dX0_clearColumn_71 : decode cX0_clearColumn 71 = .ok (.lload 6, 2) := by decide +kernel
theorem dX0_clearColumn_73 : decode cX0_clearColumn 73 = .ok (.aload_n 0, 1) := by decide +kernel
theorem dX0_clearColumn_74 : decode cX0_clearColumn 74 = .ok (.getfield 9, 3) := by decide +kernel
theorem dX0_clearColumn_77 : decode cX0_clearColumn 77 = .ok (.iload_n 2, 1) := by decide +kernel
theorem dX0_clearColumn_78 : decode cX0_clearColumn 78 = .ok (.iload 8, 2) := by decide +kernel
theorem dX0_clearColumn_80 : decode cX0_clearColumn 80 = .ok (.iadd, 1) := by decide +kernel
theorem dX0_clearColumn_81 : decode cX0_clearColumn 81 = .ok (.laload, 1) := by decide +kernel
theorem dX0_clearColumn_82 : decode cX0_clearColumn 82 = .ok (.lmul, 1) := by decide +kernel
theorem dX0_clearColumn_83 : decode cX0_clearColumn 83 = .ok (.lsub, 1) := by decide +kernel
theorem dX0_clearColumn_84 : decode cX0_clearColumn 84 = .ok (.lstore 9, 2) := by decide +kernel
theorem dX0_clearColumn_86 : decode cX0_clearColumn 86 = .ok (.aload_n 0, 1) := by decide +kernel
theorem dX0_clearColumn_87 : decode cX0_clearColumn 87 = .ok (.getfield 9, 3) := by decide +kernel
theorem dX0_clearColumn_90 : decode cX0_clearColumn 90 = .ok (.iload_n 1, 1) := by decide +kernel
theorem dX0_clearColumn_91 : decode cX0_clearColumn 91 = .ok (.iload 8, 2) := by decide +kernel
theorem dX0_clearColumn_93 : decode cX0_clearColumn 93 = .ok (.iadd, 1) := by decide +kernel
theorem dX0_clearColumn_94 : decode cX0_clearColumn 94 = .ok (.lload 9, 2) := by decide +kernel
theorem dX0_clearColumn_96 : decode cX0_clearColumn 96 = .ok (.aload_n 0, 1) := by decide +kernel
theorem dX0_clearColumn_97 : decode cX0_clearColumn 97 = .ok (.getfield 25, 3) := by decide +kernel
theorem dX0_clearColumn_100 : decode cX0_clearColumn 100 = .ok (.ldiv, 1) := by decide +kernel
theorem dX0_clearColumn_101 : decode cX0_clearColumn 101 = .ok (.lastore, 1) := by decide +kernel
theorem dX0_clearColumn_102 : decode cX0_clearColumn 102 = .ok (.iinc 8 1, 3) := by decide +kernel
theorem dX0_clearColumn_105 : decode cX0_clearColumn 105 = .ok (.goto (-55), 3) := by decide +kernel
theorem dX0_clearColumn_108 : decode cX0_clearColumn 108 = .ok (.return_, 1) := by decide +kernel
theorem dX0_dropSlacks_0 : decode cX0_dropSlacks 0 = .ok (.iconst 0, 1) := by decide +kernel
theorem dX0_dropSlacks_1 : decode cX0_dropSlacks 1 = .ok (.istore_n 1, 1) := by decide +kernel
theorem dX0_dropSlacks_2 : decode cX0_dropSlacks 2 = .ok (.iload_n 1, 1) := by decide +kernel
theorem dX0_dropSlacks_3 : decode cX0_dropSlacks 3 = .ok (.aload_n 0, 1) := by decide +kernel
theorem dX0_dropSlacks_4 : decode cX0_dropSlacks 4 = .ok (.getfield 74, 3) := by decide +kernel
theorem dX0_dropSlacks_7 : decode cX0_dropSlacks 7 = .ok (.if_icmp .ge 58, 3) := by decide +kernel
theorem dX0_dropSlacks_10 : decode cX0_dropSlacks 10 = .ok (.iconst 0, 1) := by decide +kernel
theorem dX0_dropSlacks_11 : decode cX0_dropSlacks 11 = .ok (.istore_n 2, 1) := by decide +kernel
theorem dX0_dropSlacks_12 : decode cX0_dropSlacks 12 = .ok (.iload_n 2, 1) := by decide +kernel
theorem dX0_dropSlacks_13 : decode cX0_dropSlacks 13 = .ok (.aload_n 0, 1) := by decide +kernel
theorem dX0_dropSlacks_14 : decode cX0_dropSlacks 14 = .ok (.getfield 68, 3) := by decide +kernel
theorem dX0_dropSlacks_17 : decode cX0_dropSlacks 17 = .ok (.if_icmp .ge 42, 3) := by decide +kernel
theorem dX0_dropSlacks_20 : decode cX0_dropSlacks 20 = .ok (.aload_n 0, 1) := by decide +kernel
theorem dX0_dropSlacks_21 : decode cX0_dropSlacks 21 = .ok (.getfield 15, 3) := by decide +kernel
theorem dX0_dropSlacks_24 : decode cX0_dropSlacks 24 = .ok (.iload_n 1, 1) := by decide +kernel
theorem dX0_dropSlacks_25 : decode cX0_dropSlacks 25 = .ok (.iaload, 1) := by decide +kernel
theorem dX0_dropSlacks_26 : decode cX0_dropSlacks 26 = .ok (.ifCond .ge 33, 3) := by decide +kernel
theorem dX0_dropSlacks_29 : decode cX0_dropSlacks 29 = .ok (.aload_n 0, 1) := by decide +kernel
theorem dX0_dropSlacks_30 : decode cX0_dropSlacks 30 = .ok (.getfield 9, 3) := by decide +kernel
theorem dX0_dropSlacks_33 : decode cX0_dropSlacks 33 = .ok (.iload_n 1, 1) := by decide +kernel
theorem dX0_dropSlacks_34 : decode cX0_dropSlacks 34 = .ok (.aload_n 0, 1) := by decide +kernel
theorem dX0_dropSlacks_35 : decode cX0_dropSlacks 35 = .ok (.getfield 48, 3) := by decide +kernel
theorem dX0_dropSlacks_38 : decode cX0_dropSlacks 38 = .ok (.imul, 1) := by decide +kernel
theorem dX0_dropSlacks_39 : decode cX0_dropSlacks 39 = .ok (.iload_n 2, 1) := by decide +kernel
theorem dX0_dropSlacks_40 : decode cX0_dropSlacks 40 = .ok (.iadd, 1) := by decide +kernel
theorem dX0_dropSlacks_41 : decode cX0_dropSlacks 41 = .ok (.laload, 1) := by decide +kernel
theorem dX0_dropSlacks_42 : decode cX0_dropSlacks 42 = .ok (.lconst 0, 1) := by decide +kernel
theorem dX0_dropSlacks_43 : decode cX0_dropSlacks 43 = .ok (.lcmp, 1) := by decide +kernel
theorem dX0_dropSlacks_44 : decode cX0_dropSlacks 44 = .ok (.ifCond .eq 9, 3) := by decide +kernel
theorem dX0_dropSlacks_47 : decode cX0_dropSlacks 47 = .ok (.aload_n 0, 1) := by decide +kernel
theorem dX0_dropSlacks_48 : decode cX0_dropSlacks 48 = .ok (.iload_n 1, 1) := by decide +kernel
theorem dX0_dropSlacks_49 : decode cX0_dropSlacks 49 = .ok (.iload_n 2, 1) := by decide +kernel
theorem dX0_dropSlacks_50 : decode cX0_dropSlacks 50 = .ok (.invokevirtual 118, 3) := by decide +kernel
theorem dX0_dropSlacks_53 : decode cX0_dropSlacks 53 = .ok (.iinc 2 1, 3) := by decide +kernel
theorem dX0_dropSlacks_56 : decode cX0_dropSlacks 56 = .ok (.goto (-44), 3) := by decide +kernel
theorem dX0_dropSlacks_59 : decode cX0_dropSlacks 59 = .ok (.iinc 1 1, 3) := by decide +kernel
theorem dX0_dropSlacks_62 : decode cX0_dropSlacks 62 = .ok (.goto (-60), 3) := by decide +kernel
theorem dX0_dropSlacks_65 : decode cX0_dropSlacks 65 = .ok (.return_, 1) := by decide +kernel
theorem dX0_waysThatClash_0 : decode cX0_waysThatClash 0 = .ok (.iconst 0, 1) := by decide +kernel
theorem dX0_waysThatClash_1 : decode cX0_waysThatClash 1 = .ok (.istore_n 1, 1) := by decide +kernel
theorem dX0_waysThatClash_2 : decode cX0_waysThatClash 2 = .ok (.iconst 0, 1) := by decide +kernel
theorem dX0_waysThatClash_3 : decode cX0_waysThatClash 3 = .ok (.istore_n 2, 1) := by decide +kernel
theorem dX0_waysThatClash_4 : decode cX0_waysThatClash 4 = .ok (.iload_n 2, 1) := by decide +kernel
theorem dX0_waysThatClash_5 : decode cX0_waysThatClash 5 = .ok (.aload_n 0, 1) := by decide +kernel
theorem dX0_waysThatClash_6 : decode cX0_waysThatClash 6 = .ok (.getfield 74, 3) := by decide +kernel
theorem dX0_waysThatClash_9 : decode cX0_waysThatClash 9 = .ok (.if_icmp .ge 35, 3) := by decide +kernel
theorem dX0_waysThatClash_12 : decode cX0_waysThatClash 12 = .ok (.aload_n 0, 1) := by decide +kernel
theorem dX0_waysThatClash_13 : decode cX0_waysThatClash 13 = .ok (.aload_n 0, 1) := by decide +kernel
theorem dX0_waysThatClash_14 : decode cX0_waysThatClash 14 = .ok (.getfield 68, 3) := by decide +kernel
theorem dX0_waysThatClash_17 : decode cX0_waysThatClash 17 = .ok (.iload_n 2, 1) := by decide +kernel
theorem dX0_waysThatClash_18 : decode cX0_waysThatClash 18 = .ok (.iadd, 1) := by decide +kernel
theorem dX0_waysThatClash_19 : decode cX0_waysThatClash 19 = .ok (.invokevirtual 51, 3) := by decide +kernel
theorem dX0_waysThatClash_22 : decode cX0_waysThatClash 22 = .ok (.lconst 0, 1) := by decide +kernel
theorem dX0_waysThatClash_23 : decode cX0_waysThatClash 23 = .ok (.lcmp, 1) := by decide +kernel
theorem dX0_waysThatClash_24 : decode cX0_waysThatClash 24 = .ok (.ifCond .eq 14, 3) := by decide +kernel
theorem dX0_waysThatClash_27 : decode cX0_waysThatClash 27 = .ok (.iload_n 1, 1) := by decide +kernel
theorem dX0_waysThatClash_28 : decode cX0_waysThatClash 28 = .ok (.iconst 1, 1) := by decide +kernel
theorem dX0_waysThatClash_29 : decode cX0_waysThatClash 29 = .ok (.aload_n 0, 1) := by decide +kernel
theorem dX0_waysThatClash_30 : decode cX0_waysThatClash 30 = .ok (.getfield 19, 3) := by decide +kernel
theorem dX0_waysThatClash_33 : decode cX0_waysThatClash 33 = .ok (.iload_n 2, 1) := by decide +kernel
theorem dX0_waysThatClash_34 : decode cX0_waysThatClash 34 = .ok (.iaload, 1) := by decide +kernel
theorem dX0_waysThatClash_35 : decode cX0_waysThatClash 35 = .ok (.ishl, 1) := by decide +kernel
theorem dX0_waysThatClash_36 : decode cX0_waysThatClash 36 = .ok (.ior, 1) := by decide +kernel
theorem dX0_waysThatClash_37 : decode cX0_waysThatClash 37 = .ok (.istore_n 1, 1) := by decide +kernel
theorem dX0_waysThatClash_38 : decode cX0_waysThatClash 38 = .ok (.iinc 2 1, 3) := by decide +kernel
theorem dX0_waysThatClash_41 : decode cX0_waysThatClash 41 = .ok (.goto (-37), 3) := by decide +kernel
theorem dX0_waysThatClash_44 : decode cX0_waysThatClash 44 = .ok (.iload_n 1, 1) := by decide +kernel
theorem dX0_waysThatClash_45 : decode cX0_waysThatClash 45 = .ok (.ireturn, 1) := by decide +kernel
theorem dX0_barWhatCosts_0 : decode cX0_barWhatCosts 0 = .ok (.iconst 0, 1) := by decide +kernel
theorem dX0_barWhatCosts_1 : decode cX0_barWhatCosts 1 = .ok (.istore_n 1, 1) := by decide +kernel
theorem dX0_barWhatCosts_2 : decode cX0_barWhatCosts 2 = .ok (.iload_n 1, 1) := by decide +kernel
theorem dX0_barWhatCosts_3 : decode cX0_barWhatCosts 3 = .ok (.aload_n 0, 1) := by decide +kernel
theorem dX0_barWhatCosts_4 : decode cX0_barWhatCosts 4 = .ok (.getfield 68, 3) := by decide +kernel
theorem dX0_barWhatCosts_7 : decode cX0_barWhatCosts 7 = .ok (.if_icmp .ge 42, 3) := by decide +kernel
theorem dX0_barWhatCosts_10 : decode cX0_barWhatCosts 10 = .ok (.aload_n 0, 1) := by decide +kernel
theorem dX0_barWhatCosts_11 : decode cX0_barWhatCosts 11 = .ok (.getfield 25, 3) := by decide +kernel
theorem dX0_barWhatCosts_14 : decode cX0_barWhatCosts 14 = .ok (.aload_n 0, 1) := by decide +kernel
theorem dX0_barWhatCosts_15 : decode cX0_barWhatCosts 15 = .ok (.getfield 22, 3) := by decide +kernel
theorem dX0_barWhatCosts_18 : decode cX0_barWhatCosts 18 = .ok (.iload_n 1, 1) := by decide +kernel
theorem dX0_barWhatCosts_19 : decode cX0_barWhatCosts 19 = .ok (.iaload, 1) := by decide +kernel
theorem dX0_barWhatCosts_20 : decode cX0_barWhatCosts 20 = .ok (.i2l, 1) := by decide +kernel
theorem dX0_barWhatCosts_21 : decode cX0_barWhatCosts 21 = .ok (.lmul, 1) := by decide +kernel
theorem dX0_barWhatCosts_22 : decode cX0_barWhatCosts 22 = .ok (.aload_n 0, 1) := by decide +kernel
theorem dX0_barWhatCosts_23 : decode cX0_barWhatCosts 23 = .ok (.iload_n 1, 1) := by decide +kernel
theorem dX0_barWhatCosts_24 : decode cX0_barWhatCosts 24 = .ok (.invokevirtual 51, 3) := by decide +kernel
theorem dX0_barWhatCosts_27 : decode cX0_barWhatCosts 27 = .ok (.lcmp, 1) := by decide +kernel
theorem dX0_barWhatCosts_28 : decode cX0_barWhatCosts 28 = .ok (.ifCond .le 15, 3) := by decide +kernel
theorem dX0_barWhatCosts_31 : decode cX0_barWhatCosts 31 = .ok (.aload_n 0, 1) := by decide +kernel
theorem dX0_barWhatCosts_32 : decode cX0_barWhatCosts 32 = .ok (.dup, 1) := by decide +kernel
theorem dX0_barWhatCosts_33 : decode cX0_barWhatCosts 33 = .ok (.getfield 65, 3) := by decide +kernel
theorem dX0_barWhatCosts_36 : decode cX0_barWhatCosts 36 = .ok (.iconst 1, 1) := by decide +kernel
theorem dX0_barWhatCosts_37 : decode cX0_barWhatCosts 37 = .ok (.iload_n 1, 1) := by decide +kernel
theorem dX0_barWhatCosts_38 : decode cX0_barWhatCosts 38 = .ok (.ishl, 1) := by decide +kernel
theorem dX0_barWhatCosts_39 : decode cX0_barWhatCosts 39 = .ok (.ior, 1) := by decide +kernel
theorem dX0_barWhatCosts_40 : decode cX0_barWhatCosts 40 = .ok (.putfield 65, 3) := by decide +kernel
theorem dX0_barWhatCosts_43 : decode cX0_barWhatCosts 43 = .ok (.iinc 1 1, 3) := by decide +kernel
theorem dX0_barWhatCosts_46 : decode cX0_barWhatCosts 46 = .ok (.goto (-44), 3) := by decide +kernel
theorem dX0_barWhatCosts_49 : decode cX0_barWhatCosts 49 = .ok (.return_, 1) := by decide +kernel
