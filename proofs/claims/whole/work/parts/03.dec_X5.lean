theorem dX5_init_0 : decode cX5_init 0 = .ok (.aload_n 0, 1) := by decide +kernel
theorem dX5_init_1 : decode cX5_init 1 = .ok (.invokespecial 3, 3) := by decide +kernel
theorem dX5_init_4 : decode cX5_init 4 = .ok (.aload_n 0, 1) := by decide +kernel
theorem dX5_init_5 : decode cX5_init 5 = .ok (.sipush 3300, 3) := by decide +kernel
theorem dX5_init_8 : decode cX5_init 8 = .ok (.newarray .int, 2) := by decide +kernel
theorem dX5_init_10 : decode cX5_init 10 = .ok (.putfield 11, 3) := by decide +kernel
theorem dX5_init_13 : decode cX5_init 13 = .ok (.aload_n 0, 1) := by decide +kernel
theorem dX5_init_14 : decode cX5_init 14 = .ok (.bipush 11, 2) := by decide +kernel
theorem dX5_init_16 : decode cX5_init 16 = .ok (.newarray .int, 2) := by decide +kernel
theorem dX5_init_18 : decode cX5_init 18 = .ok (.putfield 15, 3) := by decide +kernel
theorem dX5_init_21 : decode cX5_init 21 = .ok (.aload_n 0, 1) := by decide +kernel
theorem dX5_init_22 : decode cX5_init 22 = .ok (.bipush 11, 2) := by decide +kernel
theorem dX5_init_24 : decode cX5_init 24 = .ok (.newarray .int, 2) := by decide +kernel
theorem dX5_init_26 : decode cX5_init 26 = .ok (.putfield 18, 3) := by decide +kernel
theorem dX5_init_29 : decode cX5_init 29 = .ok (.return_, 1) := by decide +kernel
theorem dX5_rankOfWays_0 : decode cX5_rankOfWays 0 = .ok (.aload_n 0, 1) := by decide +kernel
theorem dX5_rankOfWays_1 : decode cX5_rankOfWays 1 = .ok (.aload_n 1, 1) := by decide +kernel
theorem dX5_rankOfWays_2 : decode cX5_rankOfWays 2 = .ok (.invokevirtual 21, 3) := by decide +kernel
theorem dX5_rankOfWays_5 : decode cX5_rankOfWays 5 = .ok (.aload_n 0, 1) := by decide +kernel
theorem dX5_rankOfWays_6 : decode cX5_rankOfWays 6 = .ok (.getfield 25, 3) := by decide +kernel
theorem dX5_rankOfWays_9 : decode cX5_rankOfWays 9 = .ok (.ireturn, 1) := by decide +kernel
theorem dX5_linesFromWays_0 : decode cX5_linesFromWays 0 = .ok (.aload_n 0, 1) := by decide +kernel
theorem dX5_linesFromWays_1 : decode cX5_linesFromWays 1 = .ok (.aload_n 1, 1) := by decide +kernel
theorem dX5_linesFromWays_2 : decode cX5_linesFromWays 2 = .ok (.invokevirtual 21, 3) := by decide +kernel
theorem dX5_linesFromWays_5 : decode cX5_linesFromWays 5 = .ok (.iconst 0, 1) := by decide +kernel
theorem dX5_linesFromWays_6 : decode cX5_linesFromWays 6 = .ok (.istore_n 2, 1) := by decide +kernel
theorem dX5_linesFromWays_7 : decode cX5_linesFromWays 7 = .ok (.iconst 0, 1) := by decide +kernel
theorem dX5_linesFromWays_8 : decode cX5_linesFromWays 8 = .ok (.istore_n 3, 1) := by decide +kernel
theorem dX5_linesFromWays_9 : decode cX5_linesFromWays 9 = .ok (.iload_n 3, 1) := by decide +kernel
theorem dX5_linesFromWays_10 : decode cX5_linesFromWays 10 = .ok (.aload_n 0, 1) := by decide +kernel
theorem dX5_linesFromWays_11 : decode cX5_linesFromWays 11 = .ok (.getfield 29, 3) := by decide +kernel
theorem dX5_linesFromWays_14 : decode cX5_linesFromWays 14 = .ok (.if_icmp .ge 28, 3) := by decide +kernel
theorem dX5_linesFromWays_17 : decode cX5_linesFromWays 17 = .ok (.aload_n 0, 1) := by decide +kernel
theorem dX5_linesFromWays_18 : decode cX5_linesFromWays 18 = .ok (.iconst 0, 1) := by decide +kernel
theorem dX5_linesFromWays_19 : decode cX5_linesFromWays 19 = .ok (.bipush 20, 2) := by decide +kernel
theorem dX5_linesFromWays_21 : decode cX5_linesFromWays 21 = .ok (.iload_n 3, 1) := by decide +kernel
theorem dX5_linesFromWays_22 : decode cX5_linesFromWays 22 = .ok (.iadd, 1) := by decide +kernel
theorem dX5_linesFromWays_23 : decode cX5_linesFromWays 23 = .ok (.invokevirtual 32, 3) := by decide +kernel
theorem dX5_linesFromWays_26 : decode cX5_linesFromWays 26 = .ok (.iconst (-1), 1) := by decide +kernel
theorem dX5_linesFromWays_27 : decode cX5_linesFromWays 27 = .ok (.if_icmp .ne 9, 3) := by decide +kernel
theorem dX5_linesFromWays_30 : decode cX5_linesFromWays 30 = .ok (.iload_n 2, 1) := by decide +kernel
theorem dX5_linesFromWays_31 : decode cX5_linesFromWays 31 = .ok (.iconst 1, 1) := by decide +kernel
theorem dX5_linesFromWays_32 : decode cX5_linesFromWays 32 = .ok (.iload_n 3, 1) := by decide +kernel
theorem dX5_linesFromWays_33 : decode cX5_linesFromWays 33 = .ok (.ishl, 1) := by decide +kernel
theorem dX5_linesFromWays_34 : decode cX5_linesFromWays 34 = .ok (.ior, 1) := by decide +kernel
theorem dX5_linesFromWays_35 : decode cX5_linesFromWays 35 = .ok (.istore_n 2, 1) := by decide +kernel
theorem dX5_linesFromWays_36 : decode cX5_linesFromWays 36 = .ok (.iinc 3 1, 3) := by decide +kernel
theorem dX5_linesFromWays_39 : decode cX5_linesFromWays 39 = .ok (.goto (-30), 3) := by decide +kernel
theorem dX5_linesFromWays_42 : decode cX5_linesFromWays 42 = .ok (.iload_n 2, 1) := by decide +kernel
theorem dX5_linesFromWays_43 : decode cX5_linesFromWays 43 = .ok (.ireturn, 1) := by decide +kernel
theorem dX5_fewestOffers_0 : decode cX5_fewestOffers 0 = .ok (.aload_n 0, 1) := by decide +kernel
theorem dX5_fewestOffers_1 : decode cX5_fewestOffers 1 = .ok (.aload_n 1, 1) := by decide +kernel
theorem dX5_fewestOffers_2 : decode cX5_fewestOffers 2 = .ok (.invokevirtual 21, 3) := by decide +kernel
theorem dX5_fewestOffers_5 : decode cX5_fewestOffers 5 = .ok (.aload_n 0, 1) := by decide +kernel
theorem dX5_fewestOffers_6 : decode cX5_fewestOffers 6 = .ok (.iload_n 2, 1) := by decide +kernel
theorem dX5_fewestOffers_7 : decode cX5_fewestOffers 7 = .ok (.putfield 36, 3) := by decide +kernel
theorem dX5_fewestOffers_10 : decode cX5_fewestOffers 10 = .ok (.iconst (-1), 1) := by decide +kernel
theorem dX5_fewestOffers_11 : decode cX5_fewestOffers 11 = .ok (.istore_n 3, 1) := by decide +kernel
theorem dX5_fewestOffers_12 : decode cX5_fewestOffers 12 = .ok (.bipush 11, 2) := by decide +kernel
theorem dX5_fewestOffers_14 : decode cX5_fewestOffers 14 = .ok (.istore 4, 2) := by decide +kernel
theorem dX5_fewestOffers_16 : decode cX5_fewestOffers 16 = .ok (.aload_n 0, 1) := by decide +kernel
theorem dX5_fewestOffers_17 : decode cX5_fewestOffers 17 = .ok (.aload_n 1, 1) := by decide +kernel
theorem dX5_fewestOffers_18 : decode cX5_fewestOffers 18 = .ok (.getfield 39, 3) := by decide +kernel
theorem dX5_fewestOffers_21 : decode cX5_fewestOffers 21 = .ok (.invokevirtual 44, 3) := by decide +kernel
theorem dX5_fewestOffers_24 : decode cX5_fewestOffers 24 = .ok (.ifCond .eq 12, 3) := by decide +kernel
theorem dX5_fewestOffers_27 : decode cX5_fewestOffers 27 = .ok (.iconst 1, 1) := by decide +kernel
theorem dX5_fewestOffers_28 : decode cX5_fewestOffers 28 = .ok (.aload_n 1, 1) := by decide +kernel
theorem dX5_fewestOffers_29 : decode cX5_fewestOffers 29 = .ok (.getfield 39, 3) := by decide +kernel
theorem dX5_fewestOffers_32 : decode cX5_fewestOffers 32 = .ok (.ishl, 1) := by decide +kernel
theorem dX5_fewestOffers_33 : decode cX5_fewestOffers 33 = .ok (.goto 4, 3) := by decide +kernel
theorem dX5_fewestOffers_36 : decode cX5_fewestOffers 36 = .ok (.iconst 0, 1) := by decide +kernel
theorem dX5_fewestOffers_37 : decode cX5_fewestOffers 37 = .ok (.istore 5, 2) := by decide +kernel
theorem dX5_fewestOffers_39 : decode cX5_fewestOffers 39 = .ok (.iconst 0, 1) := by decide +kernel
theorem dX5_fewestOffers_40 : decode cX5_fewestOffers 40 = .ok (.istore 6, 2) := by decide +kernel
theorem dX5_fewestOffers_42 : decode cX5_fewestOffers 42 = .ok (.iload 6, 2) := by decide +kernel
theorem dX5_fewestOffers_44 : decode cX5_fewestOffers 44 = .ok (.iload 5, 2) := by decide +kernel
theorem dX5_fewestOffers_46 : decode cX5_fewestOffers 46 = .ok (.if_icmp .ge 48, 3) := by decide +kernel
theorem dX5_fewestOffers_49 : decode cX5_fewestOffers 49 = .ok (.iload 6, 2) := by decide +kernel
theorem dX5_fewestOffers_51 : decode cX5_fewestOffers 51 = .ok (.invokestatic 48, 3) := by decide +kernel
theorem dX5_fewestOffers_54 : decode cX5_fewestOffers 54 = .ok (.istore 7, 2) := by decide +kernel
theorem dX5_fewestOffers_56 : decode cX5_fewestOffers 56 = .ok (.iload 7, 2) := by decide +kernel
theorem dX5_fewestOffers_58 : decode cX5_fewestOffers 58 = .ok (.iload 4, 2) := by decide +kernel
theorem dX5_fewestOffers_60 : decode cX5_fewestOffers 60 = .ok (.if_icmp .ge 28, 3) := by decide +kernel
theorem dX5_fewestOffers_63 : decode cX5_fewestOffers 63 = .ok (.aload_n 0, 1) := by decide +kernel
theorem dX5_fewestOffers_64 : decode cX5_fewestOffers 64 = .ok (.iload 6, 2) := by decide +kernel
theorem dX5_fewestOffers_66 : decode cX5_fewestOffers 66 = .ok (.invokevirtual 54, 3) := by decide +kernel
theorem dX5_fewestOffers_69 : decode cX5_fewestOffers 69 = .ok (.ifCond .eq 19, 3) := by decide +kernel
theorem dX5_fewestOffers_72 : decode cX5_fewestOffers 72 = .ok (.aload_n 0, 1) := by decide +kernel
theorem dX5_fewestOffers_73 : decode cX5_fewestOffers 73 = .ok (.iload 7, 2) := by decide +kernel
theorem dX5_fewestOffers_75 : decode cX5_fewestOffers 75 = .ok (.invokevirtual 57, 3) := by decide +kernel
theorem dX5_fewestOffers_78 : decode cX5_fewestOffers 78 = .ok (.ifCond .eq 10, 3) := by decide +kernel
theorem dX5_fewestOffers_81 : decode cX5_fewestOffers 81 = .ok (.iload 6, 2) := by decide +kernel
theorem dX5_fewestOffers_83 : decode cX5_fewestOffers 83 = .ok (.istore_n 3, 1) := by decide +kernel
theorem dX5_fewestOffers_84 : decode cX5_fewestOffers 84 = .ok (.iload 7, 2) := by decide +kernel
theorem dX5_fewestOffers_86 : decode cX5_fewestOffers 86 = .ok (.istore 4, 2) := by decide +kernel
theorem dX5_fewestOffers_88 : decode cX5_fewestOffers 88 = .ok (.iinc 6 1, 3) := by decide +kernel
theorem dX5_fewestOffers_91 : decode cX5_fewestOffers 91 = .ok (.goto (-49), 3) := by decide +kernel
theorem dX5_fewestOffers_94 : decode cX5_fewestOffers 94 = .ok (.iload_n 3, 1) := by decide +kernel
theorem dX5_fewestOffers_95 : decode cX5_fewestOffers 95 = .ok (.ireturn, 1) := by decide +kernel
theorem dX5_startOf_0 : decode cX5_startOf 0 = .ok (.iload_n 0, 1) := by decide +kernel
theorem dX5_startOf_1 : decode cX5_startOf 1 = .ok (.bipush 30, 2) := by decide +kernel
theorem dX5_startOf_3 : decode cX5_startOf 3 = .ok (.imul, 1) := by decide +kernel
theorem dX5_startOf_4 : decode cX5_startOf 4 = .ok (.iload_n 1, 1) := by decide +kernel
theorem dX5_startOf_5 : decode cX5_startOf 5 = .ok (.iadd, 1) := by decide +kernel
theorem dX5_startOf_6 : decode cX5_startOf 6 = .ok (.bipush 10, 2) := by decide +kernel
theorem dX5_startOf_8 : decode cX5_startOf 8 = .ok (.imul, 1) := by decide +kernel
theorem dX5_startOf_9 : decode cX5_startOf 9 = .ok (.ireturn, 1) := by decide +kernel
theorem dX5_takeWays_0 : decode cX5_takeWays 0 = .ok (.aload_n 0, 1) := by decide +kernel
theorem dX5_takeWays_1 : decode cX5_takeWays 1 = .ok (.aload_n 1, 1) := by decide +kernel
theorem dX5_takeWays_2 : decode cX5_takeWays 2 = .ok (.invokevirtual 60, 3) := by decide +kernel
theorem dX5_takeWays_5 : decode cX5_takeWays 5 = .ok (.aload_n 0, 1) := by decide +kernel
theorem dX5_takeWays_6 : decode cX5_takeWays 6 = .ok (.iconst 0, 1) := by decide +kernel
theorem dX5_takeWays_7 : decode cX5_takeWays 7 = .ok (.putfield 25, 3) := by decide +kernel
theorem dX5_takeWays_10 : decode cX5_takeWays 10 = .ok (.aload_n 0, 1) := by decide +kernel
theorem dX5_takeWays_11 : decode cX5_takeWays 11 = .ok (.getfield 18, 3) := by decide +kernel
theorem dX5_takeWays_14 : decode cX5_takeWays 14 = .ok (.iconst 0, 1) := by decide +kernel
theorem dX5_takeWays_15 : decode cX5_takeWays 15 = .ok (.iconst 1, 1) := by decide +kernel
theorem dX5_takeWays_16 : decode cX5_takeWays 16 = .ok (.iastore, 1) := by decide +kernel
theorem dX5_takeWays_17 : decode cX5_takeWays 17 = .ok (.iconst 0, 1) := by decide +kernel
theorem dX5_takeWays_18 : decode cX5_takeWays 18 = .ok (.istore_n 2, 1) := by decide +kernel
theorem dX5_takeWays_19 : decode cX5_takeWays 19 = .ok (.iload_n 2, 1) := by decide +kernel
theorem dX5_takeWays_20 : decode cX5_takeWays 20 = .ok (.aload_n 1, 1) := by decide +kernel
theorem dX5_takeWays_21 : decode cX5_takeWays 21 = .ok (.getfield 63, 3) := by decide +kernel
theorem dX5_takeWays_24 : decode cX5_takeWays 24 = .ok (.if_icmp .ge 27, 3) := by decide +kernel
theorem dX5_takeWays_27 : decode cX5_takeWays 27 = .ok (.aload_n 0, 1) := by decide +kernel
theorem dX5_takeWays_28 : decode cX5_takeWays 28 = .ok (.iconst 0, 1) := by decide +kernel
theorem dX5_takeWays_29 : decode cX5_takeWays 29 = .ok (.iload_n 2, 1) := by decide +kernel
theorem dX5_takeWays_30 : decode cX5_takeWays 30 = .ok (.invokevirtual 32, 3) := by decide +kernel
theorem dX5_takeWays_33 : decode cX5_takeWays 33 = .ok (.istore_n 3, 1) := by decide +kernel
theorem dX5_takeWays_34 : decode cX5_takeWays 34 = .ok (.iload_n 3, 1) := by decide +kernel
theorem dX5_takeWays_35 : decode cX5_takeWays 35 = .ok (.iconst (-1), 1) := by decide +kernel
theorem dX5_takeWays_36 : decode cX5_takeWays 36 = .ok (.if_icmp .eq 9, 3) := by decide +kernel
theorem dX5_takeWays_39 : decode cX5_takeWays 39 = .ok (.aload_n 0, 1) := by decide +kernel
theorem dX5_takeWays_40 : decode cX5_takeWays 40 = .ok (.iload_n 2, 1) := by decide +kernel
theorem dX5_takeWays_41 : decode cX5_takeWays 41 = .ok (.iload_n 3, 1) := by decide +kernel
theorem dX5_takeWays_42 : decode cX5_takeWays 42 = .ok (.invokevirtual 66, 3) := by decide +kernel
theorem dX5_takeWays_45 : decode cX5_takeWays 45 = .ok (.iinc 2 1, 3) := by decide +kernel
theorem dX5_takeWays_48 : decode cX5_takeWays 48 = .ok (.goto (-29), 3) := by decide +kernel
theorem dX5_takeWays_51 : decode cX5_takeWays 51 = .ok (.return_, 1) := by decide +kernel
theorem dX5_load_0 : decode cX5_load 0 = .ok (.aload_n 0, 1) := by decide +kernel
theorem dX5_load_1 : decode cX5_load 1 = .ok (.aload_n 1, 1) := by decide +kernel
theorem dX5_load_2 : decode cX5_load 2 = .ok (.getfield 70, 3) := by decide +kernel
theorem dX5_load_5 : decode cX5_load 5 = .ok (.putfield 29, 3) := by decide +kernel
theorem dX5_load_8 : decode cX5_load 8 = .ok (.iconst 0, 1) := by decide +kernel
theorem dX5_load_9 : decode cX5_load 9 = .ok (.istore_n 2, 1) := by decide +kernel
theorem dX5_load_10 : decode cX5_load 10 = .ok (.iload_n 2, 1) := by decide +kernel
theorem dX5_load_11 : decode cX5_load 11 = .ok (.bipush 10, 2) := by decide +kernel
theorem dX5_load_13 : decode cX5_load 13 = .ok (.if_icmp .ge 50, 3) := by decide +kernel
theorem dX5_load_16 : decode cX5_load 16 = .ok (.iload_n 2, 1) := by decide +kernel
theorem dX5_load_17 : decode cX5_load 17 = .ok (.aload_n 1, 1) := by decide +kernel
theorem dX5_load_18 : decode cX5_load 18 = .ok (.getfield 63, 3) := by decide +kernel
theorem dX5_load_21 : decode cX5_load 21 = .ok (.if_icmp .ge 15, 3) := by decide +kernel
theorem dX5_load_24 : decode cX5_load 24 = .ok (.aload_n 1, 1) := by decide +kernel
theorem dX5_load_25 : decode cX5_load 25 = .ok (.iload_n 2, 1) := by decide +kernel
theorem dX5_load_26 : decode cX5_load 26 = .ok (.invokevirtual 71, 3) := by decide +kernel
theorem dX5_load_29 : decode cX5_load 29 = .ok (.ifCond .eq 7, 3) := by decide +kernel
theorem dX5_load_32 : decode cX5_load 32 = .ok (.iconst 1, 1) := by decide +kernel
theorem dX5_load_33 : decode cX5_load 33 = .ok (.goto 4, 3) := by decide +kernel
theorem dX5_load_36 : decode cX5_load 36 = .ok (.iconst 0, 1) := by decide +kernel
theorem dX5_load_37 : decode cX5_load 37 = .ok (.istore_n 3, 1) := by decide +kernel
theorem dX5_load_38 : decode cX5_load 38 = .ok (.aload_n 0, 1) := by decide +kernel
theorem dX5_load_39 : decode cX5_load 39 = .ok (.iload_n 2, 1) := by decide +kernel
theorem dX5_load_40 : decode cX5_load 40 = .ok (.iload_n 3, 1) := by decide +kernel
theorem dX5_load_41 : decode cX5_load 41 = .ok (.ifCond .eq 12, 3) := by decide +kernel
theorem dX5_load_44 : decode cX5_load 44 = .ok (.aload_n 1, 1) := by decide +kernel
theorem dX5_load_45 : decode cX5_load 45 = .ok (.getfield 74, 3) := by decide +kernel
theorem dX5_load_48 : decode cX5_load 48 = .ok (.iload_n 2, 1) := by decide +kernel
theorem dX5_load_49 : decode cX5_load 49 = .ok (.iaload, 1) := by decide +kernel
theorem dX5_load_50 : decode cX5_load 50 = .ok (.goto 4, 3) := by decide +kernel
theorem dX5_load_53 : decode cX5_load 53 = .ok (.iconst 0, 1) := by decide +kernel
theorem dX5_load_54 : decode cX5_load 54 = .ok (.invokevirtual 77, 3) := by decide +kernel
theorem dX5_load_57 : decode cX5_load 57 = .ok (.iinc 2 1, 3) := by decide +kernel
theorem dX5_load_60 : decode cX5_load 60 = .ok (.goto (-50), 3) := by decide +kernel
theorem dX5_load_63 : decode cX5_load 63 = .ok (.iconst 0, 1) := by decide +kernel
theorem dX5_load_64 : decode cX5_load 64 = .ok (.istore_n 2, 1) := by decide +kernel
theorem dX5_load_65 : decode cX5_load 65 = .ok (.iload_n 2, 1) := by decide +kernel
theorem dX5_load_66 : decode cX5_load 66 = .ok (.bipush 10, 2) := by decide +kernel
theorem dX5_load_68 : decode cX5_load 68 = .ok (.if_icmp .ge 35, 3) := by decide +kernel
theorem dX5_load_71 : decode cX5_load 71 = .ok (.aload_n 0, 1) := by decide +kernel
theorem dX5_load_72 : decode cX5_load 72 = .ok (.bipush 10, 2) := by decide +kernel
theorem dX5_load_74 : decode cX5_load 74 = .ok (.iload_n 2, 1) := by decide +kernel
theorem dX5_load_75 : decode cX5_load 75 = .ok (.iadd, 1) := by decide +kernel
theorem dX5_load_76 : decode cX5_load 76 = .ok (.iload_n 2, 1) := by decide +kernel
theorem dX5_load_77 : decode cX5_load 77 = .ok (.aload_n 1, 1) := by decide +kernel
theorem dX5_load_78 : decode cX5_load 78 = .ok (.getfield 39, 3) := by decide +kernel
theorem dX5_load_81 : decode cX5_load 81 = .ok (.if_icmp .ge 12, 3) := by decide +kernel
theorem dX5_load_84 : decode cX5_load 84 = .ok (.aload_n 1, 1) := by decide +kernel
theorem dX5_load_85 : decode cX5_load 85 = .ok (.getfield 80, 3) := by decide +kernel
theorem dX5_load_88 : decode cX5_load 88 = .ok (.iload_n 2, 1) := by decide +kernel
theorem dX5_load_89 : decode cX5_load 89 = .ok (.iaload, 1) := by decide +kernel
theorem dX5_load_90 : decode cX5_load 90 = .ok (.goto 4, 3) := by decide +kernel
theorem dX5_load_93 : decode cX5_load 93 = .ok (.iconst 0, 1) := by decide +kernel
theorem dX5_load_94 : decode cX5_load 94 = .ok (.invokevirtual 77, 3) := by decide +kernel
theorem dX5_load_97 : decode cX5_load 97 = .ok (.iinc 2 1, 3) := by decide +kernel
theorem dX5_load_100 : decode cX5_load 100 = .ok (.goto (-35), 3) := by decide +kernel
theorem dX5_load_103 : decode cX5_load 103 = .ok (.iconst 0, 1) := by decide +kernel
theorem dX5_load_104 : decode cX5_load 104 = .ok (.istore_n 2, 1) := by decide +kernel
theorem dX5_load_105 : decode cX5_load 105 = .ok (.iload_n 2, 1) := by decide +kernel
theorem dX5_load_106 : decode cX5_load 106 = .ok (.bipush 10, 2) := by decide +kernel
theorem dX5_load_108 : decode cX5_load 108 = .ok (.if_icmp .ge 20, 3) := by decide +kernel
theorem dX5_load_111 : decode cX5_load 111 = .ok (.aload_n 0, 1) := by decide +kernel
theorem dX5_load_112 : decode cX5_load 112 = .ok (.bipush 20, 2) := by decide +kernel
theorem dX5_load_114 : decode cX5_load 114 = .ok (.iload_n 2, 1) := by decide +kernel
theorem dX5_load_115 : decode cX5_load 115 = .ok (.iadd, 1) := by decide +kernel
theorem dX5_load_116 : decode cX5_load 116 = .ok (.iconst 1, 1) := by decide +kernel
theorem dX5_load_117 : decode cX5_load 117 = .ok (.iload_n 2, 1) := by decide +kernel
theorem dX5_load_118 : decode cX5_load 118 = .ok (.ishl, 1) := by decide +kernel
theorem dX5_load_119 : decode cX5_load 119 = .ok (.invokevirtual 77, 3) := by decide +kernel
theorem dX5_load_122 : decode cX5_load 122 = .ok (.iinc 2 1, 3) := by decide +kernel
theorem dX5_load_125 : decode cX5_load 125 = .ok (.goto (-20), 3) := by decide +kernel
theorem dX5_load_128 : decode cX5_load 128 = .ok (.return_, 1) := by decide +kernel
theorem dX5_loadRow_0 : decode cX5_loadRow 0 = .ok (.iconst 0, 1) := by decide +kernel
theorem dX5_loadRow_1 : decode cX5_loadRow 1 = .ok (.iload_n 1, 1) := by decide +kernel
theorem dX5_loadRow_2 : decode cX5_loadRow 2 = .ok (.invokestatic 83, 3) := by decide +kernel
theorem dX5_loadRow_5 : decode cX5_loadRow 5 = .ok (.istore_n 3, 1) := by decide +kernel
theorem dX5_loadRow_6 : decode cX5_loadRow 6 = .ok (.iconst 0, 1) := by decide +kernel
theorem dX5_loadRow_7 : decode cX5_loadRow 7 = .ok (.istore 4, 2) := by decide +kernel
theorem dX5_loadRow_9 : decode cX5_loadRow 9 = .ok (.iload 4, 2) := by decide +kernel
theorem dX5_loadRow_11 : decode cX5_loadRow 11 = .ok (.aload_n 0, 1) := by decide +kernel
theorem dX5_loadRow_12 : decode cX5_loadRow 12 = .ok (.getfield 29, 3) := by decide +kernel
theorem dX5_loadRow_15 : decode cX5_loadRow 15 = .ok (.if_icmp .ge 24, 3) := by decide +kernel
theorem dX5_loadRow_18 : decode cX5_loadRow 18 = .ok (.aload_n 0, 1) := by decide +kernel
theorem dX5_loadRow_19 : decode cX5_loadRow 19 = .ok (.getfield 11, 3) := by decide +kernel
theorem dX5_loadRow_22 : decode cX5_loadRow 22 = .ok (.iload_n 3, 1) := by decide +kernel
theorem dX5_loadRow_23 : decode cX5_loadRow 23 = .ok (.iload 4, 2) := by decide +kernel
theorem dX5_loadRow_25 : decode cX5_loadRow 25 = .ok (.iadd, 1) := by decide +kernel
theorem dX5_loadRow_26 : decode cX5_loadRow 26 = .ok (.iload_n 2, 1) := by decide +kernel
theorem dX5_loadRow_27 : decode cX5_loadRow 27 = .ok (.iload 4, 2) := by decide +kernel
theorem dX5_loadRow_29 : decode cX5_loadRow 29 = .ok (.invokestatic 86, 3) := by decide +kernel
theorem dX5_loadRow_32 : decode cX5_loadRow 32 = .ok (.iastore, 1) := by decide +kernel
theorem dX5_loadRow_33 : decode cX5_loadRow 33 = .ok (.iinc 4 1, 3) := by decide +kernel
theorem dX5_loadRow_36 : decode cX5_loadRow 36 = .ok (.goto (-27), 3) := by decide +kernel
theorem dX5_loadRow_39 : decode cX5_loadRow 39 = .ok (.return_, 1) := by decide +kernel
theorem dX5_firstFilledColumn_0 : decode cX5_firstFilledColumn 0 = .ok (.iload_n 1, 1) := by decide +kernel
theorem dX5_firstFilledColumn_1 : decode cX5_firstFilledColumn 1 = .ok (.iload_n 2, 1) := by decide +kernel
theorem dX5_firstFilledColumn_2 : decode cX5_firstFilledColumn 2 = .ok (.invokestatic 83, 3) := by decide +kernel
theorem dX5_firstFilledColumn_5 : decode cX5_firstFilledColumn 5 = .ok (.istore_n 3, 1) := by decide +kernel
theorem dX5_firstFilledColumn_6 : decode cX5_firstFilledColumn 6 = .ok (.iconst 0, 1) := by decide +kernel
theorem dX5_firstFilledColumn_7 : decode cX5_firstFilledColumn 7 = .ok (.istore 4, 2) := by decide +kernel
theorem dX5_firstFilledColumn_9 : decode cX5_firstFilledColumn 9 = .ok (.iload 4, 2) := by decide +kernel
theorem dX5_firstFilledColumn_11 : decode cX5_firstFilledColumn 11 = .ok (.aload_n 0, 1) := by decide +kernel
theorem dX5_firstFilledColumn_12 : decode cX5_firstFilledColumn 12 = .ok (.getfield 29, 3) := by decide +kernel
theorem dX5_firstFilledColumn_15 : decode cX5_firstFilledColumn 15 = .ok (.if_icmp .ge 24, 3) := by decide +kernel
theorem dX5_firstFilledColumn_18 : decode cX5_firstFilledColumn 18 = .ok (.aload_n 0, 1) := by decide +kernel
theorem dX5_firstFilledColumn_19 : decode cX5_firstFilledColumn 19 = .ok (.getfield 11, 3) := by decide +kernel
theorem dX5_firstFilledColumn_22 : decode cX5_firstFilledColumn 22 = .ok (.iload_n 3, 1) := by decide +kernel
theorem dX5_firstFilledColumn_23 : decode cX5_firstFilledColumn 23 = .ok (.iload 4, 2) := by decide +kernel
theorem dX5_firstFilledColumn_25 : decode cX5_firstFilledColumn 25 = .ok (.iadd, 1) := by decide +kernel
theorem dX5_firstFilledColumn_26 : decode cX5_firstFilledColumn 26 = .ok (.iaload, 1) := by decide +kernel
theorem dX5_firstFilledColumn_27 : decode cX5_firstFilledColumn 27 = .ok (.ifCond .eq 6, 3) := by decide +kernel
theorem dX5_firstFilledColumn_30 : decode cX5_firstFilledColumn 30 = .ok (.iload 4, 2) := by decide +kernel
theorem dX5_firstFilledColumn_32 : decode cX5_firstFilledColumn 32 = .ok (.ireturn, 1) := by decide +kernel
theorem dX5_firstFilledColumn_33 : decode cX5_firstFilledColumn 33 = .ok (.iinc 4 1, 3) := by decide +kernel
theorem dX5_firstFilledColumn_36 : decode cX5_firstFilledColumn 36 = .ok (.goto (-27), 3) := by decide +kernel
theorem dX5_firstFilledColumn_39 : decode cX5_firstFilledColumn 39 = .ok (.iconst (-1), 1) := by decide +kernel
theorem dX5_firstFilledColumn_40 : decode cX5_firstFilledColumn 40 = .ok (.ireturn, 1) := by decide +kernel
theorem dX5_takeWay_0 : decode cX5_takeWay 0 = .ok (.iconst 0, 1) := by decide +kernel
theorem dX5_takeWay_1 : decode cX5_takeWay 1 = .ok (.iload_n 1, 1) := by decide +kernel
theorem dX5_takeWay_2 : decode cX5_takeWay 2 = .ok (.invokestatic 83, 3) := by decide +kernel
theorem dX5_takeWay_5 : decode cX5_takeWay 5 = .ok (.istore_n 3, 1) := by decide +kernel
theorem dX5_takeWay_6 : decode cX5_takeWay 6 = .ok (.iload_n 1, 1) := by decide +kernel
theorem dX5_takeWay_7 : decode cX5_takeWay 7 = .ok (.iconst 1, 1) := by decide +kernel
theorem dX5_takeWay_8 : decode cX5_takeWay 8 = .ok (.iadd, 1) := by decide +kernel
theorem dX5_takeWay_9 : decode cX5_takeWay 9 = .ok (.istore 4, 2) := by decide +kernel
theorem dX5_takeWay_11 : decode cX5_takeWay 11 = .ok (.iload 4, 2) := by decide +kernel
theorem dX5_takeWay_13 : decode cX5_takeWay 13 = .ok (.bipush 20, 2) := by decide +kernel
theorem dX5_takeWay_15 : decode cX5_takeWay 15 = .ok (.aload_n 0, 1) := by decide +kernel
theorem dX5_takeWay_16 : decode cX5_takeWay 16 = .ok (.getfield 29, 3) := by decide +kernel
theorem dX5_takeWay_19 : decode cX5_takeWay 19 = .ok (.iadd, 1) := by decide +kernel
theorem dX5_takeWay_20 : decode cX5_takeWay 20 = .ok (.if_icmp .ge 33, 3) := by decide +kernel
theorem dX5_takeWay_23 : decode cX5_takeWay 23 = .ok (.aload_n 0, 1) := by decide +kernel
theorem dX5_takeWay_24 : decode cX5_takeWay 24 = .ok (.iconst 0, 1) := by decide +kernel
theorem dX5_takeWay_25 : decode cX5_takeWay 25 = .ok (.iload 4, 2) := by decide +kernel
theorem dX5_takeWay_27 : decode cX5_takeWay 27 = .ok (.invokestatic 83, 3) := by decide +kernel
theorem dX5_takeWay_30 : decode cX5_takeWay 30 = .ok (.iconst 0, 1) := by decide +kernel
theorem dX5_takeWay_31 : decode cX5_takeWay 31 = .ok (.iload 4, 2) := by decide +kernel
theorem dX5_takeWay_33 : decode cX5_takeWay 33 = .ok (.invokestatic 83, 3) := by decide +kernel
theorem dX5_takeWay_36 : decode cX5_takeWay 36 = .ok (.iload_n 3, 1) := by decide +kernel
theorem dX5_takeWay_37 : decode cX5_takeWay 37 = .ok (.iload_n 2, 1) := by decide +kernel
theorem dX5_takeWay_38 : decode cX5_takeWay 38 = .ok (.aload_n 0, 1) := by decide +kernel
theorem dX5_takeWay_39 : decode cX5_takeWay 39 = .ok (.getfield 18, 3) := by decide +kernel
theorem dX5_takeWay_42 : decode cX5_takeWay 42 = .ok (.iconst 0, 1) := by decide +kernel
theorem dX5_takeWay_43 : decode cX5_takeWay 43 = .ok (.iaload, 1) := by decide +kernel
theorem dX5_takeWay_44 : decode cX5_takeWay 44 = .ok (.invokevirtual 89, 3) := by decide +kernel
theorem dX5_takeWay_47 : decode cX5_takeWay 47 = .ok (.iinc 4 1, 3) := by decide +kernel
theorem dX5_takeWay_50 : decode cX5_takeWay 50 = .ok (.goto (-39), 3) := by decide +kernel
theorem dX5_takeWay_53 : decode cX5_takeWay 53 = .ok (.aload_n 0, 1) := by decide +kernel
theorem dX5_takeWay_54 : decode cX5_takeWay 54 = .ok (.getfield 18, 3) := by decide +kernel
theorem dX5_takeWay_57 : decode cX5_takeWay 57 = .ok (.iconst 0, 1) := by decide +kernel
theorem dX5_takeWay_58 : decode cX5_takeWay 58 = .ok (.aload_n 0, 1) := by decide +kernel
theorem dX5_takeWay_59 : decode cX5_takeWay 59 = .ok (.getfield 11, 3) := by decide +kernel
theorem dX5_takeWay_62 : decode cX5_takeWay 62 = .ok (.iload_n 3, 1) := by decide +kernel
theorem dX5_takeWay_63 : decode cX5_takeWay 63 = .ok (.iload_n 2, 1) := by decide +kernel
theorem dX5_takeWay_64 : decode cX5_takeWay 64 = .ok (.iadd, 1) := by decide +kernel
theorem dX5_takeWay_65 : decode cX5_takeWay 65 = .ok (.iaload, 1) := by decide +kernel
theorem dX5_takeWay_66 : decode cX5_takeWay 66 = .ok (.iastore, 1) := by decide +kernel
theorem dX5_takeWay_67 : decode cX5_takeWay 67 = .ok (.aload_n 0, 1) := by decide +kernel
theorem dX5_takeWay_68 : decode cX5_takeWay 68 = .ok (.dup, 1) := by decide +kernel
theorem dX5_takeWay_69 : decode cX5_takeWay 69 = .ok (.getfield 25, 3) := by decide +kernel
theorem dX5_takeWay_72 : decode cX5_takeWay 72 = .ok (.iconst 1, 1) := by decide +kernel
theorem dX5_takeWay_73 : decode cX5_takeWay 73 = .ok (.iadd, 1) := by decide +kernel
theorem dX5_takeWay_74 : decode cX5_takeWay 74 = .ok (.putfield 25, 3) := by decide +kernel
theorem dX5_takeWay_77 : decode cX5_takeWay 77 = .ok (.return_, 1) := by decide +kernel
theorem dX5_takeSet_0 : decode cX5_takeSet 0 = .ok (.iload_n 1, 1) := by decide +kernel
theorem dX5_takeSet_1 : decode cX5_takeSet 1 = .ok (.ifCond .ne 5, 3) := by decide +kernel
theorem dX5_takeSet_4 : decode cX5_takeSet 4 = .ok (.iconst 1, 1) := by decide +kernel
theorem dX5_takeSet_5 : decode cX5_takeSet 5 = .ok (.ireturn, 1) := by decide +kernel
theorem dX5_takeSet_6 : decode cX5_takeSet 6 = .ok (.iload_n 1, 1) := by decide +kernel
theorem dX5_takeSet_7 : decode cX5_takeSet 7 = .ok (.invokestatic 48, 3) := by decide +kernel
theorem dX5_takeSet_10 : decode cX5_takeSet 10 = .ok (.iconst 1, 1) := by decide +kernel
theorem dX5_takeSet_11 : decode cX5_takeSet 11 = .ok (.isub, 1) := by decide +kernel
theorem dX5_takeSet_12 : decode cX5_takeSet 12 = .ok (.istore_n 2, 1) := by decide +kernel
theorem dX5_takeSet_13 : decode cX5_takeSet 13 = .ok (.aload_n 0, 1) := by decide +kernel
theorem dX5_takeSet_14 : decode cX5_takeSet 14 = .ok (.getfield 15, 3) := by decide +kernel
theorem dX5_takeSet_17 : decode cX5_takeSet 17 = .ok (.iload_n 2, 1) := by decide +kernel
theorem dX5_takeSet_18 : decode cX5_takeSet 18 = .ok (.iaload, 1) := by decide +kernel
theorem dX5_takeSet_19 : decode cX5_takeSet 19 = .ok (.iload_n 1, 1) := by decide +kernel
theorem dX5_takeSet_20 : decode cX5_takeSet 20 = .ok (.iload_n 1, 1) := by decide +kernel
theorem dX5_takeSet_21 : decode cX5_takeSet 21 = .ok (.iconst 1, 1) := by decide +kernel
theorem dX5_takeSet_22 : decode cX5_takeSet 22 = .ok (.isub, 1) := by decide +kernel
theorem dX5_takeSet_23 : decode cX5_takeSet 23 = .ok (.iand, 1) := by decide +kernel
theorem dX5_takeSet_24 : decode cX5_takeSet 24 = .ok (.if_icmp .eq 5, 3) := by decide +kernel
theorem dX5_takeSet_27 : decode cX5_takeSet 27 = .ok (.iconst 0, 1) := by decide +kernel
theorem dX5_takeSet_28 : decode cX5_takeSet 28 = .ok (.ireturn, 1) := by decide +kernel
theorem dX5_takeSet_29 : decode cX5_takeSet 29 = .ok (.iload_n 1, 1) := by decide +kernel
theorem dX5_takeSet_30 : decode cX5_takeSet 30 = .ok (.iconst 1, 1) := by decide +kernel
theorem dX5_takeSet_31 : decode cX5_takeSet 31 = .ok (.isub, 1) := by decide +kernel
theorem dX5_takeSet_32 : decode cX5_takeSet 32 = .ok (.iload_n 1, 1) := by decide +kernel
theorem dX5_takeSet_33 : decode cX5_takeSet 33 = .ok (.iconst (-1), 1) := by decide +kernel
theorem dX5_takeSet_34 : decode cX5_takeSet 34 = .ok (.ixor, 1) := by decide +kernel
theorem dX5_takeSet_35 : decode cX5_takeSet 35 = .ok (.iand, 1) := by decide +kernel
theorem dX5_takeSet_36 : decode cX5_takeSet 36 = .ok (.invokestatic 48, 3) := by decide +kernel
theorem dX5_takeSet_39 : decode cX5_takeSet 39 = .ok (.istore_n 3, 1) := by decide +kernel
theorem dX5_takeSet_40 : decode cX5_takeSet 40 = .ok (.aload_n 0, 1) := by decide +kernel
theorem dX5_takeSet_41 : decode cX5_takeSet 41 = .ok (.iload_n 2, 1) := by decide +kernel
theorem dX5_takeSet_42 : decode cX5_takeSet 42 = .ok (.iload_n 3, 1) := by decide +kernel
theorem dX5_takeSet_43 : decode cX5_takeSet 43 = .ok (.invokevirtual 93, 3) := by decide +kernel
theorem dX5_takeSet_46 : decode cX5_takeSet 46 = .ok (.ireturn, 1) := by decide +kernel
theorem dX5_takeOffer_0 : decode cX5_takeOffer 0 = .ok (.iload_n 1, 1) := by decide +kernel
theorem dX5_takeOffer_1 : decode cX5_takeOffer 1 = .ok (.bipush 10, 2) := by decide +kernel
theorem dX5_takeOffer_3 : decode cX5_takeOffer 3 = .ok (.if_icmp .ge 15, 3) := by decide +kernel
theorem dX5_takeOffer_6 : decode cX5_takeOffer 6 = .ok (.aload_n 0, 1) := by decide +kernel
theorem dX5_takeOffer_7 : decode cX5_takeOffer 7 = .ok (.iload_n 1, 1) := by decide +kernel
theorem dX5_takeOffer_8 : decode cX5_takeOffer 8 = .ok (.bipush 10, 2) := by decide +kernel
theorem dX5_takeOffer_10 : decode cX5_takeOffer 10 = .ok (.iload_n 2, 1) := by decide +kernel
theorem dX5_takeOffer_11 : decode cX5_takeOffer 11 = .ok (.iadd, 1) := by decide +kernel
theorem dX5_takeOffer_12 : decode cX5_takeOffer 12 = .ok (.invokevirtual 32, 3) := by decide +kernel
theorem dX5_takeOffer_15 : decode cX5_takeOffer 15 = .ok (.goto 4, 3) := by decide +kernel
theorem dX5_takeOffer_18 : decode cX5_takeOffer 18 = .ok (.iconst (-1), 1) := by decide +kernel
theorem dX5_takeOffer_19 : decode cX5_takeOffer 19 = .ok (.istore_n 3, 1) := by decide +kernel
theorem dX5_takeOffer_20 : decode cX5_takeOffer 20 = .ok (.iload_n 3, 1) := by decide +kernel
theorem dX5_takeOffer_21 : decode cX5_takeOffer 21 = .ok (.iconst (-1), 1) := by decide +kernel
theorem dX5_takeOffer_22 : decode cX5_takeOffer 22 = .ok (.if_icmp .ne 5, 3) := by decide +kernel
theorem dX5_takeOffer_25 : decode cX5_takeOffer 25 = .ok (.iconst 0, 1) := by decide +kernel
theorem dX5_takeOffer_26 : decode cX5_takeOffer 26 = .ok (.ireturn, 1) := by decide +kernel
theorem dX5_takeOffer_27 : decode cX5_takeOffer 27 = .ok (.iload_n 1, 1) := by decide +kernel
theorem dX5_takeOffer_28 : decode cX5_takeOffer 28 = .ok (.bipush 10, 2) := by decide +kernel
theorem dX5_takeOffer_30 : decode cX5_takeOffer 30 = .ok (.iload_n 2, 1) := by decide +kernel
theorem dX5_takeOffer_31 : decode cX5_takeOffer 31 = .ok (.iadd, 1) := by decide +kernel
theorem dX5_takeOffer_32 : decode cX5_takeOffer 32 = .ok (.invokestatic 83, 3) := by decide +kernel
theorem dX5_takeOffer_35 : decode cX5_takeOffer 35 = .ok (.istore 4, 2) := by decide +kernel
theorem dX5_takeOffer_37 : decode cX5_takeOffer 37 = .ok (.bipush 10, 2) := by decide +kernel
theorem dX5_takeOffer_39 : decode cX5_takeOffer 39 = .ok (.istore 5, 2) := by decide +kernel
theorem dX5_takeOffer_41 : decode cX5_takeOffer 41 = .ok (.iload 5, 2) := by decide +kernel
theorem dX5_takeOffer_43 : decode cX5_takeOffer 43 = .ok (.bipush 20, 2) := by decide +kernel
theorem dX5_takeOffer_45 : decode cX5_takeOffer 45 = .ok (.aload_n 0, 1) := by decide +kernel
theorem dX5_takeOffer_46 : decode cX5_takeOffer 46 = .ok (.getfield 29, 3) := by decide +kernel
theorem dX5_takeOffer_49 : decode cX5_takeOffer 49 = .ok (.iadd, 1) := by decide +kernel
theorem dX5_takeOffer_50 : decode cX5_takeOffer 50 = .ok (.if_icmp .ge 88, 3) := by decide +kernel
theorem dX5_takeOffer_53 : decode cX5_takeOffer 53 = .ok (.iload 5, 2) := by decide +kernel
theorem dX5_takeOffer_55 : decode cX5_takeOffer 55 = .ok (.bipush 20, 2) := by decide +kernel
theorem dX5_takeOffer_57 : decode cX5_takeOffer 57 = .ok (.if_icmp .ge 20, 3) := by decide +kernel
theorem dX5_takeOffer_60 : decode cX5_takeOffer 60 = .ok (.iload 5, 2) := by decide +kernel
theorem dX5_takeOffer_62 : decode cX5_takeOffer 62 = .ok (.bipush 10, 2) := by decide +kernel
theorem dX5_takeOffer_64 : decode cX5_takeOffer 64 = .ok (.iload_n 2, 1) := by decide +kernel
theorem dX5_takeOffer_65 : decode cX5_takeOffer 65 = .ok (.iadd, 1) := by decide +kernel
theorem dX5_takeOffer_66 : decode cX5_takeOffer 66 = .ok (.if_icmp .ge 7, 3) := by decide +kernel
theorem dX5_takeOffer_69 : decode cX5_takeOffer 69 = .ok (.iconst 1, 1) := by decide +kernel
theorem dX5_takeOffer_70 : decode cX5_takeOffer 70 = .ok (.goto 28, 3) := by decide +kernel
theorem dX5_takeOffer_73 : decode cX5_takeOffer 73 = .ok (.iconst 0, 1) := by decide +kernel
theorem dX5_takeOffer_74 : decode cX5_takeOffer 74 = .ok (.goto 24, 3) := by decide +kernel
theorem dX5_takeOffer_77 : decode cX5_takeOffer 77 = .ok (.aload_n 0, 1) := by decide +kernel
theorem dX5_takeOffer_78 : decode cX5_takeOffer 78 = .ok (.getfield 36, 3) := by decide +kernel
theorem dX5_takeOffer_81 : decode cX5_takeOffer 81 = .ok (.iload 5, 2) := by decide +kernel
theorem dX5_takeOffer_83 : decode cX5_takeOffer 83 = .ok (.bipush 20, 2) := by decide +kernel
theorem dX5_takeOffer_85 : decode cX5_takeOffer 85 = .ok (.isub, 1) := by decide +kernel
theorem dX5_takeOffer_86 : decode cX5_takeOffer 86 = .ok (.invokestatic 86, 3) := by decide +kernel
theorem dX5_takeOffer_89 : decode cX5_takeOffer 89 = .ok (.iconst 1, 1) := by decide +kernel
theorem dX5_takeOffer_90 : decode cX5_takeOffer 90 = .ok (.if_icmp .ne 7, 3) := by decide +kernel
theorem dX5_takeOffer_93 : decode cX5_takeOffer 93 = .ok (.iconst 1, 1) := by decide +kernel
theorem dX5_takeOffer_94 : decode cX5_takeOffer 94 = .ok (.goto 4, 3) := by decide +kernel
theorem dX5_takeOffer_97 : decode cX5_takeOffer 97 = .ok (.iconst 0, 1) := by decide +kernel
theorem dX5_takeOffer_98 : decode cX5_takeOffer 98 = .ok (.istore 6, 2) := by decide +kernel
theorem dX5_takeOffer_100 : decode cX5_takeOffer 100 = .ok (.iload 6, 2) := by decide +kernel
theorem dX5_takeOffer_102 : decode cX5_takeOffer 102 = .ok (.ifCond .eq 30, 3) := by decide +kernel
theorem dX5_takeOffer_105 : decode cX5_takeOffer 105 = .ok (.aload_n 0, 1) := by decide +kernel
theorem dX5_takeOffer_106 : decode cX5_takeOffer 106 = .ok (.iload_n 1, 1) := by decide +kernel
theorem dX5_takeOffer_107 : decode cX5_takeOffer 107 = .ok (.iload 5, 2) := by decide +kernel
theorem dX5_takeOffer_109 : decode cX5_takeOffer 109 = .ok (.invokestatic 83, 3) := by decide +kernel
theorem dX5_takeOffer_112 : decode cX5_takeOffer 112 = .ok (.iload_n 1, 1) := by decide +kernel
theorem dX5_takeOffer_113 : decode cX5_takeOffer 113 = .ok (.iconst 1, 1) := by decide +kernel
theorem dX5_takeOffer_114 : decode cX5_takeOffer 114 = .ok (.iadd, 1) := by decide +kernel
theorem dX5_takeOffer_115 : decode cX5_takeOffer 115 = .ok (.iload 5, 2) := by decide +kernel
theorem dX5_takeOffer_117 : decode cX5_takeOffer 117 = .ok (.invokestatic 83, 3) := by decide +kernel
theorem dX5_takeOffer_120 : decode cX5_takeOffer 120 = .ok (.iload 4, 2) := by decide +kernel
theorem dX5_takeOffer_122 : decode cX5_takeOffer 122 = .ok (.iload_n 3, 1) := by decide +kernel
theorem dX5_takeOffer_123 : decode cX5_takeOffer 123 = .ok (.aload_n 0, 1) := by decide +kernel
theorem dX5_takeOffer_124 : decode cX5_takeOffer 124 = .ok (.getfield 18, 3) := by decide +kernel
theorem dX5_takeOffer_127 : decode cX5_takeOffer 127 = .ok (.iload_n 1, 1) := by decide +kernel
theorem dX5_takeOffer_128 : decode cX5_takeOffer 128 = .ok (.iaload, 1) := by decide +kernel
theorem dX5_takeOffer_129 : decode cX5_takeOffer 129 = .ok (.invokevirtual 89, 3) := by decide +kernel
theorem dX5_takeOffer_132 : decode cX5_takeOffer 132 = .ok (.iinc 5 1, 3) := by decide +kernel
theorem dX5_takeOffer_135 : decode cX5_takeOffer 135 = .ok (.goto (-94), 3) := by decide +kernel
theorem dX5_takeOffer_138 : decode cX5_takeOffer 138 = .ok (.aload_n 0, 1) := by decide +kernel
theorem dX5_takeOffer_139 : decode cX5_takeOffer 139 = .ok (.getfield 18, 3) := by decide +kernel
theorem dX5_takeOffer_142 : decode cX5_takeOffer 142 = .ok (.iload_n 1, 1) := by decide +kernel
theorem dX5_takeOffer_143 : decode cX5_takeOffer 143 = .ok (.iconst 1, 1) := by decide +kernel
theorem dX5_takeOffer_144 : decode cX5_takeOffer 144 = .ok (.iadd, 1) := by decide +kernel
theorem dX5_takeOffer_145 : decode cX5_takeOffer 145 = .ok (.aload_n 0, 1) := by decide +kernel
theorem dX5_takeOffer_146 : decode cX5_takeOffer 146 = .ok (.getfield 11, 3) := by decide +kernel
theorem dX5_takeOffer_149 : decode cX5_takeOffer 149 = .ok (.iload 4, 2) := by decide +kernel
theorem dX5_takeOffer_151 : decode cX5_takeOffer 151 = .ok (.iload_n 3, 1) := by decide +kernel
theorem dX5_takeOffer_152 : decode cX5_takeOffer 152 = .ok (.iadd, 1) := by decide +kernel
theorem dX5_takeOffer_153 : decode cX5_takeOffer 153 = .ok (.iaload, 1) := by decide +kernel
theorem dX5_takeOffer_154 : decode cX5_takeOffer 154 = .ok (.iastore, 1) := by decide +kernel
theorem dX5_takeOffer_155 : decode cX5_takeOffer 155 = .ok (.aload_n 0, 1) := by decide +kernel
theorem dX5_takeOffer_156 : decode cX5_takeOffer 156 = .ok (.getfield 15, 3) := by decide +kernel
theorem dX5_takeOffer_159 : decode cX5_takeOffer 159 = .ok (.iload_n 1, 1) := by decide +kernel
theorem dX5_takeOffer_160 : decode cX5_takeOffer 160 = .ok (.iconst 1, 1) := by decide +kernel
theorem dX5_takeOffer_161 : decode cX5_takeOffer 161 = .ok (.iadd, 1) := by decide +kernel
theorem dX5_takeOffer_162 : decode cX5_takeOffer 162 = .ok (.aload_n 0, 1) := by decide +kernel
theorem dX5_takeOffer_163 : decode cX5_takeOffer 163 = .ok (.getfield 15, 3) := by decide +kernel
theorem dX5_takeOffer_166 : decode cX5_takeOffer 166 = .ok (.iload_n 1, 1) := by decide +kernel
theorem dX5_takeOffer_167 : decode cX5_takeOffer 167 = .ok (.iaload, 1) := by decide +kernel
theorem dX5_takeOffer_168 : decode cX5_takeOffer 168 = .ok (.iconst 1, 1) := by decide +kernel
theorem dX5_takeOffer_169 : decode cX5_takeOffer 169 = .ok (.iload_n 2, 1) := by decide +kernel
theorem dX5_takeOffer_170 : decode cX5_takeOffer 170 = .ok (.ishl, 1) := by decide +kernel
theorem dX5_takeOffer_171 : decode cX5_takeOffer 171 = .ok (.ior, 1) := by decide +kernel
theorem dX5_takeOffer_172 : decode cX5_takeOffer 172 = .ok (.iastore, 1) := by decide +kernel
theorem dX5_takeOffer_173 : decode cX5_takeOffer 173 = .ok (.iconst 1, 1) := by decide +kernel
theorem dX5_takeOffer_174 : decode cX5_takeOffer 174 = .ok (.ireturn, 1) := by decide +kernel
theorem dX5_clearColumn_0 : decode cX5_clearColumn 0 = .ok (.iload 5, 2) := by decide +kernel
theorem dX5_clearColumn_2 : decode cX5_clearColumn 2 = .ok (.ifCond .ne 4, 3) := by decide +kernel
theorem dX5_clearColumn_5 : decode cX5_clearColumn 5 = .ok (.return_, 1) := by decide +kernel
theorem dX5_clearColumn_6 : decode cX5_clearColumn 6 = .ok (.aload_n 0, 1) := by decide +kernel
theorem dX5_clearColumn_7 : decode cX5_clearColumn 7 = .ok (.getfield 11, 3) := by decide +kernel
theorem dX5_clearColumn_10 : decode cX5_clearColumn 10 = .ok (.iload_n 3, 1) := by decide +kernel
theorem dX5_clearColumn_11 : decode cX5_clearColumn 11 = .ok (.iload 4, 2) := by decide +kernel
theorem dX5_clearColumn_13 : decode cX5_clearColumn 13 = .ok (.iadd, 1) := by decide +kernel
theorem dX5_clearColumn_14 : decode cX5_clearColumn 14 = .ok (.iaload, 1) := by decide +kernel
theorem dX5_clearColumn_15 : decode cX5_clearColumn 15 = .ok (.istore 6, 2) := by decide +kernel
theorem dX5_clearColumn_17 : decode cX5_clearColumn 17 = .ok (.aload_n 0, 1) := by decide +kernel
theorem dX5_clearColumn_18 : decode cX5_clearColumn 18 = .ok (.getfield 11, 3) := by decide +kernel
theorem dX5_clearColumn_21 : decode cX5_clearColumn 21 = .ok (.iload_n 1, 1) := by decide +kernel
theorem dX5_clearColumn_22 : decode cX5_clearColumn 22 = .ok (.iload 4, 2) := by decide +kernel
theorem dX5_clearColumn_24 : decode cX5_clearColumn 24 = .ok (.iadd, 1) := by decide +kernel
theorem dX5_clearColumn_25 : decode cX5_clearColumn 25 = .ok (.iaload, 1) := by decide +kernel
theorem dX5_clearColumn_26 : decode cX5_clearColumn 26 = .ok (.istore 7, 2) := by decide +kernel
theorem dX5_clearColumn_28 : decode cX5_clearColumn 28 = .ok (.iconst 0, 1) := by decide +kernel
theorem dX5_clearColumn_29 : decode cX5_clearColumn 29 = .ok (.istore 8, 2) := by decide +kernel
theorem dX5_clearColumn_31 : decode cX5_clearColumn 31 = .ok (.iload 8, 2) := by decide +kernel
theorem dX5_clearColumn_33 : decode cX5_clearColumn 33 = .ok (.aload_n 0, 1) := by decide +kernel
theorem dX5_clearColumn_34 : decode cX5_clearColumn 34 = .ok (.getfield 29, 3) := by decide +kernel
theorem dX5_clearColumn_37 : decode cX5_clearColumn 37 = .ok (.if_icmp .ge 50, 3) := by decide +kernel
theorem dX5_clearColumn_40 : decode cX5_clearColumn 40 = .ok (.aload_n 0, 1) := by decide +kernel
theorem dX5_clearColumn_41 : decode cX5_clearColumn 41 = .ok (.getfield 11, 3) := by decide +kernel
theorem dX5_clearColumn_44 : decode cX5_clearColumn 44 = .ok (.iload_n 1, 1) := by decide +kernel
theorem dX5_clearColumn_45 : decode cX5_clearColumn 45 = .ok (.iload 8, 2) := by decide +kernel
theorem dX5_clearColumn_47 : decode cX5_clearColumn 47 = .ok (.iadd, 1) := by decide +kernel
theorem dX5_clearColumn_48 : decode cX5_clearColumn 48 = .ok (.iaload, 1) := by decide +kernel
theorem dX5_clearColumn_49 : decode cX5_clearColumn 49 = .ok (.iload 6, 2) := by decide +kernel
theorem dX5_clearColumn_51 : decode cX5_clearColumn 51 = .ok (.imul, 1) := by decide +kernel
theorem dX5_clearColumn_52 : decode cX5_clearColumn 52 = .ok (.iload 7, 2) := by decide +kernel
theorem dX5_clearColumn_54 : decode cX5_clearColumn 54 = .ok (.aload_n 0, 1) := by decide +kernel
theorem dX5_clearColumn_55 : decode cX5_clearColumn 55 = .ok (.getfield 11, 3) := by decide +kernel
theorem dX5_clearColumn_58 : decode cX5_clearColumn 58 = .ok (.iload_n 3, 1) := by decide +kernel
theorem dX5_clearColumn_59 : decode cX5_clearColumn 59 = .ok (.iload 8, 2) := by decide +kernel
theorem dX5_clearColumn_61 : decode cX5_clearColumn 61 = .ok (.iadd, 1) := by decide +kernel
theorem dX5_clearColumn_62 : decode cX5_clearColumn 62 = .ok (.iaload, 1) := by decide +kernel
theorem dX5_clearColumn_63 : decode cX5_clearColumn 63 = .ok (.imul, 1) := by decide +kernel
theorem dX5_clearColumn_64 : decode cX5_clearColumn 64 = .ok (.isub, 1) := by decide +kernel
theorem dX5_clearColumn_65 : decode cX5_clearColumn 65 = .ok (.istore 9, 2) := by decide +kernel
theorem dX5_clearColumn_67 : decode cX5_clearColumn 67 = .ok (.aload_n 0, 1) := by decide +kernel
theorem dX5_clearColumn_68 : decode cX5_clearColumn 68 = .ok (.getfield 11, 3) := by decide +kernel
theorem dX5_clearColumn_71 : decode cX5_clearColumn 71 = .ok (.iload_n 2, 1) := by decide +kernel
theorem dX5_clearColumn_72 : decode cX5_clearColumn 72 = .ok (.iload 8, 2) := by decide +kernel
theorem dX5_clearColumn_74 : decode cX5_clearColumn 74 = .ok (.iadd, 1) := by decide +kernel
theorem dX5_clearColumn_75 : decode cX5_clearColumn 75 = .ok (.iload 9, 2) := by decide +kernel
theorem dX5_clearColumn_77 : decode cX5_clearColumn 77 = .ok (.iload 5, 2) := by decide +kernel
theorem dX5_clearColumn_79 : decode cX5_clearColumn 79 = .ok (.idiv, 1) := by decide +kernel
theorem dX5_clearColumn_80 : decode cX5_clearColumn 80 = .ok (.iastore, 1) := by decide +kernel
theorem dX5_clearColumn_81 : decode cX5_clearColumn 81 = .ok (.iinc 8 1, 3) := by decide +kernel
theorem dX5_clearColumn_84 : decode cX5_clearColumn 84 = .ok (.goto (-53), 3) := by decide +kernel
theorem dX5_clearColumn_87 : decode cX5_clearColumn 87 = .ok (.return_, 1) := by decide +kernel
theorem dX5_allAskedAreEmpty_0 : decode cX5_allAskedAreEmpty 0 = .ok (.iconst 0, 1) := by decide +kernel
theorem dX5_allAskedAreEmpty_1 : decode cX5_allAskedAreEmpty 1 = .ok (.istore_n 2, 1) := by decide +kernel
theorem dX5_allAskedAreEmpty_2 : decode cX5_allAskedAreEmpty 2 = .ok (.iload_n 2, 1) := by decide +kernel
theorem dX5_allAskedAreEmpty_3 : decode cX5_allAskedAreEmpty 3 = .ok (.aload_n 0, 1) := by decide +kernel
theorem dX5_allAskedAreEmpty_4 : decode cX5_allAskedAreEmpty 4 = .ok (.getfield 29, 3) := by decide +kernel
theorem dX5_allAskedAreEmpty_7 : decode cX5_allAskedAreEmpty 7 = .ok (.if_icmp .ge 36, 3) := by decide +kernel
theorem dX5_allAskedAreEmpty_10 : decode cX5_allAskedAreEmpty 10 = .ok (.aload_n 0, 1) := by decide +kernel
theorem dX5_allAskedAreEmpty_11 : decode cX5_allAskedAreEmpty 11 = .ok (.getfield 36, 3) := by decide +kernel
theorem dX5_allAskedAreEmpty_14 : decode cX5_allAskedAreEmpty 14 = .ok (.iload_n 2, 1) := by decide +kernel
theorem dX5_allAskedAreEmpty_15 : decode cX5_allAskedAreEmpty 15 = .ok (.invokestatic 86, 3) := by decide +kernel
theorem dX5_allAskedAreEmpty_18 : decode cX5_allAskedAreEmpty 18 = .ok (.iconst 1, 1) := by decide +kernel
theorem dX5_allAskedAreEmpty_19 : decode cX5_allAskedAreEmpty 19 = .ok (.if_icmp .ne 18, 3) := by decide +kernel
theorem dX5_allAskedAreEmpty_22 : decode cX5_allAskedAreEmpty 22 = .ok (.aload_n 0, 1) := by decide +kernel
theorem dX5_allAskedAreEmpty_23 : decode cX5_allAskedAreEmpty 23 = .ok (.iload_n 1, 1) := by decide +kernel
theorem dX5_allAskedAreEmpty_24 : decode cX5_allAskedAreEmpty 24 = .ok (.bipush 20, 2) := by decide +kernel
theorem dX5_allAskedAreEmpty_26 : decode cX5_allAskedAreEmpty 26 = .ok (.iload_n 2, 1) := by decide +kernel
theorem dX5_allAskedAreEmpty_27 : decode cX5_allAskedAreEmpty 27 = .ok (.iadd, 1) := by decide +kernel
theorem dX5_allAskedAreEmpty_28 : decode cX5_allAskedAreEmpty 28 = .ok (.invokevirtual 32, 3) := by decide +kernel
theorem dX5_allAskedAreEmpty_31 : decode cX5_allAskedAreEmpty 31 = .ok (.iconst (-1), 1) := by decide +kernel
theorem dX5_allAskedAreEmpty_32 : decode cX5_allAskedAreEmpty 32 = .ok (.if_icmp .eq 5, 3) := by decide +kernel
theorem dX5_allAskedAreEmpty_35 : decode cX5_allAskedAreEmpty 35 = .ok (.iconst 0, 1) := by decide +kernel
theorem dX5_allAskedAreEmpty_36 : decode cX5_allAskedAreEmpty 36 = .ok (.ireturn, 1) := by decide +kernel
theorem dX5_allAskedAreEmpty_37 : decode cX5_allAskedAreEmpty 37 = .ok (.iinc 2 1, 3) := by decide +kernel
theorem dX5_allAskedAreEmpty_40 : decode cX5_allAskedAreEmpty 40 = .ok (.goto (-38), 3) := by decide +kernel
theorem dX5_allAskedAreEmpty_43 : decode cX5_allAskedAreEmpty 43 = .ok (.iconst 1, 1) := by decide +kernel
theorem dX5_allAskedAreEmpty_44 : decode cX5_allAskedAreEmpty 44 = .ok (.ireturn, 1) := by decide +kernel
theorem dX5_allOffersDo_0 : decode cX5_allOffersDo 0 = .ok (.aload_n 0, 1) := by decide +kernel
theorem dX5_allOffersDo_1 : decode cX5_allOffersDo 1 = .ok (.getfield 15, 3) := by decide +kernel
theorem dX5_allOffersDo_4 : decode cX5_allOffersDo 4 = .ok (.iconst (-1), 1) := by decide +kernel
theorem dX5_allOffersDo_5 : decode cX5_allOffersDo 5 = .ok (.invokestatic 97, 3) := by decide +kernel
theorem dX5_allOffersDo_8 : decode cX5_allOffersDo 8 = .ok (.aload_n 0, 1) := by decide +kernel
theorem dX5_allOffersDo_9 : decode cX5_allOffersDo 9 = .ok (.getfield 15, 3) := by decide +kernel
theorem dX5_allOffersDo_12 : decode cX5_allOffersDo 12 = .ok (.iconst 0, 1) := by decide +kernel
theorem dX5_allOffersDo_13 : decode cX5_allOffersDo 13 = .ok (.iconst 0, 1) := by decide +kernel
theorem dX5_allOffersDo_14 : decode cX5_allOffersDo 14 = .ok (.iastore, 1) := by decide +kernel
theorem dX5_allOffersDo_15 : decode cX5_allOffersDo 15 = .ok (.iconst 0, 1) := by decide +kernel
theorem dX5_allOffersDo_16 : decode cX5_allOffersDo 16 = .ok (.istore_n 2, 1) := by decide +kernel
theorem dX5_allOffersDo_17 : decode cX5_allOffersDo 17 = .ok (.iload_n 1, 1) := by decide +kernel
theorem dX5_allOffersDo_18 : decode cX5_allOffersDo 18 = .ok (.iconst 1, 1) := by decide +kernel
theorem dX5_allOffersDo_19 : decode cX5_allOffersDo 19 = .ok (.isub, 1) := by decide +kernel
theorem dX5_allOffersDo_20 : decode cX5_allOffersDo 20 = .ok (.istore_n 3, 1) := by decide +kernel
theorem dX5_allOffersDo_21 : decode cX5_allOffersDo 21 = .ok (.iload_n 3, 1) := by decide +kernel
theorem dX5_allOffersDo_22 : decode cX5_allOffersDo 22 = .ok (.ifCond .lt 21, 3) := by decide +kernel
theorem dX5_allOffersDo_25 : decode cX5_allOffersDo 25 = .ok (.aload_n 0, 1) := by decide +kernel
theorem dX5_allOffersDo_26 : decode cX5_allOffersDo 26 = .ok (.iload_n 2, 1) := by decide +kernel
theorem dX5_allOffersDo_27 : decode cX5_allOffersDo 27 = .ok (.iload_n 3, 1) := by decide +kernel
theorem dX5_allOffersDo_28 : decode cX5_allOffersDo 28 = .ok (.invokevirtual 93, 3) := by decide +kernel
theorem dX5_allOffersDo_31 : decode cX5_allOffersDo 31 = .ok (.ifCond .eq 6, 3) := by decide +kernel
theorem dX5_allOffersDo_34 : decode cX5_allOffersDo 34 = .ok (.iinc 2 1, 3) := by decide +kernel
theorem dX5_allOffersDo_37 : decode cX5_allOffersDo 37 = .ok (.iinc 3 (-1), 3) := by decide +kernel
theorem dX5_allOffersDo_40 : decode cX5_allOffersDo 40 = .ok (.goto (-19), 3) := by decide +kernel
theorem dX5_allOffersDo_43 : decode cX5_allOffersDo 43 = .ok (.aload_n 0, 1) := by decide +kernel
theorem dX5_allOffersDo_44 : decode cX5_allOffersDo 44 = .ok (.iload_n 2, 1) := by decide +kernel
theorem dX5_allOffersDo_45 : decode cX5_allOffersDo 45 = .ok (.invokevirtual 57, 3) := by decide +kernel
theorem dX5_allOffersDo_48 : decode cX5_allOffersDo 48 = .ok (.ireturn, 1) := by decide +kernel
