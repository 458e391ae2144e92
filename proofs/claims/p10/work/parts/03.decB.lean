theorem dX5_findRings_49 : decode cX5_findRings 49 = .ok (.invokevirtual 120, 3) := by decide +kernel
theorem dX5_findRings_52 : decode cX5_findRings 52 = .ok (.iinc 1 1, 3) := by decide +kernel
theorem dX5_findRings_55 : decode cX5_findRings 55 = .ok (.goto (-35), 3) := by decide +kernel
theorem dX5_findRings_58 : decode cX5_findRings 58 = .ok (.iconst 0, 1) := by decide +kernel
theorem dX5_findRings_59 : decode cX5_findRings 59 = .ok (.istore_n 1, 1) := by decide +kernel
theorem dX5_findRings_60 : decode cX5_findRings 60 = .ok (.iload_n 1, 1) := by decide +kernel
theorem dX5_findRings_61 : decode cX5_findRings 61 = .ok (.aload_n 0, 1) := by decide +kernel
theorem dX5_findRings_62 : decode cX5_findRings 62 = .ok (.getfield 58, 3) := by decide +kernel
theorem dX5_findRings_65 : decode cX5_findRings 65 = .ok (.if_icmp .ge 56, 3) := by decide +kernel
theorem dX5_findRings_68 : decode cX5_findRings 68 = .ok (.aload_n 0, 1) := by decide +kernel
theorem dX5_findRings_69 : decode cX5_findRings 69 = .ok (.getfield 15, 3) := by decide +kernel
theorem dX5_findRings_72 : decode cX5_findRings 72 = .ok (.iload_n 1, 1) := by decide +kernel
theorem dX5_findRings_73 : decode cX5_findRings 73 = .ok (.iaload, 1) := by decide +kernel
theorem dX5_findRings_74 : decode cX5_findRings 74 = .ok (.istore_n 2, 1) := by decide +kernel
theorem dX5_findRings_75 : decode cX5_findRings 75 = .ok (.aload_n 0, 1) := by decide +kernel
theorem dX5_findRings_76 : decode cX5_findRings 76 = .ok (.getfield 33, 3) := by decide +kernel
theorem dX5_findRings_79 : decode cX5_findRings 79 = .ok (.iload_n 2, 1) := by decide +kernel
theorem dX5_findRings_80 : decode cX5_findRings 80 = .ok (.iaload, 1) := by decide +kernel
theorem dX5_findRings_81 : decode cX5_findRings 81 = .ok (.ifCond .le 34, 3) := by decide +kernel
theorem dX5_findRings_84 : decode cX5_findRings 84 = .ok (.aload_n 0, 1) := by decide +kernel
theorem dX5_findRings_85 : decode cX5_findRings 85 = .ok (.getfield 26, 3) := by decide +kernel
theorem dX5_findRings_88 : decode cX5_findRings 88 = .ok (.iload_n 2, 1) := by decide +kernel
theorem dX5_findRings_89 : decode cX5_findRings 89 = .ok (.iload_n 2, 1) := by decide +kernel
theorem dX5_findRings_90 : decode cX5_findRings 90 = .ok (.invokestatic 85, 3) := by decide +kernel
theorem dX5_findRings_93 : decode cX5_findRings 93 = .ok (.ifCond .eq 22, 3) := by decide +kernel
theorem dX5_findRings_96 : decode cX5_findRings 96 = .ok (.aload_n 0, 1) := by decide +kernel
theorem dX5_findRings_97 : decode cX5_findRings 97 = .ok (.getfield 29, 3) := by decide +kernel
theorem dX5_findRings_100 : decode cX5_findRings 100 = .ok (.iload_n 2, 1) := by decide +kernel
theorem dX5_findRings_101 : decode cX5_findRings 101 = .ok (.iconst 1, 1) := by decide +kernel
theorem dX5_findRings_102 : decode cX5_findRings 102 = .ok (.bastore, 1) := by decide +kernel
theorem dX5_findRings_103 : decode cX5_findRings 103 = .ok (.aload_n 0, 1) := by decide +kernel
theorem dX5_findRings_104 : decode cX5_findRings 104 = .ok (.getfield 33, 3) := by decide +kernel
theorem dX5_findRings_107 : decode cX5_findRings 107 = .ok (.iload_n 2, 1) := by decide +kernel
theorem dX5_findRings_108 : decode cX5_findRings 108 = .ok (.iconst 0, 1) := by decide +kernel
theorem dX5_findRings_109 : decode cX5_findRings 109 = .ok (.iastore, 1) := by decide +kernel
theorem dX5_findRings_110 : decode cX5_findRings 110 = .ok (.aload_n 0, 1) := by decide +kernel
theorem dX5_findRings_111 : decode cX5_findRings 111 = .ok (.iload_n 2, 1) := by decide +kernel
theorem dX5_findRings_112 : decode cX5_findRings 112 = .ok (.invokevirtual 65, 3) := by decide +kernel
theorem dX5_findRings_115 : decode cX5_findRings 115 = .ok (.iinc 1 1, 3) := by decide +kernel
theorem dX5_findRings_118 : decode cX5_findRings 118 = .ok (.goto (-58), 3) := by decide +kernel
theorem dX5_findRings_121 : decode cX5_findRings 121 = .ok (.return_, 1) := by decide +kernel
theorem dX5_reachThrough_0 : decode cX5_reachThrough 0 = .ok (.iconst 0, 1) := by decide +kernel
theorem dX5_reachThrough_1 : decode cX5_reachThrough 1 = .ok (.istore_n 2, 1) := by decide +kernel
theorem dX5_reachThrough_2 : decode cX5_reachThrough 2 = .ok (.iload_n 2, 1) := by decide +kernel
theorem dX5_reachThrough_3 : decode cX5_reachThrough 3 = .ok (.aload_n 0, 1) := by decide +kernel
theorem dX5_reachThrough_4 : decode cX5_reachThrough 4 = .ok (.getfield 58, 3) := by decide +kernel
theorem dX5_reachThrough_7 : decode cX5_reachThrough 7 = .ok (.if_icmp .ge 77, 3) := by decide +kernel
theorem dX5_reachThrough_10 : decode cX5_reachThrough 10 = .ok (.aload_n 0, 1) := by decide +kernel
theorem dX5_reachThrough_11 : decode cX5_reachThrough 11 = .ok (.getfield 15, 3) := by decide +kernel
theorem dX5_reachThrough_14 : decode cX5_reachThrough 14 = .ok (.iload_n 2, 1) := by decide +kernel
theorem dX5_reachThrough_15 : decode cX5_reachThrough 15 = .ok (.iaload, 1) := by decide +kernel
theorem dX5_reachThrough_16 : decode cX5_reachThrough 16 = .ok (.istore_n 3, 1) := by decide +kernel
theorem dX5_reachThrough_17 : decode cX5_reachThrough 17 = .ok (.aload_n 0, 1) := by decide +kernel
theorem dX5_reachThrough_18 : decode cX5_reachThrough 18 = .ok (.getfield 33, 3) := by decide +kernel
theorem dX5_reachThrough_21 : decode cX5_reachThrough 21 = .ok (.iload_n 3, 1) := by decide +kernel
theorem dX5_reachThrough_22 : decode cX5_reachThrough 22 = .ok (.iaload, 1) := by decide +kernel
theorem dX5_reachThrough_23 : decode cX5_reachThrough 23 = .ok (.ifCond .le 55, 3) := by decide +kernel
theorem dX5_reachThrough_26 : decode cX5_reachThrough 26 = .ok (.aload_n 0, 1) := by decide +kernel
theorem dX5_reachThrough_27 : decode cX5_reachThrough 27 = .ok (.getfield 26, 3) := by decide +kernel
theorem dX5_reachThrough_30 : decode cX5_reachThrough 30 = .ok (.iload_n 3, 1) := by decide +kernel
theorem dX5_reachThrough_31 : decode cX5_reachThrough 31 = .ok (.iload_n 1, 1) := by decide +kernel
theorem dX5_reachThrough_32 : decode cX5_reachThrough 32 = .ok (.invokestatic 85, 3) := by decide +kernel
theorem dX5_reachThrough_35 : decode cX5_reachThrough 35 = .ok (.ifCond .eq 43, 3) := by decide +kernel
theorem dX5_reachThrough_38 : decode cX5_reachThrough 38 = .ok (.iconst 0, 1) := by decide +kernel
theorem dX5_reachThrough_39 : decode cX5_reachThrough 39 = .ok (.istore 4, 2) := by decide +kernel
theorem dX5_reachThrough_41 : decode cX5_reachThrough 41 = .ok (.iload 4, 2) := by decide +kernel
theorem dX5_reachThrough_43 : decode cX5_reachThrough 43 = .ok (.iconst 5, 1) := by decide +kernel
theorem dX5_reachThrough_44 : decode cX5_reachThrough 44 = .ok (.if_icmp .ge 34, 3) := by decide +kernel
theorem dX5_reachThrough_47 : decode cX5_reachThrough 47 = .ok (.aload_n 0, 1) := by decide +kernel
theorem dX5_reachThrough_48 : decode cX5_reachThrough 48 = .ok (.getfield 26, 3) := by decide +kernel
theorem dX5_reachThrough_51 : decode cX5_reachThrough 51 = .ok (.iload_n 3, 1) := by decide +kernel
theorem dX5_reachThrough_52 : decode cX5_reachThrough 52 = .ok (.iconst 5, 1) := by decide +kernel
theorem dX5_reachThrough_53 : decode cX5_reachThrough 53 = .ok (.imul, 1) := by decide +kernel
theorem dX5_reachThrough_54 : decode cX5_reachThrough 54 = .ok (.iload 4, 2) := by decide +kernel
theorem dX5_reachThrough_56 : decode cX5_reachThrough 56 = .ok (.iadd, 1) := by decide +kernel
theorem dX5_reachThrough_57 : decode cX5_reachThrough 57 = .ok (.dup2, 1) := by decide +kernel
theorem dX5_reachThrough_58 : decode cX5_reachThrough 58 = .ok (.laload, 1) := by decide +kernel
theorem dX5_reachThrough_59 : decode cX5_reachThrough 59 = .ok (.aload_n 0, 1) := by decide +kernel
theorem dX5_reachThrough_60 : decode cX5_reachThrough 60 = .ok (.getfield 26, 3) := by decide +kernel
theorem dX5_reachThrough_63 : decode cX5_reachThrough 63 = .ok (.iload_n 1, 1) := by decide +kernel
theorem dX5_reachThrough_64 : decode cX5_reachThrough 64 = .ok (.iconst 5, 1) := by decide +kernel
theorem dX5_reachThrough_65 : decode cX5_reachThrough 65 = .ok (.imul, 1) := by decide +kernel
theorem dX5_reachThrough_66 : decode cX5_reachThrough 66 = .ok (.iload 4, 2) := by decide +kernel
theorem dX5_reachThrough_68 : decode cX5_reachThrough 68 = .ok (.iadd, 1) := by decide +kernel
theorem dX5_reachThrough_69 : decode cX5_reachThrough 69 = .ok (.laload, 1) := by decide +kernel
theorem dX5_reachThrough_70 : decode cX5_reachThrough 70 = .ok (.lor, 1) := by decide +kernel
theorem dX5_reachThrough_71 : decode cX5_reachThrough 71 = .ok (.lastore, 1) := by decide +kernel
theorem dX5_reachThrough_72 : decode cX5_reachThrough 72 = .ok (.iinc 4 1, 3) := by decide +kernel
theorem dX5_reachThrough_75 : decode cX5_reachThrough 75 = .ok (.goto (-34), 3) := by decide +kernel
theorem dX5_reachThrough_78 : decode cX5_reachThrough 78 = .ok (.iinc 2 1, 3) := by decide +kernel
theorem dX5_reachThrough_81 : decode cX5_reachThrough 81 = .ok (.goto (-79), 3) := by decide +kernel
theorem dX5_reachThrough_84 : decode cX5_reachThrough 84 = .ok (.return_, 1) := by decide +kernel
theorem dX6_init_0 : decode cX6_init 0 = .ok (.aload_n 0, 1) := by decide +kernel
theorem dX6_init_1 : decode cX6_init 1 = .ok (.invokespecial 3, 3) := by decide +kernel
theorem dX6_init_4 : decode cX6_init 4 = .ok (.aload_n 0, 1) := by decide +kernel
theorem dX6_init_5 : decode cX6_init 5 = .ok (.new 9, 3) := by decide +kernel
theorem dX6_init_8 : decode cX6_init 8 = .ok (.dup, 1) := by decide +kernel
theorem dX6_init_9 : decode cX6_init 9 = .ok (.iconst 0, 1) := by decide +kernel
theorem dX6_init_10 : decode cX6_init 10 = .ok (.iconst 0, 1) := by decide +kernel
theorem dX6_init_11 : decode cX6_init 11 = .ok (.aconst_null, 1) := by decide +kernel
theorem dX6_init_12 : decode cX6_init 12 = .ok (.invokespecial 11, 3) := by decide +kernel
theorem dX6_init_15 : decode cX6_init 15 = .ok (.putfield 14, 3) := by decide +kernel
theorem dX6_init_18 : decode cX6_init 18 = .ok (.aload_n 0, 1) := by decide +kernel
theorem dX6_init_19 : decode cX6_init 19 = .ok (.sipush 288, 3) := by decide +kernel
theorem dX6_init_22 : decode cX6_init 22 = .ok (.anewarray 9, 3) := by decide +kernel
theorem dX6_init_25 : decode cX6_init 25 = .ok (.putfield 20, 3) := by decide +kernel
theorem dX6_init_28 : decode cX6_init 28 = .ok (.iconst 0, 1) := by decide +kernel
theorem dX6_init_29 : decode cX6_init 29 = .ok (.istore_n 1, 1) := by decide +kernel
theorem dX6_init_30 : decode cX6_init 30 = .ok (.iload_n 1, 1) := by decide +kernel
theorem dX6_init_31 : decode cX6_init 31 = .ok (.sipush 288, 3) := by decide +kernel
theorem dX6_init_34 : decode cX6_init 34 = .ok (.if_icmp .ge 19, 3) := by decide +kernel
theorem dX6_init_37 : decode cX6_init 37 = .ok (.aload_n 0, 1) := by decide +kernel
theorem dX6_init_38 : decode cX6_init 38 = .ok (.getfield 20, 3) := by decide +kernel
theorem dX6_init_41 : decode cX6_init 41 = .ok (.iload_n 1, 1) := by decide +kernel
theorem dX6_init_42 : decode cX6_init 42 = .ok (.aload_n 0, 1) := by decide +kernel
theorem dX6_init_43 : decode cX6_init 43 = .ok (.getfield 14, 3) := by decide +kernel
theorem dX6_init_46 : decode cX6_init 46 = .ok (.aastore, 1) := by decide +kernel
theorem dX6_init_47 : decode cX6_init 47 = .ok (.iinc 1 1, 3) := by decide +kernel
theorem dX6_init_50 : decode cX6_init 50 = .ok (.goto (-20), 3) := by decide +kernel
theorem dX6_init_53 : decode cX6_init 53 = .ok (.aload_n 0, 1) := by decide +kernel
theorem dX6_init_54 : decode cX6_init 54 = .ok (.sipush 288, 3) := by decide +kernel
theorem dX6_init_57 : decode cX6_init 57 = .ok (.newarray .boolean, 2) := by decide +kernel
theorem dX6_init_59 : decode cX6_init 59 = .ok (.putfield 24, 3) := by decide +kernel
theorem dX6_init_62 : decode cX6_init 62 = .ok (.aload_n 0, 1) := by decide +kernel
theorem dX6_init_63 : decode cX6_init 63 = .ok (.bipush 20, 2) := by decide +kernel
theorem dX6_init_65 : decode cX6_init 65 = .ok (.newarray .int, 2) := by decide +kernel
theorem dX6_init_67 : decode cX6_init 67 = .ok (.putfield 28, 3) := by decide +kernel
theorem dX6_init_70 : decode cX6_init 70 = .ok (.aload_n 0, 1) := by decide +kernel
theorem dX6_init_71 : decode cX6_init 71 = .ok (.bipush 20, 2) := by decide +kernel
theorem dX6_init_73 : decode cX6_init 73 = .ok (.anewarray 9, 3) := by decide +kernel
theorem dX6_init_76 : decode cX6_init 76 = .ok (.putfield 32, 3) := by decide +kernel
theorem dX6_init_79 : decode cX6_init 79 = .ok (.iconst 0, 1) := by decide +kernel
theorem dX6_init_80 : decode cX6_init 80 = .ok (.istore_n 1, 1) := by decide +kernel
theorem dX6_init_81 : decode cX6_init 81 = .ok (.iload_n 1, 1) := by decide +kernel
theorem dX6_init_82 : decode cX6_init 82 = .ok (.bipush 20, 2) := by decide +kernel
theorem dX6_init_84 : decode cX6_init 84 = .ok (.if_icmp .ge 19, 3) := by decide +kernel
theorem dX6_init_87 : decode cX6_init 87 = .ok (.aload_n 0, 1) := by decide +kernel
theorem dX6_init_88 : decode cX6_init 88 = .ok (.getfield 32, 3) := by decide +kernel
theorem dX6_init_91 : decode cX6_init 91 = .ok (.iload_n 1, 1) := by decide +kernel
theorem dX6_init_92 : decode cX6_init 92 = .ok (.aload_n 0, 1) := by decide +kernel
theorem dX6_init_93 : decode cX6_init 93 = .ok (.getfield 14, 3) := by decide +kernel
theorem dX6_init_96 : decode cX6_init 96 = .ok (.aastore, 1) := by decide +kernel
theorem dX6_init_97 : decode cX6_init 97 = .ok (.iinc 1 1, 3) := by decide +kernel
theorem dX6_init_100 : decode cX6_init 100 = .ok (.goto (-19), 3) := by decide +kernel
theorem dX6_init_103 : decode cX6_init 103 = .ok (.aload_n 0, 1) := by decide +kernel
theorem dX6_init_104 : decode cX6_init 104 = .ok (.iconst 0, 1) := by decide +kernel
theorem dX6_init_105 : decode cX6_init 105 = .ok (.putfield 35, 3) := by decide +kernel
theorem dX6_init_108 : decode cX6_init 108 = .ok (.aload_n 0, 1) := by decide +kernel
theorem dX6_init_109 : decode cX6_init 109 = .ok (.iconst 0, 1) := by decide +kernel
theorem dX6_init_110 : decode cX6_init 110 = .ok (.putfield 39, 3) := by decide +kernel
theorem dX6_init_113 : decode cX6_init 113 = .ok (.return_, 1) := by decide +kernel
theorem dX6_at_0 : decode cX6_at 0 = .ok (.iload_n 1, 1) := by decide +kernel
theorem dX6_at_1 : decode cX6_at 1 = .ok (.invokestatic 42, 3) := by decide +kernel
theorem dX6_at_4 : decode cX6_at 4 = .ok (.ifCond .eq 12, 3) := by decide +kernel
theorem dX6_at_7 : decode cX6_at 7 = .ok (.aload_n 0, 1) := by decide +kernel
theorem dX6_at_8 : decode cX6_at 8 = .ok (.getfield 20, 3) := by decide +kernel
theorem dX6_at_11 : decode cX6_at 11 = .ok (.iload_n 1, 1) := by decide +kernel
theorem dX6_at_12 : decode cX6_at 12 = .ok (.aaload, 1) := by decide +kernel
theorem dX6_at_13 : decode cX6_at 13 = .ok (.goto 7, 3) := by decide +kernel
theorem dX6_at_16 : decode cX6_at 16 = .ok (.aload_n 0, 1) := by decide +kernel
theorem dX6_at_17 : decode cX6_at 17 = .ok (.getfield 14, 3) := by decide +kernel
theorem dX6_at_20 : decode cX6_at 20 = .ok (.areturn, 1) := by decide +kernel
theorem dX6_kindAt_0 : decode cX6_kindAt 0 = .ok (.iload_n 1, 1) := by decide +kernel
theorem dX6_kindAt_1 : decode cX6_kindAt 1 = .ok (.invokestatic 42, 3) := by decide +kernel
theorem dX6_kindAt_4 : decode cX6_kindAt 4 = .ok (.ifCond .eq 15, 3) := by decide +kernel
theorem dX6_kindAt_7 : decode cX6_kindAt 7 = .ok (.aload_n 0, 1) := by decide +kernel
theorem dX6_kindAt_8 : decode cX6_kindAt 8 = .ok (.getfield 20, 3) := by decide +kernel
theorem dX6_kindAt_11 : decode cX6_kindAt 11 = .ok (.iload_n 1, 1) := by decide +kernel
theorem dX6_kindAt_12 : decode cX6_kindAt 12 = .ok (.aaload, 1) := by decide +kernel
theorem dX6_kindAt_13 : decode cX6_kindAt 13 = .ok (.getfield 46, 3) := by decide +kernel
theorem dX6_kindAt_16 : decode cX6_kindAt 16 = .ok (.goto 4, 3) := by decide +kernel
theorem dX6_kindAt_19 : decode cX6_kindAt 19 = .ok (.iconst 0, 1) := by decide +kernel
theorem dX6_kindAt_20 : decode cX6_kindAt 20 = .ok (.ireturn, 1) := by decide +kernel
theorem dX6_formulaAt_0 : decode cX6_formulaAt 0 = .ok (.iload_n 1, 1) := by decide +kernel
theorem dX6_formulaAt_1 : decode cX6_formulaAt 1 = .ok (.invokestatic 42, 3) := by decide +kernel
theorem dX6_formulaAt_4 : decode cX6_formulaAt 4 = .ok (.ifCond .eq 15, 3) := by decide +kernel
theorem dX6_formulaAt_7 : decode cX6_formulaAt 7 = .ok (.aload_n 0, 1) := by decide +kernel
theorem dX6_formulaAt_8 : decode cX6_formulaAt 8 = .ok (.getfield 20, 3) := by decide +kernel
theorem dX6_formulaAt_11 : decode cX6_formulaAt 11 = .ok (.iload_n 1, 1) := by decide +kernel
theorem dX6_formulaAt_12 : decode cX6_formulaAt 12 = .ok (.aaload, 1) := by decide +kernel
theorem dX6_formulaAt_13 : decode cX6_formulaAt 13 = .ok (.getfield 49, 3) := by decide +kernel
theorem dX6_formulaAt_16 : decode cX6_formulaAt 16 = .ok (.goto 4, 3) := by decide +kernel
theorem dX6_formulaAt_19 : decode cX6_formulaAt 19 = .ok (.aconst_null, 1) := by decide +kernel
theorem dX6_formulaAt_20 : decode cX6_formulaAt 20 = .ok (.areturn, 1) := by decide +kernel
theorem dX6_copyFor_0 : decode cX6_copyFor 0 = .ok (.aload_n 0, 1) := by decide +kernel
theorem dX6_copyFor_1 : decode cX6_copyFor 1 = .ok (.iload_n 1, 1) := by decide +kernel
theorem dX6_copyFor_2 : decode cX6_copyFor 2 = .ok (.invokevirtual 53, 3) := by decide +kernel
theorem dX6_copyFor_5 : decode cX6_copyFor 5 = .ok (.astore_n 3, 1) := by decide +kernel
theorem dX6_copyFor_6 : decode cX6_copyFor 6 = .ok (.aload_n 3, 1) := by decide +kernel
theorem dX6_copyFor_7 : decode cX6_copyFor 7 = .ok (.iload_n 2, 1) := by decide +kernel
theorem dX6_copyFor_8 : decode cX6_copyFor 8 = .ok (.invokevirtual 57, 3) := by decide +kernel
theorem dX6_copyFor_11 : decode cX6_copyFor 11 = .ok (.ifCond .eq 10, 3) := by decide +kernel
theorem dX6_copyFor_14 : decode cX6_copyFor 14 = .ok (.aload_n 3, 1) := by decide +kernel
theorem dX6_copyFor_15 : decode cX6_copyFor 15 = .ok (.invokevirtual 60, 3) := by decide +kernel
theorem dX6_copyFor_18 : decode cX6_copyFor 18 = .ok (.goto 4, 3) := by decide +kernel
theorem dX6_copyFor_21 : decode cX6_copyFor 21 = .ok (.aconst_null, 1) := by decide +kernel
theorem dX6_copyFor_22 : decode cX6_copyFor 22 = .ok (.areturn, 1) := by decide +kernel
theorem dX6_isKept_0 : decode cX6_isKept 0 = .ok (.iload_n 1, 1) := by decide +kernel
theorem dX6_isKept_1 : decode cX6_isKept 1 = .ok (.invokestatic 42, 3) := by decide +kernel
theorem dX6_isKept_4 : decode cX6_isKept 4 = .ok (.ifCond .eq 16, 3) := by decide +kernel
theorem dX6_isKept_7 : decode cX6_isKept 7 = .ok (.aload_n 0, 1) := by decide +kernel
theorem dX6_isKept_8 : decode cX6_isKept 8 = .ok (.getfield 24, 3) := by decide +kernel
theorem dX6_isKept_11 : decode cX6_isKept 11 = .ok (.iload_n 1, 1) := by decide +kernel
theorem dX6_isKept_12 : decode cX6_isKept 12 = .ok (.baload, 1) := by decide +kernel
theorem dX6_isKept_13 : decode cX6_isKept 13 = .ok (.ifCond .eq 7, 3) := by decide +kernel
theorem dX6_isKept_16 : decode cX6_isKept 16 = .ok (.iconst 1, 1) := by decide +kernel
theorem dX6_isKept_17 : decode cX6_isKept 17 = .ok (.goto 4, 3) := by decide +kernel
theorem dX6_isKept_20 : decode cX6_isKept 20 = .ok (.iconst 0, 1) := by decide +kernel
theorem dX6_isKept_21 : decode cX6_isKept 21 = .ok (.ireturn, 1) := by decide +kernel
theorem dX6_setKept_0 : decode cX6_setKept 0 = .ok (.iload_n 1, 1) := by decide +kernel
theorem dX6_setKept_1 : decode cX6_setKept 1 = .ok (.invokestatic 42, 3) := by decide +kernel
theorem dX6_setKept_4 : decode cX6_setKept 4 = .ok (.ifCond .ne 5, 3) := by decide +kernel
theorem dX6_setKept_7 : decode cX6_setKept 7 = .ok (.iconst 0, 1) := by decide +kernel
theorem dX6_setKept_8 : decode cX6_setKept 8 = .ok (.ireturn, 1) := by decide +kernel
theorem dX6_setKept_9 : decode cX6_setKept 9 = .ok (.aload_n 0, 1) := by decide +kernel
theorem dX6_setKept_10 : decode cX6_setKept 10 = .ok (.getfield 24, 3) := by decide +kernel
theorem dX6_setKept_13 : decode cX6_setKept 13 = .ok (.iload_n 1, 1) := by decide +kernel
theorem dX6_setKept_14 : decode cX6_setKept 14 = .ok (.iload_n 2, 1) := by decide +kernel
theorem dX6_setKept_15 : decode cX6_setKept 15 = .ok (.bastore, 1) := by decide +kernel
theorem dX6_setKept_16 : decode cX6_setKept 16 = .ok (.iconst 1, 1) := by decide +kernel
theorem dX6_setKept_17 : decode cX6_setKept 17 = .ok (.ireturn, 1) := by decide +kernel
theorem dX6_cellsOfKind_0 : decode cX6_cellsOfKind 0 = .ok (.iconst 0, 1) := by decide +kernel
theorem dX6_cellsOfKind_1 : decode cX6_cellsOfKind 1 = .ok (.istore_n 2, 1) := by decide +kernel
theorem dX6_cellsOfKind_2 : decode cX6_cellsOfKind 2 = .ok (.iconst 0, 1) := by decide +kernel
theorem dX6_cellsOfKind_3 : decode cX6_cellsOfKind 3 = .ok (.istore_n 3, 1) := by decide +kernel
theorem dX6_cellsOfKind_4 : decode cX6_cellsOfKind 4 = .ok (.iload_n 3, 1) := by decide +kernel
theorem dX6_cellsOfKind_5 : decode cX6_cellsOfKind 5 = .ok (.sipush 288, 3) := by decide +kernel
theorem dX6_cellsOfKind_8 : decode cX6_cellsOfKind 8 = .ok (.if_icmp .ge 25, 3) := by decide +kernel
theorem dX6_cellsOfKind_11 : decode cX6_cellsOfKind 11 = .ok (.aload_n 0, 1) := by decide +kernel
theorem dX6_cellsOfKind_12 : decode cX6_cellsOfKind 12 = .ok (.getfield 20, 3) := by decide +kernel
theorem dX6_cellsOfKind_15 : decode cX6_cellsOfKind 15 = .ok (.iload_n 3, 1) := by decide +kernel
theorem dX6_cellsOfKind_16 : decode cX6_cellsOfKind 16 = .ok (.aaload, 1) := by decide +kernel
theorem dX6_cellsOfKind_17 : decode cX6_cellsOfKind 17 = .ok (.getfield 46, 3) := by decide +kernel
theorem dX6_cellsOfKind_20 : decode cX6_cellsOfKind 20 = .ok (.iload_n 1, 1) := by decide +kernel
theorem dX6_cellsOfKind_21 : decode cX6_cellsOfKind 21 = .ok (.if_icmp .ne 6, 3) := by decide +kernel
theorem dX6_cellsOfKind_24 : decode cX6_cellsOfKind 24 = .ok (.iinc 2 1, 3) := by decide +kernel
theorem dX6_cellsOfKind_27 : decode cX6_cellsOfKind 27 = .ok (.iinc 3 1, 3) := by decide +kernel
theorem dX6_cellsOfKind_30 : decode cX6_cellsOfKind 30 = .ok (.goto (-26), 3) := by decide +kernel
theorem dX6_cellsOfKind_33 : decode cX6_cellsOfKind 33 = .ok (.iload_n 2, 1) := by decide +kernel
theorem dX6_cellsOfKind_34 : decode cX6_cellsOfKind 34 = .ok (.ireturn, 1) := by decide +kernel
theorem dX6_replace_0 : decode cX6_replace 0 = .ok (.iload_n 1, 1) := by decide +kernel
theorem dX6_replace_1 : decode cX6_replace 1 = .ok (.invokestatic 42, 3) := by decide +kernel
theorem dX6_replace_4 : decode cX6_replace 4 = .ok (.ifCond .eq 20, 3) := by decide +kernel
theorem dX6_replace_7 : decode cX6_replace 7 = .ok (.aload_n 0, 1) := by decide +kernel
theorem dX6_replace_8 : decode cX6_replace 8 = .ok (.getfield 20, 3) := by decide +kernel
theorem dX6_replace_11 : decode cX6_replace 11 = .ok (.iload_n 1, 1) := by decide +kernel
theorem dX6_replace_12 : decode cX6_replace 12 = .ok (.aload_n 2, 1) := by decide +kernel
theorem dX6_replace_13 : decode cX6_replace 13 = .ok (.aastore, 1) := by decide +kernel
theorem dX6_replace_14 : decode cX6_replace 14 = .ok (.aload_n 0, 1) := by decide +kernel
theorem dX6_replace_15 : decode cX6_replace 15 = .ok (.dup, 1) := by decide +kernel
theorem dX6_replace_16 : decode cX6_replace 16 = .ok (.getfield 39, 3) := by decide +kernel
theorem dX6_replace_19 : decode cX6_replace 19 = .ok (.iconst 1, 1) := by decide +kernel
theorem dX6_replace_20 : decode cX6_replace 20 = .ok (.iadd, 1) := by decide +kernel
theorem dX6_replace_21 : decode cX6_replace 21 = .ok (.putfield 39, 3) := by decide +kernel
theorem dX6_replace_24 : decode cX6_replace 24 = .ok (.return_, 1) := by decide +kernel
theorem dX6_put_0 : decode cX6_put 0 = .ok (.aload_n 0, 1) := by decide +kernel
theorem dX6_put_1 : decode cX6_put 1 = .ok (.getfield 35, 3) := by decide +kernel
theorem dX6_put_4 : decode cX6_put 4 = .ok (.bipush 20, 2) := by decide +kernel
theorem dX6_put_6 : decode cX6_put 6 = .ok (.if_icmp .lt 7, 3) := by decide +kernel
theorem dX6_put_9 : decode cX6_put 9 = .ok (.aload_n 0, 1) := by decide +kernel
theorem dX6_put_10 : decode cX6_put 10 = .ok (.invokevirtual 64, 3) := by decide +kernel
theorem dX6_put_13 : decode cX6_put 13 = .ok (.aload_n 0, 1) := by decide +kernel
theorem dX6_put_14 : decode cX6_put 14 = .ok (.getfield 28, 3) := by decide +kernel
theorem dX6_put_17 : decode cX6_put 17 = .ok (.aload_n 0, 1) := by decide +kernel
theorem dX6_put_18 : decode cX6_put 18 = .ok (.getfield 35, 3) := by decide +kernel
theorem dX6_put_21 : decode cX6_put 21 = .ok (.iload_n 1, 1) := by decide +kernel
theorem dX6_put_22 : decode cX6_put 22 = .ok (.iastore, 1) := by decide +kernel
theorem dX6_put_23 : decode cX6_put 23 = .ok (.aload_n 0, 1) := by decide +kernel
theorem dX6_put_24 : decode cX6_put 24 = .ok (.getfield 32, 3) := by decide +kernel
theorem dX6_put_27 : decode cX6_put 27 = .ok (.aload_n 0, 1) := by decide +kernel
theorem dX6_put_28 : decode cX6_put 28 = .ok (.getfield 35, 3) := by decide +kernel
theorem dX6_put_31 : decode cX6_put 31 = .ok (.aload_n 0, 1) := by decide +kernel
theorem dX6_put_32 : decode cX6_put 32 = .ok (.iload_n 1, 1) := by decide +kernel
theorem dX6_put_33 : decode cX6_put 33 = .ok (.invokevirtual 53, 3) := by decide +kernel
theorem dX6_put_36 : decode cX6_put 36 = .ok (.aastore, 1) := by decide +kernel
theorem dX6_put_37 : decode cX6_put 37 = .ok (.aload_n 0, 1) := by decide +kernel
theorem dX6_put_38 : decode cX6_put 38 = .ok (.dup, 1) := by decide +kernel
theorem dX6_put_39 : decode cX6_put 39 = .ok (.getfield 35, 3) := by decide +kernel
theorem dX6_put_42 : decode cX6_put 42 = .ok (.iconst 1, 1) := by decide +kernel
theorem dX6_put_43 : decode cX6_put 43 = .ok (.iadd, 1) := by decide +kernel
theorem dX6_put_44 : decode cX6_put 44 = .ok (.putfield 35, 3) := by decide +kernel
theorem dX6_put_47 : decode cX6_put 47 = .ok (.aload_n 0, 1) := by decide +kernel
theorem dX6_put_48 : decode cX6_put 48 = .ok (.iload_n 1, 1) := by decide +kernel
theorem dX6_put_49 : decode cX6_put 49 = .ok (.aload_n 2, 1) := by decide +kernel
theorem dX6_put_50 : decode cX6_put 50 = .ok (.invokevirtual 67, 3) := by decide +kernel
theorem dX6_put_53 : decode cX6_put 53 = .ok (.return_, 1) := by decide +kernel
theorem dX6_forgetOldest_0 : decode cX6_forgetOldest 0 = .ok (.iconst 1, 1) := by decide +kernel
theorem dX6_forgetOldest_1 : decode cX6_forgetOldest 1 = .ok (.istore_n 1, 1) := by decide +kernel
theorem dX6_forgetOldest_2 : decode cX6_forgetOldest 2 = .ok (.iload_n 1, 1) := by decide +kernel
theorem dX6_forgetOldest_3 : decode cX6_forgetOldest 3 = .ok (.bipush 20, 2) := by decide +kernel
theorem dX6_forgetOldest_5 : decode cX6_forgetOldest 5 = .ok (.if_icmp .ge 37, 3) := by decide +kernel
theorem dX6_forgetOldest_8 : decode cX6_forgetOldest 8 = .ok (.aload_n 0, 1) := by decide +kernel
theorem dX6_forgetOldest_9 : decode cX6_forgetOldest 9 = .ok (.getfield 28, 3) := by decide +kernel
theorem dX6_forgetOldest_12 : decode cX6_forgetOldest 12 = .ok (.iload_n 1, 1) := by decide +kernel
theorem dX6_forgetOldest_13 : decode cX6_forgetOldest 13 = .ok (.iconst 1, 1) := by decide +kernel
theorem dX6_forgetOldest_14 : decode cX6_forgetOldest 14 = .ok (.isub, 1) := by decide +kernel
theorem dX6_forgetOldest_15 : decode cX6_forgetOldest 15 = .ok (.aload_n 0, 1) := by decide +kernel
theorem dX6_forgetOldest_16 : decode cX6_forgetOldest 16 = .ok (.getfield 28, 3) := by decide +kernel
theorem dX6_forgetOldest_19 : decode cX6_forgetOldest 19 = .ok (.iload_n 1, 1) := by decide +kernel
theorem dX6_forgetOldest_20 : decode cX6_forgetOldest 20 = .ok (.iaload, 1) := by decide +kernel
theorem dX6_forgetOldest_21 : decode cX6_forgetOldest 21 = .ok (.iastore, 1) := by decide +kernel
theorem dX6_forgetOldest_22 : decode cX6_forgetOldest 22 = .ok (.aload_n 0, 1) := by decide +kernel
theorem dX6_forgetOldest_23 : decode cX6_forgetOldest 23 = .ok (.getfield 32, 3) := by decide +kernel
theorem dX6_forgetOldest_26 : decode cX6_forgetOldest 26 = .ok (.iload_n 1, 1) := by decide +kernel
theorem dX6_forgetOldest_27 : decode cX6_forgetOldest 27 = .ok (.iconst 1, 1) := by decide +kernel
theorem dX6_forgetOldest_28 : decode cX6_forgetOldest 28 = .ok (.isub, 1) := by decide +kernel
theorem dX6_forgetOldest_29 : decode cX6_forgetOldest 29 = .ok (.aload_n 0, 1) := by decide +kernel
theorem dX6_forgetOldest_30 : decode cX6_forgetOldest 30 = .ok (.getfield 32, 3) := by decide +kernel
theorem dX6_forgetOldest_33 : decode cX6_forgetOldest 33 = .ok (.iload_n 1, 1) := by decide +kernel
theorem dX6_forgetOldest_34 : decode cX6_forgetOldest 34 = .ok (.aaload, 1) := by decide +kernel
theorem dX6_forgetOldest_35 : decode cX6_forgetOldest 35 = .ok (.aastore, 1) := by decide +kernel
theorem dX6_forgetOldest_36 : decode cX6_forgetOldest 36 = .ok (.iinc 1 1, 3) := by decide +kernel
theorem dX6_forgetOldest_39 : decode cX6_forgetOldest 39 = .ok (.goto (-37), 3) := by decide +kernel
theorem dX6_forgetOldest_42 : decode cX6_forgetOldest 42 = .ok (.aload_n 0, 1) := by decide +kernel
theorem dX6_forgetOldest_43 : decode cX6_forgetOldest 43 = .ok (.bipush 19, 2) := by decide +kernel
theorem dX6_forgetOldest_45 : decode cX6_forgetOldest 45 = .ok (.putfield 35, 3) := by decide +kernel
theorem dX6_forgetOldest_48 : decode cX6_forgetOldest 48 = .ok (.return_, 1) := by decide +kernel
theorem dX6_takeBack_0 : decode cX6_takeBack 0 = .ok (.aload_n 0, 1) := by decide +kernel
theorem dX6_takeBack_1 : decode cX6_takeBack 1 = .ok (.getfield 35, 3) := by decide +kernel
theorem dX6_takeBack_4 : decode cX6_takeBack 4 = .ok (.ifCond .le 44, 3) := by decide +kernel
theorem dX6_takeBack_7 : decode cX6_takeBack 7 = .ok (.aload_n 0, 1) := by decide +kernel
theorem dX6_takeBack_8 : decode cX6_takeBack 8 = .ok (.getfield 35, 3) := by decide +kernel
theorem dX6_takeBack_11 : decode cX6_takeBack 11 = .ok (.bipush 20, 2) := by decide +kernel
theorem dX6_takeBack_13 : decode cX6_takeBack 13 = .ok (.if_icmp .gt 35, 3) := by decide +kernel
theorem dX6_takeBack_16 : decode cX6_takeBack 16 = .ok (.aload_n 0, 1) := by decide +kernel
theorem dX6_takeBack_17 : decode cX6_takeBack 17 = .ok (.dup, 1) := by decide +kernel
theorem dX6_takeBack_18 : decode cX6_takeBack 18 = .ok (.getfield 35, 3) := by decide +kernel
theorem dX6_takeBack_21 : decode cX6_takeBack 21 = .ok (.iconst 1, 1) := by decide +kernel
theorem dX6_takeBack_22 : decode cX6_takeBack 22 = .ok (.isub, 1) := by decide +kernel
theorem dX6_takeBack_23 : decode cX6_takeBack 23 = .ok (.putfield 35, 3) := by decide +kernel
theorem dX6_takeBack_26 : decode cX6_takeBack 26 = .ok (.aload_n 0, 1) := by decide +kernel
theorem dX6_takeBack_27 : decode cX6_takeBack 27 = .ok (.aload_n 0, 1) := by decide +kernel
theorem dX6_takeBack_28 : decode cX6_takeBack 28 = .ok (.getfield 28, 3) := by decide +kernel
theorem dX6_takeBack_31 : decode cX6_takeBack 31 = .ok (.aload_n 0, 1) := by decide +kernel
theorem dX6_takeBack_32 : decode cX6_takeBack 32 = .ok (.getfield 35, 3) := by decide +kernel
theorem dX6_takeBack_35 : decode cX6_takeBack 35 = .ok (.iaload, 1) := by decide +kernel
theorem dX6_takeBack_36 : decode cX6_takeBack 36 = .ok (.aload_n 0, 1) := by decide +kernel
theorem dX6_takeBack_37 : decode cX6_takeBack 37 = .ok (.getfield 32, 3) := by decide +kernel
theorem dX6_takeBack_40 : decode cX6_takeBack 40 = .ok (.aload_n 0, 1) := by decide +kernel
theorem dX6_takeBack_41 : decode cX6_takeBack 41 = .ok (.getfield 35, 3) := by decide +kernel
theorem dX6_takeBack_44 : decode cX6_takeBack 44 = .ok (.aaload, 1) := by decide +kernel
theorem dX6_takeBack_45 : decode cX6_takeBack 45 = .ok (.invokevirtual 67, 3) := by decide +kernel
theorem dX6_takeBack_48 : decode cX6_takeBack 48 = .ok (.return_, 1) := by decide +kernel
theorem dX7_init_0 : decode cX7_init 0 = .ok (.aload_n 0, 1) := by decide +kernel
theorem dX7_init_1 : decode cX7_init 1 = .ok (.invokespecial 3, 3) := by decide +kernel
theorem dX7_init_4 : decode cX7_init 4 = .ok (.aload_n 0, 1) := by decide +kernel
theorem dX7_init_5 : decode cX7_init 5 = .ok (.bipush 120, 2) := by decide +kernel
theorem dX7_init_7 : decode cX7_init 7 = .ok (.newarray .char, 2) := by decide +kernel
theorem dX7_init_9 : decode cX7_init 9 = .ok (.putfield 9, 3) := by decide +kernel
theorem dX7_init_12 : decode cX7_init 12 = .ok (.aload_n 0, 1) := by decide +kernel
theorem dX7_init_13 : decode cX7_init 13 = .ok (.iconst 0, 1) := by decide +kernel
theorem dX7_init_14 : decode cX7_init 14 = .ok (.putfield 15, 3) := by decide +kernel
theorem dX7_init_17 : decode cX7_init 17 = .ok (.aload_n 0, 1) := by decide +kernel
theorem dX7_init_18 : decode cX7_init 18 = .ok (.bipush 121, 2) := by decide +kernel
theorem dX7_init_20 : decode cX7_init 20 = .ok (.newarray .int, 2) := by decide +kernel
theorem dX7_init_22 : decode cX7_init 22 = .ok (.putfield 19, 3) := by decide +kernel
theorem dX7_init_25 : decode cX7_init 25 = .ok (.aload_n 0, 1) := by decide +kernel
theorem dX7_init_26 : decode cX7_init 26 = .ok (.bipush 121, 2) := by decide +kernel
theorem dX7_init_28 : decode cX7_init 28 = .ok (.newarray .int, 2) := by decide +kernel
theorem dX7_init_30 : decode cX7_init 30 = .ok (.putfield 23, 3) := by decide +kernel
theorem dX7_init_33 : decode cX7_init 33 = .ok (.aload_n 0, 1) := by decide +kernel
theorem dX7_init_34 : decode cX7_init 34 = .ok (.bipush 121, 2) := by decide +kernel
theorem dX7_init_36 : decode cX7_init 36 = .ok (.newarray .int, 2) := by decide +kernel
theorem dX7_init_38 : decode cX7_init 38 = .ok (.putfield 26, 3) := by decide +kernel
theorem dX7_init_41 : decode cX7_init 41 = .ok (.aload_n 0, 1) := by decide +kernel
theorem dX7_init_42 : decode cX7_init 42 = .ok (.bipush 120, 2) := by decide +kernel
theorem dX7_init_44 : decode cX7_init 44 = .ok (.newarray .int, 2) := by decide +kernel
theorem dX7_init_46 : decode cX7_init 46 = .ok (.putfield 29, 3) := by decide +kernel
theorem dX7_init_49 : decode cX7_init 49 = .ok (.aload_n 0, 1) := by decide +kernel
theorem dX7_init_50 : decode cX7_init 50 = .ok (.bipush 120, 2) := by decide +kernel
theorem dX7_init_52 : decode cX7_init 52 = .ok (.newarray .int, 2) := by decide +kernel
theorem dX7_init_54 : decode cX7_init 54 = .ok (.putfield 32, 3) := by decide +kernel
theorem dX7_init_57 : decode cX7_init 57 = .ok (.aload_n 0, 1) := by decide +kernel
theorem dX7_init_58 : decode cX7_init 58 = .ok (.bipush 120, 2) := by decide +kernel
theorem dX7_init_60 : decode cX7_init 60 = .ok (.newarray .int, 2) := by decide +kernel
theorem dX7_init_62 : decode cX7_init 62 = .ok (.putfield 35, 3) := by decide +kernel
theorem dX7_init_65 : decode cX7_init 65 = .ok (.return_, 1) := by decide +kernel
theorem dX7_append_0 : decode cX7_append 0 = .ok (.bipush 56, 2) := by decide +kernel
theorem dX7_append_2 : decode cX7_append 2 = .ok (.istore_n 3, 1) := by decide +kernel
theorem dX7_append_3 : decode cX7_append 3 = .ok (.iload_n 3, 1) := by decide +kernel
theorem dX7_append_4 : decode cX7_append 4 = .ok (.ifCond .lt 64, 3) := by decide +kernel
theorem dX7_append_7 : decode cX7_append 7 = .ok (.lload_n 1, 1) := by decide +kernel
theorem dX7_append_8 : decode cX7_append 8 = .ok (.iload_n 3, 1) := by decide +kernel
theorem dX7_append_9 : decode cX7_append 9 = .ok (.lushr, 1) := by decide +kernel
theorem dX7_append_10 : decode cX7_append 10 = .ok (.l2i, 1) := by decide +kernel
theorem dX7_append_11 : decode cX7_append 11 = .ok (.sipush 255, 3) := by decide +kernel
theorem dX7_append_14 : decode cX7_append 14 = .ok (.iand, 1) := by decide +kernel
theorem dX7_append_15 : decode cX7_append 15 = .ok (.istore 4, 2) := by decide +kernel
theorem dX7_append_17 : decode cX7_append 17 = .ok (.iload 4, 2) := by decide +kernel
theorem dX7_append_19 : decode cX7_append 19 = .ok (.bipush 32, 2) := by decide +kernel
theorem dX7_append_21 : decode cX7_append 21 = .ok (.if_icmp .lt 41, 3) := by decide +kernel
theorem dX7_append_24 : decode cX7_append 24 = .ok (.iload 4, 2) := by decide +kernel
theorem dX7_append_26 : decode cX7_append 26 = .ok (.bipush 126, 2) := by decide +kernel
theorem dX7_append_28 : decode cX7_append 28 = .ok (.if_icmp .gt 34, 3) := by decide +kernel
theorem dX7_append_31 : decode cX7_append 31 = .ok (.aload_n 0, 1) := by decide +kernel
theorem dX7_append_32 : decode cX7_append 32 = .ok (.getfield 15, 3) := by decide +kernel
theorem dX7_append_35 : decode cX7_append 35 = .ok (.bipush 120, 2) := by decide +kernel
theorem dX7_append_37 : decode cX7_append 37 = .ok (.if_icmp .ge 25, 3) := by decide +kernel
theorem dX7_append_40 : decode cX7_append 40 = .ok (.aload_n 0, 1) := by decide +kernel
theorem dX7_append_41 : decode cX7_append 41 = .ok (.getfield 9, 3) := by decide +kernel
theorem dX7_append_44 : decode cX7_append 44 = .ok (.aload_n 0, 1) := by decide +kernel
theorem dX7_append_45 : decode cX7_append 45 = .ok (.getfield 15, 3) := by decide +kernel
theorem dX7_append_48 : decode cX7_append 48 = .ok (.iload 4, 2) := by decide +kernel
theorem dX7_append_50 : decode cX7_append 50 = .ok (.i2c, 1) := by decide +kernel
theorem dX7_append_51 : decode cX7_append 51 = .ok (.castore, 1) := by decide +kernel
theorem dX7_append_52 : decode cX7_append 52 = .ok (.aload_n 0, 1) := by decide +kernel
theorem dX7_append_53 : decode cX7_append 53 = .ok (.dup, 1) := by decide +kernel
theorem dX7_append_54 : decode cX7_append 54 = .ok (.getfield 15, 3) := by decide +kernel
theorem dX7_append_57 : decode cX7_append 57 = .ok (.iconst 1, 1) := by decide +kernel
theorem dX7_append_58 : decode cX7_append 58 = .ok (.iadd, 1) := by decide +kernel
theorem dX7_append_59 : decode cX7_append 59 = .ok (.putfield 15, 3) := by decide +kernel
theorem dX7_append_62 : decode cX7_append 62 = .ok (.iinc 3 (-8), 3) := by decide +kernel
theorem dX7_append_65 : decode cX7_append 65 = .ok (.goto (-62), 3) := by decide +kernel
theorem dX7_append_68 : decode cX7_append 68 = .ok (.return_, 1) := by decide +kernel
theorem dX7_read_0 : decode cX7_read 0 = .ok (.aload_n 0, 1) := by decide +kernel
theorem dX7_read_1 : decode cX7_read 1 = .ok (.iload_n 1, 1) := by decide +kernel
theorem dX7_read_2 : decode cX7_read 2 = .ok (.putfield 38, 3) := by decide +kernel
theorem dX7_read_5 : decode cX7_read 5 = .ok (.aload_n 0, 1) := by decide +kernel
theorem dX7_read_6 : decode cX7_read 6 = .ok (.iconst 0, 1) := by decide +kernel
theorem dX7_read_7 : decode cX7_read 7 = .ok (.putfield 41, 3) := by decide +kernel
theorem dX7_read_10 : decode cX7_read 10 = .ok (.aload_n 0, 1) := by decide +kernel
theorem dX7_read_11 : decode cX7_read 11 = .ok (.iconst 0, 1) := by decide +kernel
theorem dX7_read_12 : decode cX7_read 12 = .ok (.putfield 44, 3) := by decide +kernel
theorem dX7_read_15 : decode cX7_read 15 = .ok (.aload_n 0, 1) := by decide +kernel
theorem dX7_read_16 : decode cX7_read 16 = .ok (.invokevirtual 47, 3) := by decide +kernel
theorem dX7_read_19 : decode cX7_read 19 = .ok (.aload_n 0, 1) := by decide +kernel
theorem dX7_read_20 : decode cX7_read 20 = .ok (.iconst 0, 1) := by decide +kernel
theorem dX7_read_21 : decode cX7_read 21 = .ok (.putfield 50, 3) := by decide +kernel
theorem dX7_read_24 : decode cX7_read 24 = .ok (.aload_n 0, 1) := by decide +kernel
theorem dX7_read_25 : decode cX7_read 25 = .ok (.iconst 0, 1) := by decide +kernel
theorem dX7_read_26 : decode cX7_read 26 = .ok (.invokevirtual 53, 3) := by decide +kernel
theorem dX7_read_29 : decode cX7_read 29 = .ok (.ifCond .ne 5, 3) := by decide +kernel
theorem dX7_read_32 : decode cX7_read 32 = .ok (.aconst_null, 1) := by decide +kernel
theorem dX7_read_33 : decode cX7_read 33 = .ok (.areturn, 1) := by decide +kernel
theorem dX7_read_34 : decode cX7_read 34 = .ok (.aload_n 0, 1) := by decide +kernel
theorem dX7_read_35 : decode cX7_read 35 = .ok (.invokevirtual 57, 3) := by decide +kernel
theorem dX7_read_38 : decode cX7_read 38 = .ok (.ifCond .eq 11, 3) := by decide +kernel
theorem dX7_read_41 : decode cX7_read 41 = .ok (.aload_n 0, 1) := by decide +kernel
theorem dX7_read_42 : decode cX7_read 42 = .ok (.iconst 1, 1) := by decide +kernel
theorem dX7_read_43 : decode cX7_read 43 = .ok (.invokevirtual 61, 3) := by decide +kernel
theorem dX7_read_46 : decode cX7_read 46 = .ok (.pop, 1) := by decide +kernel
theorem dX7_read_47 : decode cX7_read 47 = .ok (.aconst_null, 1) := by decide +kernel
theorem dX7_read_48 : decode cX7_read 48 = .ok (.areturn, 1) := by decide +kernel
theorem dX7_read_49 : decode cX7_read 49 = .ok (.new 64, 3) := by decide +kernel
theorem dX7_read_52 : decode cX7_read 52 = .ok (.dup, 1) := by decide +kernel
theorem dX7_read_53 : decode cX7_read 53 = .ok (.aload_n 0, 1) := by decide +kernel
theorem dX7_read_54 : decode cX7_read 54 = .ok (.getfield 29, 3) := by decide +kernel
theorem dX7_read_57 : decode cX7_read 57 = .ok (.aload_n 0, 1) := by decide +kernel
theorem dX7_read_58 : decode cX7_read 58 = .ok (.getfield 32, 3) := by decide +kernel
theorem dX7_read_61 : decode cX7_read 61 = .ok (.aload_n 0, 1) := by decide +kernel
theorem dX7_read_62 : decode cX7_read 62 = .ok (.getfield 35, 3) := by decide +kernel
theorem dX7_read_65 : decode cX7_read 65 = .ok (.aload_n 0, 1) := by decide +kernel
theorem dX7_read_66 : decode cX7_read 66 = .ok (.getfield 41, 3) := by decide +kernel
theorem dX7_read_69 : decode cX7_read 69 = .ok (.invokespecial 66, 3) := by decide +kernel
theorem dX7_read_72 : decode cX7_read 72 = .ok (.areturn, 1) := by decide +kernel
theorem dX7_findTokens_0 : decode cX7_findTokens 0 = .ok (.aload_n 0, 1) := by decide +kernel
theorem dX7_findTokens_1 : decode cX7_findTokens 1 = .ok (.iconst 0, 1) := by decide +kernel
theorem dX7_findTokens_2 : decode cX7_findTokens 2 = .ok (.putfield 69, 3) := by decide +kernel
theorem dX7_findTokens_5 : decode cX7_findTokens 5 = .ok (.iconst 0, 1) := by decide +kernel
theorem dX7_findTokens_6 : decode cX7_findTokens 6 = .ok (.istore_n 1, 1) := by decide +kernel
theorem dX7_findTokens_7 : decode cX7_findTokens 7 = .ok (.iconst 0, 1) := by decide +kernel
theorem dX7_findTokens_8 : decode cX7_findTokens 8 = .ok (.istore_n 2, 1) := by decide +kernel
theorem dX7_findTokens_9 : decode cX7_findTokens 9 = .ok (.iload_n 2, 1) := by decide +kernel
theorem dX7_findTokens_10 : decode cX7_findTokens 10 = .ok (.aload_n 0, 1) := by decide +kernel
theorem dX7_findTokens_11 : decode cX7_findTokens 11 = .ok (.getfield 15, 3) := by decide +kernel
theorem dX7_findTokens_14 : decode cX7_findTokens 14 = .ok (.if_icmp .ge 43, 3) := by decide +kernel
theorem dX7_findTokens_17 : decode cX7_findTokens 17 = .ok (.iload_n 2, 1) := by decide +kernel
theorem dX7_findTokens_18 : decode cX7_findTokens 18 = .ok (.iconst 1, 1) := by decide +kernel
theorem dX7_findTokens_19 : decode cX7_findTokens 19 = .ok (.iadd, 1) := by decide +kernel
theorem dX7_findTokens_20 : decode cX7_findTokens 20 = .ok (.aload_n 0, 1) := by decide +kernel
theorem dX7_findTokens_21 : decode cX7_findTokens 21 = .ok (.iload_n 2, 1) := by decide +kernel
theorem dX7_findTokens_22 : decode cX7_findTokens 22 = .ok (.invokevirtual 72, 3) := by decide +kernel
theorem dX7_findTokens_25 : decode cX7_findTokens 25 = .ok (.invokestatic 76, 3) := by decide +kernel
theorem dX7_findTokens_28 : decode cX7_findTokens 28 = .ok (.istore_n 1, 1) := by decide +kernel
theorem dX7_findTokens_29 : decode cX7_findTokens 29 = .ok (.aload_n 0, 1) := by decide +kernel
theorem dX7_findTokens_30 : decode cX7_findTokens 30 = .ok (.getfield 9, 3) := by decide +kernel
theorem dX7_findTokens_33 : decode cX7_findTokens 33 = .ok (.iload_n 2, 1) := by decide +kernel
theorem dX7_findTokens_34 : decode cX7_findTokens 34 = .ok (.caload, 1) := by decide +kernel
theorem dX7_findTokens_35 : decode cX7_findTokens 35 = .ok (.bipush 32, 2) := by decide +kernel
theorem dX7_findTokens_37 : decode cX7_findTokens 37 = .ok (.if_icmp .eq 15, 3) := by decide +kernel
theorem dX7_findTokens_40 : decode cX7_findTokens 40 = .ok (.aload_n 0, 1) := by decide +kernel
theorem dX7_findTokens_41 : decode cX7_findTokens 41 = .ok (.aload_n 0, 1) := by decide +kernel
theorem dX7_findTokens_42 : decode cX7_findTokens 42 = .ok (.iload_n 2, 1) := by decide +kernel
theorem dX7_findTokens_43 : decode cX7_findTokens 43 = .ok (.iload_n 1, 1) := by decide +kernel
theorem dX7_findTokens_44 : decode cX7_findTokens 44 = .ok (.invokevirtual 82, 3) := by decide +kernel
theorem dX7_findTokens_47 : decode cX7_findTokens 47 = .ok (.iload_n 2, 1) := by decide +kernel
theorem dX7_findTokens_48 : decode cX7_findTokens 48 = .ok (.iload_n 1, 1) := by decide +kernel
theorem dX7_findTokens_49 : decode cX7_findTokens 49 = .ok (.invokevirtual 85, 3) := by decide +kernel
theorem dX7_findTokens_52 : decode cX7_findTokens 52 = .ok (.iload_n 1, 1) := by decide +kernel
theorem dX7_findTokens_53 : decode cX7_findTokens 53 = .ok (.istore_n 2, 1) := by decide +kernel
theorem dX7_findTokens_54 : decode cX7_findTokens 54 = .ok (.goto (-45), 3) := by decide +kernel
theorem dX7_findTokens_57 : decode cX7_findTokens 57 = .ok (.aload_n 0, 1) := by decide +kernel
theorem dX7_findTokens_58 : decode cX7_findTokens 58 = .ok (.iconst 0, 1) := by decide +kernel
theorem dX7_findTokens_59 : decode cX7_findTokens 59 = .ok (.aload_n 0, 1) := by decide +kernel
theorem dX7_findTokens_60 : decode cX7_findTokens 60 = .ok (.getfield 15, 3) := by decide +kernel
theorem dX7_findTokens_63 : decode cX7_findTokens 63 = .ok (.aload_n 0, 1) := by decide +kernel
theorem dX7_findTokens_64 : decode cX7_findTokens 64 = .ok (.getfield 15, 3) := by decide +kernel
theorem dX7_findTokens_67 : decode cX7_findTokens 67 = .ok (.invokevirtual 85, 3) := by decide +kernel
theorem dX7_findTokens_70 : decode cX7_findTokens 70 = .ok (.return_, 1) := by decide +kernel
theorem dX7_endOfToken_0 : decode cX7_endOfToken 0 = .ok (.iload_n 1, 1) := by decide +kernel
theorem dX7_endOfToken_1 : decode cX7_endOfToken 1 = .ok (.iconst 1, 1) := by decide +kernel
theorem dX7_endOfToken_2 : decode cX7_endOfToken 2 = .ok (.iadd, 1) := by decide +kernel
theorem dX7_endOfToken_3 : decode cX7_endOfToken 3 = .ok (.istore_n 2, 1) := by decide +kernel
theorem dX7_endOfToken_4 : decode cX7_endOfToken 4 = .ok (.aload_n 0, 1) := by decide +kernel
theorem dX7_endOfToken_5 : decode cX7_endOfToken 5 = .ok (.getfield 9, 3) := by decide +kernel
theorem dX7_endOfToken_8 : decode cX7_endOfToken 8 = .ok (.iload_n 1, 1) := by decide +kernel
theorem dX7_endOfToken_9 : decode cX7_endOfToken 9 = .ok (.caload, 1) := by decide +kernel
theorem dX7_endOfToken_10 : decode cX7_endOfToken 10 = .ok (.invokestatic 89, 3) := by decide +kernel
theorem dX7_endOfToken_13 : decode cX7_endOfToken 13 = .ok (.ifCond .eq 29, 3) := by decide +kernel
theorem dX7_endOfToken_16 : decode cX7_endOfToken 16 = .ok (.iload_n 2, 1) := by decide +kernel
theorem dX7_endOfToken_17 : decode cX7_endOfToken 17 = .ok (.aload_n 0, 1) := by decide +kernel
theorem dX7_endOfToken_18 : decode cX7_endOfToken 18 = .ok (.getfield 15, 3) := by decide +kernel
theorem dX7_endOfToken_21 : decode cX7_endOfToken 21 = .ok (.if_icmp .ge 59, 3) := by decide +kernel
theorem dX7_endOfToken_24 : decode cX7_endOfToken 24 = .ok (.aload_n 0, 1) := by decide +kernel
theorem dX7_endOfToken_25 : decode cX7_endOfToken 25 = .ok (.getfield 9, 3) := by decide +kernel
theorem dX7_endOfToken_28 : decode cX7_endOfToken 28 = .ok (.iload_n 2, 1) := by decide +kernel
theorem dX7_endOfToken_29 : decode cX7_endOfToken 29 = .ok (.caload, 1) := by decide +kernel
theorem dX7_endOfToken_30 : decode cX7_endOfToken 30 = .ok (.invokestatic 89, 3) := by decide +kernel
theorem dX7_endOfToken_33 : decode cX7_endOfToken 33 = .ok (.ifCond .eq 47, 3) := by decide +kernel
theorem dX7_endOfToken_36 : decode cX7_endOfToken 36 = .ok (.iinc 2 1, 3) := by decide +kernel
theorem dX7_endOfToken_39 : decode cX7_endOfToken 39 = .ok (.goto (-23), 3) := by decide +kernel
theorem dX7_endOfToken_42 : decode cX7_endOfToken 42 = .ok (.aload_n 0, 1) := by decide +kernel
theorem dX7_endOfToken_43 : decode cX7_endOfToken 43 = .ok (.getfield 9, 3) := by decide +kernel
theorem dX7_endOfToken_46 : decode cX7_endOfToken 46 = .ok (.iload_n 1, 1) := by decide +kernel
theorem dX7_endOfToken_47 : decode cX7_endOfToken 47 = .ok (.caload, 1) := by decide +kernel
theorem dX7_endOfToken_48 : decode cX7_endOfToken 48 = .ok (.invokestatic 93, 3) := by decide +kernel
theorem dX7_endOfToken_51 : decode cX7_endOfToken 51 = .ok (.ifCond .eq 29, 3) := by decide +kernel
theorem dX7_endOfToken_54 : decode cX7_endOfToken 54 = .ok (.iload_n 2, 1) := by decide +kernel
theorem dX7_endOfToken_55 : decode cX7_endOfToken 55 = .ok (.aload_n 0, 1) := by decide +kernel
theorem dX7_endOfToken_56 : decode cX7_endOfToken 56 = .ok (.getfield 15, 3) := by decide +kernel
theorem dX7_endOfToken_59 : decode cX7_endOfToken 59 = .ok (.if_icmp .ge 21, 3) := by decide +kernel
theorem dX7_endOfToken_62 : decode cX7_endOfToken 62 = .ok (.aload_n 0, 1) := by decide +kernel
theorem dX7_endOfToken_63 : decode cX7_endOfToken 63 = .ok (.getfield 9, 3) := by decide +kernel
theorem dX7_endOfToken_66 : decode cX7_endOfToken 66 = .ok (.iload_n 2, 1) := by decide +kernel
theorem dX7_endOfToken_67 : decode cX7_endOfToken 67 = .ok (.caload, 1) := by decide +kernel
theorem dX7_endOfToken_68 : decode cX7_endOfToken 68 = .ok (.invokestatic 93, 3) := by decide +kernel
theorem dX7_endOfToken_71 : decode cX7_endOfToken 71 = .ok (.ifCond .eq 9, 3) := by decide +kernel
theorem dX7_endOfToken_74 : decode cX7_endOfToken 74 = .ok (.iinc 2 1, 3) := by decide +kernel
theorem dX7_endOfToken_77 : decode cX7_endOfToken 77 = .ok (.goto (-23), 3) := by decide +kernel
theorem dX7_endOfToken_80 : decode cX7_endOfToken 80 = .ok (.iload_n 2, 1) := by decide +kernel
theorem dX7_endOfToken_81 : decode cX7_endOfToken 81 = .ok (.ireturn, 1) := by decide +kernel
theorem dX7_kindOf_0 : decode cX7_kindOf 0 = .ok (.aload_n 0, 1) := by decide +kernel
theorem dX7_kindOf_1 : decode cX7_kindOf 1 = .ok (.getfield 9, 3) := by decide +kernel
theorem dX7_kindOf_4 : decode cX7_kindOf 4 = .ok (.iload_n 1, 1) := by decide +kernel
theorem dX7_kindOf_5 : decode cX7_kindOf 5 = .ok (.caload, 1) := by decide +kernel
theorem dX7_kindOf_6 : decode cX7_kindOf 6 = .ok (.istore_n 3, 1) := by decide +kernel
theorem dX7_kindOf_7 : decode cX7_kindOf 7 = .ok (.iload_n 3, 1) := by decide +kernel
theorem dX7_kindOf_8 : decode cX7_kindOf 8 = .ok (.invokestatic 89, 3) := by decide +kernel
theorem dX7_kindOf_11 : decode cX7_kindOf 11 = .ok (.ifCond .eq 18, 3) := by decide +kernel
theorem dX7_kindOf_14 : decode cX7_kindOf 14 = .ok (.iload_n 2, 1) := by decide +kernel
theorem dX7_kindOf_15 : decode cX7_kindOf 15 = .ok (.iload_n 1, 1) := by decide +kernel
theorem dX7_kindOf_16 : decode cX7_kindOf 16 = .ok (.isub, 1) := by decide +kernel
theorem dX7_kindOf_17 : decode cX7_kindOf 17 = .ok (.iconst 3, 1) := by decide +kernel
theorem dX7_kindOf_18 : decode cX7_kindOf 18 = .ok (.if_icmp .gt 8, 3) := by decide +kernel
theorem dX7_kindOf_21 : decode cX7_kindOf 21 = .ok (.bipush 119, 2) := by decide +kernel
theorem dX7_kindOf_23 : decode cX7_kindOf 23 = .ok (.goto 5, 3) := by decide +kernel
theorem dX7_kindOf_26 : decode cX7_kindOf 26 = .ok (.bipush 63, 2) := by decide +kernel
theorem dX7_kindOf_28 : decode cX7_kindOf 28 = .ok (.ireturn, 1) := by decide +kernel
theorem dX7_kindOf_29 : decode cX7_kindOf 29 = .ok (.iload_n 3, 1) := by decide +kernel
theorem dX7_kindOf_30 : decode cX7_kindOf 30 = .ok (.invokestatic 93, 3) := by decide +kernel
theorem dX7_kindOf_33 : decode cX7_kindOf 33 = .ok (.ifCond .eq 19, 3) := by decide +kernel
theorem dX7_kindOf_36 : decode cX7_kindOf 36 = .ok (.iload_n 2, 1) := by decide +kernel
theorem dX7_kindOf_37 : decode cX7_kindOf 37 = .ok (.iload_n 1, 1) := by decide +kernel
theorem dX7_kindOf_38 : decode cX7_kindOf 38 = .ok (.isub, 1) := by decide +kernel
theorem dX7_kindOf_39 : decode cX7_kindOf 39 = .ok (.bipush 6, 2) := by decide +kernel
theorem dX7_kindOf_41 : decode cX7_kindOf 41 = .ok (.if_icmp .gt 8, 3) := by decide +kernel
theorem dX7_kindOf_44 : decode cX7_kindOf 44 = .ok (.bipush 110, 2) := by decide +kernel
theorem dX7_kindOf_46 : decode cX7_kindOf 46 = .ok (.goto 5, 3) := by decide +kernel
theorem dX7_kindOf_49 : decode cX7_kindOf 49 = .ok (.bipush 63, 2) := by decide +kernel
theorem dX7_kindOf_51 : decode cX7_kindOf 51 = .ok (.ireturn, 1) := by decide +kernel
theorem dX7_kindOf_52 : decode cX7_kindOf 52 = .ok (.ldc 96, 2) := by decide +kernel
theorem dX7_kindOf_54 : decode cX7_kindOf 54 = .ok (.iload_n 3, 1) := by decide +kernel
theorem dX7_kindOf_55 : decode cX7_kindOf 55 = .ok (.invokevirtual 98, 3) := by decide +kernel
theorem dX7_kindOf_58 : decode cX7_kindOf 58 = .ok (.ifCond .lt 7, 3) := by decide +kernel
theorem dX7_kindOf_61 : decode cX7_kindOf 61 = .ok (.iload_n 3, 1) := by decide +kernel
theorem dX7_kindOf_62 : decode cX7_kindOf 62 = .ok (.goto 5, 3) := by decide +kernel
theorem dX7_kindOf_65 : decode cX7_kindOf 65 = .ok (.bipush 63, 2) := by decide +kernel
theorem dX7_kindOf_67 : decode cX7_kindOf 67 = .ok (.ireturn, 1) := by decide +kernel
theorem dX7_addToken_0 : decode cX7_addToken 0 = .ok (.aload_n 0, 1) := by decide +kernel
theorem dX7_addToken_1 : decode cX7_addToken 1 = .ok (.getfield 69, 3) := by decide +kernel
theorem dX7_addToken_4 : decode cX7_addToken 4 = .ok (.bipush 120, 2) := by decide +kernel
theorem dX7_addToken_6 : decode cX7_addToken 6 = .ok (.if_icmp .gt 73, 3) := by decide +kernel
theorem dX7_addToken_9 : decode cX7_addToken 9 = .ok (.aload_n 0, 1) := by decide +kernel
theorem dX7_addToken_10 : decode cX7_addToken 10 = .ok (.getfield 19, 3) := by decide +kernel
theorem dX7_addToken_13 : decode cX7_addToken 13 = .ok (.aload_n 0, 1) := by decide +kernel
theorem dX7_addToken_14 : decode cX7_addToken 14 = .ok (.getfield 69, 3) := by decide +kernel
theorem dX7_addToken_17 : decode cX7_addToken 17 = .ok (.iload_n 1, 1) := by decide +kernel
theorem dX7_addToken_18 : decode cX7_addToken 18 = .ok (.iastore, 1) := by decide +kernel
theorem dX7_addToken_19 : decode cX7_addToken 19 = .ok (.aload_n 0, 1) := by decide +kernel
theorem dX7_addToken_20 : decode cX7_addToken 20 = .ok (.getfield 26, 3) := by decide +kernel
theorem dX7_addToken_23 : decode cX7_addToken 23 = .ok (.aload_n 0, 1) := by decide +kernel
theorem dX7_addToken_24 : decode cX7_addToken 24 = .ok (.getfield 69, 3) := by decide +kernel
theorem dX7_addToken_27 : decode cX7_addToken 27 = .ok (.iload_n 2, 1) := by decide +kernel
theorem dX7_addToken_28 : decode cX7_addToken 28 = .ok (.iastore, 1) := by decide +kernel
theorem dX7_addToken_29 : decode cX7_addToken 29 = .ok (.aload_n 0, 1) := by decide +kernel
theorem dX7_addToken_30 : decode cX7_addToken 30 = .ok (.getfield 23, 3) := by decide +kernel
theorem dX7_addToken_33 : decode cX7_addToken 33 = .ok (.aload_n 0, 1) := by decide +kernel
theorem dX7_addToken_34 : decode cX7_addToken 34 = .ok (.getfield 69, 3) := by decide +kernel
theorem dX7_addToken_37 : decode cX7_addToken 37 = .ok (.iload_n 1, 1) := by decide +kernel
theorem dX7_addToken_38 : decode cX7_addToken 38 = .ok (.bipush 119, 2) := by decide +kernel
theorem dX7_addToken_40 : decode cX7_addToken 40 = .ok (.if_icmp .ne 12, 3) := by decide +kernel
theorem dX7_addToken_43 : decode cX7_addToken 43 = .ok (.aload_n 0, 1) := by decide +kernel
theorem dX7_addToken_44 : decode cX7_addToken 44 = .ok (.iload_n 2, 1) := by decide +kernel
theorem dX7_addToken_45 : decode cX7_addToken 45 = .ok (.iload_n 3, 1) := by decide +kernel
theorem dX7_addToken_46 : decode cX7_addToken 46 = .ok (.invokevirtual 103, 3) := by decide +kernel
theorem dX7_addToken_49 : decode cX7_addToken 49 = .ok (.goto 19, 3) := by decide +kernel
theorem dX7_addToken_52 : decode cX7_addToken 52 = .ok (.iload_n 1, 1) := by decide +kernel
theorem dX7_addToken_53 : decode cX7_addToken 53 = .ok (.bipush 110, 2) := by decide +kernel
theorem dX7_addToken_55 : decode cX7_addToken 55 = .ok (.if_icmp .ne 12, 3) := by decide +kernel
theorem dX7_addToken_58 : decode cX7_addToken 58 = .ok (.aload_n 0, 1) := by decide +kernel
theorem dX7_addToken_59 : decode cX7_addToken 59 = .ok (.iload_n 2, 1) := by decide +kernel
theorem dX7_addToken_60 : decode cX7_addToken 60 = .ok (.iload_n 3, 1) := by decide +kernel
theorem dX7_addToken_61 : decode cX7_addToken 61 = .ok (.invokevirtual 106, 3) := by decide +kernel
theorem dX7_addToken_64 : decode cX7_addToken 64 = .ok (.goto 4, 3) := by decide +kernel
theorem dX7_addToken_67 : decode cX7_addToken 67 = .ok (.iconst 0, 1) := by decide +kernel
theorem dX7_addToken_68 : decode cX7_addToken 68 = .ok (.iastore, 1) := by decide +kernel
theorem dX7_addToken_69 : decode cX7_addToken 69 = .ok (.aload_n 0, 1) := by decide +kernel
theorem dX7_addToken_70 : decode cX7_addToken 70 = .ok (.dup, 1) := by decide +kernel
theorem dX7_addToken_71 : decode cX7_addToken 71 = .ok (.getfield 69, 3) := by decide +kernel
theorem dX7_addToken_74 : decode cX7_addToken 74 = .ok (.iconst 1, 1) := by decide +kernel
theorem dX7_addToken_75 : decode cX7_addToken 75 = .ok (.iadd, 1) := by decide +kernel
theorem dX7_addToken_76 : decode cX7_addToken 76 = .ok (.putfield 69, 3) := by decide +kernel
theorem dX7_addToken_79 : decode cX7_addToken 79 = .ok (.return_, 1) := by decide +kernel
theorem dX7_wordAmount_0 : decode cX7_wordAmount 0 = .ok (.iload_n 2, 1) := by decide +kernel
theorem dX7_wordAmount_1 : decode cX7_wordAmount 1 = .ok (.iload_n 1, 1) := by decide +kernel
theorem dX7_wordAmount_2 : decode cX7_wordAmount 2 = .ok (.isub, 1) := by decide +kernel
theorem dX7_wordAmount_3 : decode cX7_wordAmount 3 = .ok (.iconst 1, 1) := by decide +kernel
theorem dX7_wordAmount_4 : decode cX7_wordAmount 4 = .ok (.if_icmp .ne 13, 3) := by decide +kernel
theorem dX7_wordAmount_7 : decode cX7_wordAmount 7 = .ok (.aload_n 0, 1) := by decide +kernel
theorem dX7_wordAmount_8 : decode cX7_wordAmount 8 = .ok (.getfield 9, 3) := by decide +kernel
theorem dX7_wordAmount_11 : decode cX7_wordAmount 11 = .ok (.iload_n 1, 1) := by decide +kernel
theorem dX7_wordAmount_12 : decode cX7_wordAmount 12 = .ok (.caload, 1) := by decide +kernel
theorem dX7_wordAmount_13 : decode cX7_wordAmount 13 = .ok (.bipush 97, 2) := by decide +kernel
theorem dX7_wordAmount_15 : decode cX7_wordAmount 15 = .ok (.isub, 1) := by decide +kernel
theorem dX7_wordAmount_16 : decode cX7_wordAmount 16 = .ok (.ireturn, 1) := by decide +kernel
theorem dX7_wordAmount_17 : decode cX7_wordAmount 17 = .ok (.iload_n 2, 1) := by decide +kernel
theorem dX7_wordAmount_18 : decode cX7_wordAmount 18 = .ok (.iload_n 1, 1) := by decide +kernel
theorem dX7_wordAmount_19 : decode cX7_wordAmount 19 = .ok (.isub, 1) := by decide +kernel
theorem dX7_wordAmount_20 : decode cX7_wordAmount 20 = .ok (.iconst 3, 1) := by decide +kernel
theorem dX7_wordAmount_21 : decode cX7_wordAmount 21 = .ok (.if_icmp .ne 44, 3) := by decide +kernel
theorem dX7_wordAmount_24 : decode cX7_wordAmount 24 = .ok (.aload_n 0, 1) := by decide +kernel
theorem dX7_wordAmount_25 : decode cX7_wordAmount 25 = .ok (.getfield 9, 3) := by decide +kernel
theorem dX7_wordAmount_28 : decode cX7_wordAmount 28 = .ok (.iload_n 1, 1) := by decide +kernel
theorem dX7_wordAmount_29 : decode cX7_wordAmount 29 = .ok (.caload, 1) := by decide +kernel
theorem dX7_wordAmount_30 : decode cX7_wordAmount 30 = .ok (.bipush 115, 2) := by decide +kernel
theorem dX7_wordAmount_32 : decode cX7_wordAmount 32 = .ok (.if_icmp .ne 33, 3) := by decide +kernel
theorem dX7_wordAmount_35 : decode cX7_wordAmount 35 = .ok (.aload_n 0, 1) := by decide +kernel
theorem dX7_wordAmount_36 : decode cX7_wordAmount 36 = .ok (.getfield 9, 3) := by decide +kernel
theorem dX7_wordAmount_39 : decode cX7_wordAmount 39 = .ok (.iload_n 1, 1) := by decide +kernel
theorem dX7_wordAmount_40 : decode cX7_wordAmount 40 = .ok (.iconst 1, 1) := by decide +kernel
theorem dX7_wordAmount_41 : decode cX7_wordAmount 41 = .ok (.iadd, 1) := by decide +kernel
theorem dX7_wordAmount_42 : decode cX7_wordAmount 42 = .ok (.caload, 1) := by decide +kernel
theorem dX7_wordAmount_43 : decode cX7_wordAmount 43 = .ok (.bipush 117, 2) := by decide +kernel
theorem dX7_wordAmount_45 : decode cX7_wordAmount 45 = .ok (.if_icmp .ne 20, 3) := by decide +kernel
theorem dX7_wordAmount_48 : decode cX7_wordAmount 48 = .ok (.aload_n 0, 1) := by decide +kernel
theorem dX7_wordAmount_49 : decode cX7_wordAmount 49 = .ok (.getfield 9, 3) := by decide +kernel
theorem dX7_wordAmount_52 : decode cX7_wordAmount 52 = .ok (.iload_n 1, 1) := by decide +kernel
theorem dX7_wordAmount_53 : decode cX7_wordAmount 53 = .ok (.iconst 2, 1) := by decide +kernel
theorem dX7_wordAmount_54 : decode cX7_wordAmount 54 = .ok (.iadd, 1) := by decide +kernel
theorem dX7_wordAmount_55 : decode cX7_wordAmount 55 = .ok (.caload, 1) := by decide +kernel
theorem dX7_wordAmount_56 : decode cX7_wordAmount 56 = .ok (.bipush 109, 2) := by decide +kernel
theorem dX7_wordAmount_58 : decode cX7_wordAmount 58 = .ok (.if_icmp .ne 7, 3) := by decide +kernel
theorem dX7_wordAmount_61 : decode cX7_wordAmount 61 = .ok (.iconst 1, 1) := by decide +kernel
theorem dX7_wordAmount_62 : decode cX7_wordAmount 62 = .ok (.goto 4, 3) := by decide +kernel
theorem dX7_wordAmount_65 : decode cX7_wordAmount 65 = .ok (.iconst 0, 1) := by decide +kernel
theorem dX7_wordAmount_66 : decode cX7_wordAmount 66 = .ok (.istore_n 3, 1) := by decide +kernel
theorem dX7_wordAmount_67 : decode cX7_wordAmount 67 = .ok (.iload_n 3, 1) := by decide +kernel
theorem dX7_wordAmount_68 : decode cX7_wordAmount 68 = .ok (.ifCond .eq 8, 3) := by decide +kernel
theorem dX7_wordAmount_71 : decode cX7_wordAmount 71 = .ok (.bipush 26, 2) := by decide +kernel
theorem dX7_wordAmount_73 : decode cX7_wordAmount 73 = .ok (.goto 5, 3) := by decide +kernel
theorem dX7_wordAmount_76 : decode cX7_wordAmount 76 = .ok (.bipush 27, 2) := by decide +kernel
theorem dX7_wordAmount_78 : decode cX7_wordAmount 78 = .ok (.ireturn, 1) := by decide +kernel
theorem dX7_digitsAmount_0 : decode cX7_digitsAmount 0 = .ok (.iconst 0, 1) := by decide +kernel
theorem dX7_digitsAmount_1 : decode cX7_digitsAmount 1 = .ok (.istore_n 3, 1) := by decide +kernel
theorem dX7_digitsAmount_2 : decode cX7_digitsAmount 2 = .ok (.iload_n 1, 1) := by decide +kernel
theorem dX7_digitsAmount_3 : decode cX7_digitsAmount 3 = .ok (.istore 4, 2) := by decide +kernel
theorem dX7_digitsAmount_5 : decode cX7_digitsAmount 5 = .ok (.iload 4, 2) := by decide +kernel
theorem dX7_digitsAmount_7 : decode cX7_digitsAmount 7 = .ok (.iload_n 2, 1) := by decide +kernel
theorem dX7_digitsAmount_8 : decode cX7_digitsAmount 8 = .ok (.if_icmp .ge 25, 3) := by decide +kernel
theorem dX7_digitsAmount_11 : decode cX7_digitsAmount 11 = .ok (.iload_n 3, 1) := by decide +kernel
theorem dX7_digitsAmount_12 : decode cX7_digitsAmount 12 = .ok (.bipush 10, 2) := by decide +kernel
theorem dX7_digitsAmount_14 : decode cX7_digitsAmount 14 = .ok (.imul, 1) := by decide +kernel
theorem dX7_digitsAmount_15 : decode cX7_digitsAmount 15 = .ok (.aload_n 0, 1) := by decide +kernel
theorem dX7_digitsAmount_16 : decode cX7_digitsAmount 16 = .ok (.getfield 9, 3) := by decide +kernel
theorem dX7_digitsAmount_19 : decode cX7_digitsAmount 19 = .ok (.iload 4, 2) := by decide +kernel
theorem dX7_digitsAmount_21 : decode cX7_digitsAmount 21 = .ok (.caload, 1) := by decide +kernel
theorem dX7_digitsAmount_22 : decode cX7_digitsAmount 22 = .ok (.bipush 48, 2) := by decide +kernel
theorem dX7_digitsAmount_24 : decode cX7_digitsAmount 24 = .ok (.isub, 1) := by decide +kernel
theorem dX7_digitsAmount_25 : decode cX7_digitsAmount 25 = .ok (.iadd, 1) := by decide +kernel
theorem dX7_digitsAmount_26 : decode cX7_digitsAmount 26 = .ok (.istore_n 3, 1) := by decide +kernel
theorem dX7_digitsAmount_27 : decode cX7_digitsAmount 27 = .ok (.iinc 4 1, 3) := by decide +kernel
theorem dX7_digitsAmount_30 : decode cX7_digitsAmount 30 = .ok (.goto (-25), 3) := by decide +kernel
theorem dX7_digitsAmount_33 : decode cX7_digitsAmount 33 = .ok (.iload_n 3, 1) := by decide +kernel
theorem dX7_digitsAmount_34 : decode cX7_digitsAmount 34 = .ok (.ireturn, 1) := by decide +kernel
theorem dX7_isLetter_0 : decode cX7_isLetter 0 = .ok (.iload_n 0, 1) := by decide +kernel
theorem dX7_isLetter_1 : decode cX7_isLetter 1 = .ok (.bipush 97, 2) := by decide +kernel
theorem dX7_isLetter_3 : decode cX7_isLetter 3 = .ok (.if_icmp .lt 13, 3) := by decide +kernel
theorem dX7_isLetter_6 : decode cX7_isLetter 6 = .ok (.iload_n 0, 1) := by decide +kernel
theorem dX7_isLetter_7 : decode cX7_isLetter 7 = .ok (.bipush 122, 2) := by decide +kernel
theorem dX7_isLetter_9 : decode cX7_isLetter 9 = .ok (.if_icmp .gt 7, 3) := by decide +kernel
theorem dX7_isLetter_12 : decode cX7_isLetter 12 = .ok (.iconst 1, 1) := by decide +kernel
theorem dX7_isLetter_13 : decode cX7_isLetter 13 = .ok (.goto 4, 3) := by decide +kernel
theorem dX7_isLetter_16 : decode cX7_isLetter 16 = .ok (.iconst 0, 1) := by decide +kernel
theorem dX7_isLetter_17 : decode cX7_isLetter 17 = .ok (.ireturn, 1) := by decide +kernel
theorem dX7_isDigit_0 : decode cX7_isDigit 0 = .ok (.iload_n 0, 1) := by decide +kernel
theorem dX7_isDigit_1 : decode cX7_isDigit 1 = .ok (.bipush 48, 2) := by decide +kernel
theorem dX7_isDigit_3 : decode cX7_isDigit 3 = .ok (.if_icmp .lt 13, 3) := by decide +kernel
theorem dX7_isDigit_6 : decode cX7_isDigit 6 = .ok (.iload_n 0, 1) := by decide +kernel
theorem dX7_isDigit_7 : decode cX7_isDigit 7 = .ok (.bipush 57, 2) := by decide +kernel
theorem dX7_isDigit_9 : decode cX7_isDigit 9 = .ok (.if_icmp .gt 7, 3) := by decide +kernel
theorem dX7_isDigit_12 : decode cX7_isDigit 12 = .ok (.iconst 1, 1) := by decide +kernel
theorem dX7_isDigit_13 : decode cX7_isDigit 13 = .ok (.goto 4, 3) := by decide +kernel
theorem dX7_isDigit_16 : decode cX7_isDigit 16 = .ok (.iconst 0, 1) := by decide +kernel
theorem dX7_isDigit_17 : decode cX7_isDigit 17 = .ok (.ireturn, 1) := by decide +kernel
theorem dX7_kind_0 : decode cX7_kind 0 = .ok (.aload_n 0, 1) := by decide +kernel
theorem dX7_kind_1 : decode cX7_kind 1 = .ok (.getfield 50, 3) := by decide +kernel
theorem dX7_kind_4 : decode cX7_kind 4 = .ok (.ifCond .lt 26, 3) := by decide +kernel
theorem dX7_kind_7 : decode cX7_kind 7 = .ok (.aload_n 0, 1) := by decide +kernel
theorem dX7_kind_8 : decode cX7_kind 8 = .ok (.getfield 50, 3) := by decide +kernel
theorem dX7_kind_11 : decode cX7_kind 11 = .ok (.aload_n 0, 1) := by decide +kernel
theorem dX7_kind_12 : decode cX7_kind 12 = .ok (.getfield 69, 3) := by decide +kernel
theorem dX7_kind_15 : decode cX7_kind 15 = .ok (.if_icmp .ge 15, 3) := by decide +kernel
theorem dX7_kind_18 : decode cX7_kind 18 = .ok (.aload_n 0, 1) := by decide +kernel
theorem dX7_kind_19 : decode cX7_kind 19 = .ok (.getfield 19, 3) := by decide +kernel
theorem dX7_kind_22 : decode cX7_kind 22 = .ok (.aload_n 0, 1) := by decide +kernel
theorem dX7_kind_23 : decode cX7_kind 23 = .ok (.getfield 50, 3) := by decide +kernel
theorem dX7_kind_26 : decode cX7_kind 26 = .ok (.iaload, 1) := by decide +kernel
theorem dX7_kind_27 : decode cX7_kind 27 = .ok (.goto 4, 3) := by decide +kernel
theorem dX7_kind_30 : decode cX7_kind 30 = .ok (.iconst 0, 1) := by decide +kernel
theorem dX7_kind_31 : decode cX7_kind 31 = .ok (.ireturn, 1) := by decide +kernel
theorem dX7_amount_0 : decode cX7_amount 0 = .ok (.aload_n 0, 1) := by decide +kernel
theorem dX7_amount_1 : decode cX7_amount 1 = .ok (.getfield 50, 3) := by decide +kernel
theorem dX7_amount_4 : decode cX7_amount 4 = .ok (.ifCond .lt 26, 3) := by decide +kernel
theorem dX7_amount_7 : decode cX7_amount 7 = .ok (.aload_n 0, 1) := by decide +kernel
theorem dX7_amount_8 : decode cX7_amount 8 = .ok (.getfield 50, 3) := by decide +kernel
theorem dX7_amount_11 : decode cX7_amount 11 = .ok (.aload_n 0, 1) := by decide +kernel
theorem dX7_amount_12 : decode cX7_amount 12 = .ok (.getfield 69, 3) := by decide +kernel
theorem dX7_amount_15 : decode cX7_amount 15 = .ok (.if_icmp .ge 15, 3) := by decide +kernel
theorem dX7_amount_18 : decode cX7_amount 18 = .ok (.aload_n 0, 1) := by decide +kernel
theorem dX7_amount_19 : decode cX7_amount 19 = .ok (.getfield 23, 3) := by decide +kernel
theorem dX7_amount_22 : decode cX7_amount 22 = .ok (.aload_n 0, 1) := by decide +kernel
theorem dX7_amount_23 : decode cX7_amount 23 = .ok (.getfield 50, 3) := by decide +kernel
theorem dX7_amount_26 : decode cX7_amount 26 = .ok (.iaload, 1) := by decide +kernel
theorem dX7_amount_27 : decode cX7_amount 27 = .ok (.goto 4, 3) := by decide +kernel
theorem dX7_amount_30 : decode cX7_amount 30 = .ok (.iconst 0, 1) := by decide +kernel
theorem dX7_amount_31 : decode cX7_amount 31 = .ok (.ireturn, 1) := by decide +kernel
theorem dX7_wrong_0 : decode cX7_wrong 0 = .ok (.aload_n 0, 1) := by decide +kernel
theorem dX7_wrong_1 : decode cX7_wrong 1 = .ok (.getfield 50, 3) := by decide +kernel
theorem dX7_wrong_4 : decode cX7_wrong 4 = .ok (.ifCond .lt 26, 3) := by decide +kernel
theorem dX7_wrong_7 : decode cX7_wrong 7 = .ok (.aload_n 0, 1) := by decide +kernel
theorem dX7_wrong_8 : decode cX7_wrong 8 = .ok (.getfield 50, 3) := by decide +kernel
theorem dX7_wrong_11 : decode cX7_wrong 11 = .ok (.aload_n 0, 1) := by decide +kernel
theorem dX7_wrong_12 : decode cX7_wrong 12 = .ok (.getfield 69, 3) := by decide +kernel
theorem dX7_wrong_15 : decode cX7_wrong 15 = .ok (.if_icmp .ge 15, 3) := by decide +kernel
theorem dX7_wrong_18 : decode cX7_wrong 18 = .ok (.aload_n 0, 1) := by decide +kernel
theorem dX7_wrong_19 : decode cX7_wrong 19 = .ok (.getfield 26, 3) := by decide +kernel
theorem dX7_wrong_22 : decode cX7_wrong 22 = .ok (.aload_n 0, 1) := by decide +kernel
theorem dX7_wrong_23 : decode cX7_wrong 23 = .ok (.getfield 50, 3) := by decide +kernel
theorem dX7_wrong_26 : decode cX7_wrong 26 = .ok (.iaload, 1) := by decide +kernel
theorem dX7_wrong_27 : decode cX7_wrong 27 = .ok (.goto 7, 3) := by decide +kernel
theorem dX7_wrong_30 : decode cX7_wrong 30 = .ok (.aload_n 0, 1) := by decide +kernel
theorem dX7_wrong_31 : decode cX7_wrong 31 = .ok (.getfield 15, 3) := by decide +kernel
theorem dX7_wrong_34 : decode cX7_wrong 34 = .ok (.istore_n 2, 1) := by decide +kernel
theorem dX7_wrong_35 : decode cX7_wrong 35 = .ok (.aload_n 0, 1) := by decide +kernel
theorem dX7_wrong_36 : decode cX7_wrong 36 = .ok (.iload_n 1, 1) := by decide +kernel
theorem dX7_wrong_37 : decode cX7_wrong 37 = .ok (.bipush 16, 2) := by decide +kernel
theorem dX7_wrong_39 : decode cX7_wrong 39 = .ok (.iload_n 2, 1) := by decide +kernel
theorem dX7_wrong_40 : decode cX7_wrong 40 = .ok (.imul, 1) := by decide +kernel
theorem dX7_wrong_41 : decode cX7_wrong 41 = .ok (.iadd, 1) := by decide +kernel
theorem dX7_wrong_42 : decode cX7_wrong 42 = .ok (.putfield 44, 3) := by decide +kernel
theorem dX7_wrong_45 : decode cX7_wrong 45 = .ok (.iconst 0, 1) := by decide +kernel
theorem dX7_wrong_46 : decode cX7_wrong 46 = .ok (.ireturn, 1) := by decide +kernel
theorem dX7_add_0 : decode cX7_add 0 = .ok (.aload_n 0, 1) := by decide +kernel
theorem dX7_add_1 : decode cX7_add 1 = .ok (.getfield 41, 3) := by decide +kernel
theorem dX7_add_4 : decode cX7_add 4 = .ok (.bipush 120, 2) := by decide +kernel
theorem dX7_add_6 : decode cX7_add 6 = .ok (.if_icmp .ge 43, 3) := by decide +kernel
theorem dX7_add_9 : decode cX7_add 9 = .ok (.aload_n 0, 1) := by decide +kernel
theorem dX7_add_10 : decode cX7_add 10 = .ok (.getfield 29, 3) := by decide +kernel
theorem dX7_add_13 : decode cX7_add 13 = .ok (.aload_n 0, 1) := by decide +kernel
theorem dX7_add_14 : decode cX7_add 14 = .ok (.getfield 41, 3) := by decide +kernel
theorem dX7_add_17 : decode cX7_add 17 = .ok (.iload_n 1, 1) := by decide +kernel
theorem dX7_add_18 : decode cX7_add 18 = .ok (.iastore, 1) := by decide +kernel
theorem dX7_add_19 : decode cX7_add 19 = .ok (.aload_n 0, 1) := by decide +kernel
theorem dX7_add_20 : decode cX7_add 20 = .ok (.getfield 32, 3) := by decide +kernel
theorem dX7_add_23 : decode cX7_add 23 = .ok (.aload_n 0, 1) := by decide +kernel
theorem dX7_add_24 : decode cX7_add 24 = .ok (.getfield 41, 3) := by decide +kernel
theorem dX7_add_27 : decode cX7_add 27 = .ok (.iload_n 2, 1) := by decide +kernel
theorem dX7_add_28 : decode cX7_add 28 = .ok (.iastore, 1) := by decide +kernel
theorem dX7_add_29 : decode cX7_add 29 = .ok (.aload_n 0, 1) := by decide +kernel
theorem dX7_add_30 : decode cX7_add 30 = .ok (.getfield 35, 3) := by decide +kernel
theorem dX7_add_33 : decode cX7_add 33 = .ok (.aload_n 0, 1) := by decide +kernel
theorem dX7_add_34 : decode cX7_add 34 = .ok (.getfield 41, 3) := by decide +kernel
theorem dX7_add_37 : decode cX7_add 37 = .ok (.iload_n 3, 1) := by decide +kernel
theorem dX7_add_38 : decode cX7_add 38 = .ok (.iastore, 1) := by decide +kernel
theorem dX7_add_39 : decode cX7_add 39 = .ok (.aload_n 0, 1) := by decide +kernel
theorem dX7_add_40 : decode cX7_add 40 = .ok (.dup, 1) := by decide +kernel
theorem dX7_add_41 : decode cX7_add 41 = .ok (.getfield 41, 3) := by decide +kernel
theorem dX7_add_44 : decode cX7_add 44 = .ok (.iconst 1, 1) := by decide +kernel
theorem dX7_add_45 : decode cX7_add 45 = .ok (.iadd, 1) := by decide +kernel
theorem dX7_add_46 : decode cX7_add 46 = .ok (.putfield 41, 3) := by decide +kernel
theorem dX7_add_49 : decode cX7_add 49 = .ok (.return_, 1) := by decide +kernel
theorem dX7_sum_0 : decode cX7_sum 0 = .ok (.aload_n 0, 1) := by decide +kernel
theorem dX7_sum_1 : decode cX7_sum 1 = .ok (.iload_n 1, 1) := by decide +kernel
theorem dX7_sum_2 : decode cX7_sum 2 = .ok (.invokevirtual 109, 3) := by decide +kernel
theorem dX7_sum_5 : decode cX7_sum 5 = .ok (.ifCond .ne 5, 3) := by decide +kernel
theorem dX7_sum_8 : decode cX7_sum 8 = .ok (.iconst 0, 1) := by decide +kernel
theorem dX7_sum_9 : decode cX7_sum 9 = .ok (.ireturn, 1) := by decide +kernel
theorem dX7_sum_10 : decode cX7_sum 10 = .ok (.iconst 0, 1) := by decide +kernel
theorem dX7_sum_11 : decode cX7_sum 11 = .ok (.istore_n 2, 1) := by decide +kernel
theorem dX7_sum_12 : decode cX7_sum 12 = .ok (.iload_n 2, 1) := by decide +kernel
theorem dX7_sum_13 : decode cX7_sum 13 = .ok (.bipush 120, 2) := by decide +kernel
theorem dX7_sum_15 : decode cX7_sum 15 = .ok (.if_icmp .ge 70, 3) := by decide +kernel
theorem dX7_sum_18 : decode cX7_sum 18 = .ok (.aload_n 0, 1) := by decide +kernel
theorem dX7_sum_19 : decode cX7_sum 19 = .ok (.invokevirtual 57, 3) := by decide +kernel
theorem dX7_sum_22 : decode cX7_sum 22 = .ok (.bipush 43, 2) := by decide +kernel
theorem dX7_sum_24 : decode cX7_sum 24 = .ok (.if_icmp .eq 12, 3) := by decide +kernel
theorem dX7_sum_27 : decode cX7_sum 27 = .ok (.aload_n 0, 1) := by decide +kernel
theorem dX7_sum_28 : decode cX7_sum 28 = .ok (.invokevirtual 57, 3) := by decide +kernel
theorem dX7_sum_31 : decode cX7_sum 31 = .ok (.bipush 45, 2) := by decide +kernel
theorem dX7_sum_33 : decode cX7_sum 33 = .ok (.if_icmp .ne 52, 3) := by decide +kernel
theorem dX7_sum_36 : decode cX7_sum 36 = .ok (.aload_n 0, 1) := by decide +kernel
theorem dX7_sum_37 : decode cX7_sum 37 = .ok (.invokevirtual 57, 3) := by decide +kernel
theorem dX7_sum_40 : decode cX7_sum 40 = .ok (.bipush 43, 2) := by decide +kernel
theorem dX7_sum_42 : decode cX7_sum 42 = .ok (.if_icmp .ne 7, 3) := by decide +kernel
theorem dX7_sum_45 : decode cX7_sum 45 = .ok (.iconst 5, 1) := by decide +kernel
theorem dX7_sum_46 : decode cX7_sum 46 = .ok (.goto 5, 3) := by decide +kernel
theorem dX7_sum_49 : decode cX7_sum 49 = .ok (.bipush 6, 2) := by decide +kernel
theorem dX7_sum_51 : decode cX7_sum 51 = .ok (.istore_n 3, 1) := by decide +kernel
theorem dX7_sum_52 : decode cX7_sum 52 = .ok (.aload_n 0, 1) := by decide +kernel
theorem dX7_sum_53 : decode cX7_sum 53 = .ok (.dup, 1) := by decide +kernel
theorem dX7_sum_54 : decode cX7_sum 54 = .ok (.getfield 50, 3) := by decide +kernel
theorem dX7_sum_57 : decode cX7_sum 57 = .ok (.iconst 1, 1) := by decide +kernel
theorem dX7_sum_58 : decode cX7_sum 58 = .ok (.iadd, 1) := by decide +kernel
theorem dX7_sum_59 : decode cX7_sum 59 = .ok (.putfield 50, 3) := by decide +kernel
theorem dX7_sum_62 : decode cX7_sum 62 = .ok (.aload_n 0, 1) := by decide +kernel
theorem dX7_sum_63 : decode cX7_sum 63 = .ok (.iload_n 1, 1) := by decide +kernel
theorem dX7_sum_64 : decode cX7_sum 64 = .ok (.invokevirtual 109, 3) := by decide +kernel
theorem dX7_sum_67 : decode cX7_sum 67 = .ok (.ifCond .ne 5, 3) := by decide +kernel
theorem dX7_sum_70 : decode cX7_sum 70 = .ok (.iconst 0, 1) := by decide +kernel
theorem dX7_sum_71 : decode cX7_sum 71 = .ok (.ireturn, 1) := by decide +kernel
theorem dX7_sum_72 : decode cX7_sum 72 = .ok (.aload_n 0, 1) := by decide +kernel
theorem dX7_sum_73 : decode cX7_sum 73 = .ok (.iload_n 3, 1) := by decide +kernel
theorem dX7_sum_74 : decode cX7_sum 74 = .ok (.iconst 0, 1) := by decide +kernel
theorem dX7_sum_75 : decode cX7_sum 75 = .ok (.iconst 0, 1) := by decide +kernel
theorem dX7_sum_76 : decode cX7_sum 76 = .ok (.invokevirtual 112, 3) := by decide +kernel
theorem dX7_sum_79 : decode cX7_sum 79 = .ok (.iinc 2 1, 3) := by decide +kernel
theorem dX7_sum_82 : decode cX7_sum 82 = .ok (.goto (-70), 3) := by decide +kernel
theorem dX7_sum_85 : decode cX7_sum 85 = .ok (.iconst 1, 1) := by decide +kernel
theorem dX7_sum_86 : decode cX7_sum 86 = .ok (.ireturn, 1) := by decide +kernel
theorem dX7_product_0 : decode cX7_product 0 = .ok (.aload_n 0, 1) := by decide +kernel
theorem dX7_product_1 : decode cX7_product 1 = .ok (.iload_n 1, 1) := by decide +kernel
theorem dX7_product_2 : decode cX7_product 2 = .ok (.invokevirtual 115, 3) := by decide +kernel
theorem dX7_product_5 : decode cX7_product 5 = .ok (.ifCond .ne 5, 3) := by decide +kernel
theorem dX7_product_8 : decode cX7_product 8 = .ok (.iconst 0, 1) := by decide +kernel
theorem dX7_product_9 : decode cX7_product 9 = .ok (.ireturn, 1) := by decide +kernel
theorem dX7_product_10 : decode cX7_product 10 = .ok (.iconst 0, 1) := by decide +kernel
theorem dX7_product_11 : decode cX7_product 11 = .ok (.istore_n 2, 1) := by decide +kernel
theorem dX7_product_12 : decode cX7_product 12 = .ok (.iload_n 2, 1) := by decide +kernel
theorem dX7_product_13 : decode cX7_product 13 = .ok (.bipush 120, 2) := by decide +kernel
theorem dX7_product_15 : decode cX7_product 15 = .ok (.if_icmp .ge 71, 3) := by decide +kernel
theorem dX7_product_18 : decode cX7_product 18 = .ok (.aload_n 0, 1) := by decide +kernel
theorem dX7_product_19 : decode cX7_product 19 = .ok (.invokevirtual 57, 3) := by decide +kernel
theorem dX7_product_22 : decode cX7_product 22 = .ok (.bipush 42, 2) := by decide +kernel
theorem dX7_product_24 : decode cX7_product 24 = .ok (.if_icmp .eq 12, 3) := by decide +kernel
theorem dX7_product_27 : decode cX7_product 27 = .ok (.aload_n 0, 1) := by decide +kernel
theorem dX7_product_28 : decode cX7_product 28 = .ok (.invokevirtual 57, 3) := by decide +kernel
theorem dX7_product_31 : decode cX7_product 31 = .ok (.bipush 47, 2) := by decide +kernel
theorem dX7_product_33 : decode cX7_product 33 = .ok (.if_icmp .ne 53, 3) := by decide +kernel
theorem dX7_product_36 : decode cX7_product 36 = .ok (.aload_n 0, 1) := by decide +kernel
theorem dX7_product_37 : decode cX7_product 37 = .ok (.invokevirtual 57, 3) := by decide +kernel
theorem dX7_product_40 : decode cX7_product 40 = .ok (.bipush 42, 2) := by decide +kernel
theorem dX7_product_42 : decode cX7_product 42 = .ok (.if_icmp .ne 8, 3) := by decide +kernel
theorem dX7_product_45 : decode cX7_product 45 = .ok (.bipush 7, 2) := by decide +kernel
theorem dX7_product_47 : decode cX7_product 47 = .ok (.goto 5, 3) := by decide +kernel
theorem dX7_product_50 : decode cX7_product 50 = .ok (.bipush 8, 2) := by decide +kernel
theorem dX7_product_52 : decode cX7_product 52 = .ok (.istore_n 3, 1) := by decide +kernel
theorem dX7_product_53 : decode cX7_product 53 = .ok (.aload_n 0, 1) := by decide +kernel
theorem dX7_product_54 : decode cX7_product 54 = .ok (.dup, 1) := by decide +kernel
theorem dX7_product_55 : decode cX7_product 55 = .ok (.getfield 50, 3) := by decide +kernel
theorem dX7_product_58 : decode cX7_product 58 = .ok (.iconst 1, 1) := by decide +kernel
theorem dX7_product_59 : decode cX7_product 59 = .ok (.iadd, 1) := by decide +kernel
theorem dX7_product_60 : decode cX7_product 60 = .ok (.putfield 50, 3) := by decide +kernel
theorem dX7_product_63 : decode cX7_product 63 = .ok (.aload_n 0, 1) := by decide +kernel
theorem dX7_product_64 : decode cX7_product 64 = .ok (.iload_n 1, 1) := by decide +kernel
theorem dX7_product_65 : decode cX7_product 65 = .ok (.invokevirtual 115, 3) := by decide +kernel
theorem dX7_product_68 : decode cX7_product 68 = .ok (.ifCond .ne 5, 3) := by decide +kernel
theorem dX7_product_71 : decode cX7_product 71 = .ok (.iconst 0, 1) := by decide +kernel
theorem dX7_product_72 : decode cX7_product 72 = .ok (.ireturn, 1) := by decide +kernel
theorem dX7_product_73 : decode cX7_product 73 = .ok (.aload_n 0, 1) := by decide +kernel
theorem dX7_product_74 : decode cX7_product 74 = .ok (.iload_n 3, 1) := by decide +kernel
theorem dX7_product_75 : decode cX7_product 75 = .ok (.iconst 0, 1) := by decide +kernel
theorem dX7_product_76 : decode cX7_product 76 = .ok (.iconst 0, 1) := by decide +kernel
theorem dX7_product_77 : decode cX7_product 77 = .ok (.invokevirtual 112, 3) := by decide +kernel
theorem dX7_product_80 : decode cX7_product 80 = .ok (.iinc 2 1, 3) := by decide +kernel
theorem dX7_product_83 : decode cX7_product 83 = .ok (.goto (-71), 3) := by decide +kernel
theorem dX7_product_86 : decode cX7_product 86 = .ok (.iconst 1, 1) := by decide +kernel
theorem dX7_product_87 : decode cX7_product 87 = .ok (.ireturn, 1) := by decide +kernel
theorem dX7_part_0 : decode cX7_part 0 = .ok (.aload_n 0, 1) := by decide +kernel
theorem dX7_part_1 : decode cX7_part 1 = .ok (.invokevirtual 118, 3) := by decide +kernel
theorem dX7_part_4 : decode cX7_part 4 = .ok (.ifCond .ne 9, 3) := by decide +kernel
theorem dX7_part_7 : decode cX7_part 7 = .ok (.aload_n 0, 1) := by decide +kernel
theorem dX7_part_8 : decode cX7_part 8 = .ok (.iconst 1, 1) := by decide +kernel
theorem dX7_part_9 : decode cX7_part 9 = .ok (.invokevirtual 61, 3) := by decide +kernel
theorem dX7_part_12 : decode cX7_part 12 = .ok (.ireturn, 1) := by decide +kernel
theorem dX7_part_13 : decode cX7_part 13 = .ok (.iload_n 1, 1) := by decide +kernel
theorem dX7_part_14 : decode cX7_part 14 = .ok (.bipush 8, 2) := by decide +kernel
theorem dX7_part_16 : decode cX7_part 16 = .ok (.if_icmp .lt 9, 3) := by decide +kernel
theorem dX7_part_19 : decode cX7_part 19 = .ok (.aload_n 0, 1) := by decide +kernel
theorem dX7_part_20 : decode cX7_part 20 = .ok (.iconst 5, 1) := by decide +kernel
theorem dX7_part_21 : decode cX7_part 21 = .ok (.invokevirtual 61, 3) := by decide +kernel
theorem dX7_part_24 : decode cX7_part 24 = .ok (.ireturn, 1) := by decide +kernel
theorem dX7_part_25 : decode cX7_part 25 = .ok (.aload_n 0, 1) := by decide +kernel
theorem dX7_part_26 : decode cX7_part 26 = .ok (.invokevirtual 57, 3) := by decide +kernel
theorem dX7_part_29 : decode cX7_part 29 = .ok (.lookupswitch 69 #[(40, 35), (45, 41), (110, 47)], 35) := by decide +kernel
theorem dX7_part_64 : decode cX7_part 64 = .ok (.aload_n 0, 1) := by decide +kernel
theorem dX7_part_65 : decode cX7_part 65 = .ok (.iload_n 1, 1) := by decide +kernel
theorem dX7_part_66 : decode cX7_part 66 = .ok (.invokevirtual 122, 3) := by decide +kernel
theorem dX7_part_69 : decode cX7_part 69 = .ok (.ireturn, 1) := by decide +kernel
theorem dX7_part_70 : decode cX7_part 70 = .ok (.aload_n 0, 1) := by decide +kernel
theorem dX7_part_71 : decode cX7_part 71 = .ok (.iload_n 1, 1) := by decide +kernel
theorem dX7_part_72 : decode cX7_part 72 = .ok (.invokevirtual 125, 3) := by decide +kernel
theorem dX7_part_75 : decode cX7_part 75 = .ok (.ireturn, 1) := by decide +kernel
theorem dX7_part_76 : decode cX7_part 76 = .ok (.aload_n 0, 1) := by decide +kernel
theorem dX7_part_77 : decode cX7_part 77 = .ok (.iconst 0, 1) := by decide +kernel
theorem dX7_part_78 : decode cX7_part 78 = .ok (.aload_n 0, 1) := by decide +kernel
theorem dX7_part_79 : decode cX7_part 79 = .ok (.invokevirtual 128, 3) := by decide +kernel
theorem dX7_part_82 : decode cX7_part 82 = .ok (.iconst 0, 1) := by decide +kernel
theorem dX7_part_83 : decode cX7_part 83 = .ok (.invokevirtual 112, 3) := by decide +kernel
theorem dX7_part_86 : decode cX7_part 86 = .ok (.aload_n 0, 1) := by decide +kernel
theorem dX7_part_87 : decode cX7_part 87 = .ok (.dup, 1) := by decide +kernel
theorem dX7_part_88 : decode cX7_part 88 = .ok (.getfield 50, 3) := by decide +kernel
theorem dX7_part_91 : decode cX7_part 91 = .ok (.iconst 1, 1) := by decide +kernel
theorem dX7_part_92 : decode cX7_part 92 = .ok (.iadd, 1) := by decide +kernel
theorem dX7_part_93 : decode cX7_part 93 = .ok (.putfield 50, 3) := by decide +kernel
theorem dX7_part_96 : decode cX7_part 96 = .ok (.iconst 1, 1) := by decide +kernel
theorem dX7_part_97 : decode cX7_part 97 = .ok (.ireturn, 1) := by decide +kernel
theorem dX7_part_98 : decode cX7_part 98 = .ok (.aload_n 0, 1) := by decide +kernel
theorem dX7_part_99 : decode cX7_part 99 = .ok (.invokevirtual 57, 3) := by decide +kernel
theorem dX7_part_102 : decode cX7_part 102 = .ok (.bipush 119, 2) := by decide +kernel
theorem dX7_part_104 : decode cX7_part 104 = .ok (.if_icmp .ne 19, 3) := by decide +kernel
theorem dX7_part_107 : decode cX7_part 107 = .ok (.aload_n 0, 1) := by decide +kernel
theorem dX7_part_108 : decode cX7_part 108 = .ok (.invokevirtual 128, 3) := by decide +kernel
theorem dX7_part_111 : decode cX7_part 111 = .ok (.bipush 26, 2) := by decide +kernel
theorem dX7_part_113 : decode cX7_part 113 = .ok (.if_icmp .ne 10, 3) := by decide +kernel
theorem dX7_part_116 : decode cX7_part 116 = .ok (.aload_n 0, 1) := by decide +kernel
theorem dX7_part_117 : decode cX7_part 117 = .ok (.invokevirtual 131, 3) := by decide +kernel
theorem dX7_part_120 : decode cX7_part 120 = .ok (.goto 7, 3) := by decide +kernel
theorem dX7_part_123 : decode cX7_part 123 = .ok (.aload_n 0, 1) := by decide +kernel
theorem dX7_part_124 : decode cX7_part 124 = .ok (.invokevirtual 134, 3) := by decide +kernel
theorem dX7_part_127 : decode cX7_part 127 = .ok (.ireturn, 1) := by decide +kernel
theorem dX7_startsPart_0 : decode cX7_startsPart 0 = .ok (.aload_n 0, 1) := by decide +kernel
theorem dX7_startsPart_1 : decode cX7_startsPart 1 = .ok (.invokevirtual 57, 3) := by decide +kernel
theorem dX7_startsPart_4 : decode cX7_startsPart 4 = .ok (.bipush 119, 2) := by decide +kernel
theorem dX7_startsPart_6 : decode cX7_startsPart 6 = .ok (.if_icmp .ne 27, 3) := by decide +kernel
theorem dX7_startsPart_9 : decode cX7_startsPart 9 = .ok (.aload_n 0, 1) := by decide +kernel
theorem dX7_startsPart_10 : decode cX7_startsPart 10 = .ok (.invokevirtual 128, 3) := by decide +kernel
theorem dX7_startsPart_13 : decode cX7_startsPart 13 = .ok (.bipush 12, 2) := by decide +kernel
theorem dX7_startsPart_15 : decode cX7_startsPart 15 = .ok (.if_icmp .lt 12, 3) := by decide +kernel
theorem dX7_startsPart_18 : decode cX7_startsPart 18 = .ok (.aload_n 0, 1) := by decide +kernel
theorem dX7_startsPart_19 : decode cX7_startsPart 19 = .ok (.invokevirtual 128, 3) := by decide +kernel
theorem dX7_startsPart_22 : decode cX7_startsPart 22 = .ok (.bipush 26, 2) := by decide +kernel
theorem dX7_startsPart_24 : decode cX7_startsPart 24 = .ok (.if_icmp .ne 7, 3) := by decide +kernel
theorem dX7_startsPart_27 : decode cX7_startsPart 27 = .ok (.iconst 1, 1) := by decide +kernel
theorem dX7_startsPart_28 : decode cX7_startsPart 28 = .ok (.goto 4, 3) := by decide +kernel
theorem dX7_startsPart_31 : decode cX7_startsPart 31 = .ok (.iconst 0, 1) := by decide +kernel
theorem dX7_startsPart_32 : decode cX7_startsPart 32 = .ok (.ireturn, 1) := by decide +kernel
theorem dX7_startsPart_33 : decode cX7_startsPart 33 = .ok (.aload_n 0, 1) := by decide +kernel
theorem dX7_startsPart_34 : decode cX7_startsPart 34 = .ok (.invokevirtual 57, 3) := by decide +kernel
theorem dX7_startsPart_37 : decode cX7_startsPart 37 = .ok (.bipush 110, 2) := by decide +kernel
theorem dX7_startsPart_39 : decode cX7_startsPart 39 = .ok (.if_icmp .eq 30, 3) := by decide +kernel
theorem dX7_startsPart_42 : decode cX7_startsPart 42 = .ok (.aload_n 0, 1) := by decide +kernel
theorem dX7_startsPart_43 : decode cX7_startsPart 43 = .ok (.invokevirtual 57, 3) := by decide +kernel
theorem dX7_startsPart_46 : decode cX7_startsPart 46 = .ok (.bipush 40, 2) := by decide +kernel
theorem dX7_startsPart_48 : decode cX7_startsPart 48 = .ok (.if_icmp .eq 21, 3) := by decide +kernel
theorem dX7_startsPart_51 : decode cX7_startsPart 51 = .ok (.aload_n 0, 1) := by decide +kernel
theorem dX7_startsPart_52 : decode cX7_startsPart 52 = .ok (.invokevirtual 57, 3) := by decide +kernel
theorem dX7_startsPart_55 : decode cX7_startsPart 55 = .ok (.bipush 45, 2) := by decide +kernel
theorem dX7_startsPart_57 : decode cX7_startsPart 57 = .ok (.if_icmp .eq 12, 3) := by decide +kernel
theorem dX7_startsPart_60 : decode cX7_startsPart 60 = .ok (.aload_n 0, 1) := by decide +kernel
theorem dX7_startsPart_61 : decode cX7_startsPart 61 = .ok (.invokevirtual 57, 3) := by decide +kernel
theorem dX7_startsPart_64 : decode cX7_startsPart 64 = .ok (.bipush 36, 2) := by decide +kernel
theorem dX7_startsPart_66 : decode cX7_startsPart 66 = .ok (.if_icmp .ne 7, 3) := by decide +kernel
theorem dX7_startsPart_69 : decode cX7_startsPart 69 = .ok (.iconst 1, 1) := by decide +kernel
theorem dX7_startsPart_70 : decode cX7_startsPart 70 = .ok (.goto 4, 3) := by decide +kernel
theorem dX7_startsPart_73 : decode cX7_startsPart 73 = .ok (.iconst 0, 1) := by decide +kernel
theorem dX7_startsPart_74 : decode cX7_startsPart 74 = .ok (.ireturn, 1) := by decide +kernel
theorem dX7_brackets_0 : decode cX7_brackets 0 = .ok (.aload_n 0, 1) := by decide +kernel
theorem dX7_brackets_1 : decode cX7_brackets 1 = .ok (.dup, 1) := by decide +kernel
theorem dX7_brackets_2 : decode cX7_brackets 2 = .ok (.getfield 50, 3) := by decide +kernel
theorem dX7_brackets_5 : decode cX7_brackets 5 = .ok (.iconst 1, 1) := by decide +kernel
theorem dX7_brackets_6 : decode cX7_brackets 6 = .ok (.iadd, 1) := by decide +kernel
theorem dX7_brackets_7 : decode cX7_brackets 7 = .ok (.putfield 50, 3) := by decide +kernel
theorem dX7_brackets_10 : decode cX7_brackets 10 = .ok (.aload_n 0, 1) := by decide +kernel
theorem dX7_brackets_11 : decode cX7_brackets 11 = .ok (.iload_n 1, 1) := by decide +kernel
theorem dX7_brackets_12 : decode cX7_brackets 12 = .ok (.iconst 1, 1) := by decide +kernel
theorem dX7_brackets_13 : decode cX7_brackets 13 = .ok (.iadd, 1) := by decide +kernel
theorem dX7_brackets_14 : decode cX7_brackets 14 = .ok (.invokevirtual 53, 3) := by decide +kernel
theorem dX7_brackets_17 : decode cX7_brackets 17 = .ok (.ifCond .eq 12, 3) := by decide +kernel
theorem dX7_brackets_20 : decode cX7_brackets 20 = .ok (.aload_n 0, 1) := by decide +kernel
theorem dX7_brackets_21 : decode cX7_brackets 21 = .ok (.bipush 41, 2) := by decide +kernel
theorem dX7_brackets_23 : decode cX7_brackets 23 = .ok (.invokevirtual 137, 3) := by decide +kernel
theorem dX7_brackets_26 : decode cX7_brackets 26 = .ok (.ifCond .ne 5, 3) := by decide +kernel
theorem dX7_brackets_29 : decode cX7_brackets 29 = .ok (.iconst 0, 1) := by decide +kernel
theorem dX7_brackets_30 : decode cX7_brackets 30 = .ok (.ireturn, 1) := by decide +kernel
theorem dX7_brackets_31 : decode cX7_brackets 31 = .ok (.aload_n 0, 1) := by decide +kernel
theorem dX7_brackets_32 : decode cX7_brackets 32 = .ok (.iconst 3, 1) := by decide +kernel
theorem dX7_brackets_33 : decode cX7_brackets 33 = .ok (.iconst 0, 1) := by decide +kernel
theorem dX7_brackets_34 : decode cX7_brackets 34 = .ok (.iconst 0, 1) := by decide +kernel
theorem dX7_brackets_35 : decode cX7_brackets 35 = .ok (.invokevirtual 112, 3) := by decide +kernel
theorem dX7_brackets_38 : decode cX7_brackets 38 = .ok (.iconst 1, 1) := by decide +kernel
theorem dX7_brackets_39 : decode cX7_brackets 39 = .ok (.ireturn, 1) := by decide +kernel
theorem dX7_negated_0 : decode cX7_negated 0 = .ok (.aload_n 0, 1) := by decide +kernel
theorem dX7_negated_1 : decode cX7_negated 1 = .ok (.dup, 1) := by decide +kernel
theorem dX7_negated_2 : decode cX7_negated 2 = .ok (.getfield 50, 3) := by decide +kernel
theorem dX7_negated_5 : decode cX7_negated 5 = .ok (.iconst 1, 1) := by decide +kernel
theorem dX7_negated_6 : decode cX7_negated 6 = .ok (.iadd, 1) := by decide +kernel
theorem dX7_negated_7 : decode cX7_negated 7 = .ok (.putfield 50, 3) := by decide +kernel
theorem dX7_negated_10 : decode cX7_negated 10 = .ok (.aload_n 0, 1) := by decide +kernel
theorem dX7_negated_11 : decode cX7_negated 11 = .ok (.iload_n 1, 1) := by decide +kernel
theorem dX7_negated_12 : decode cX7_negated 12 = .ok (.iconst 1, 1) := by decide +kernel
theorem dX7_negated_13 : decode cX7_negated 13 = .ok (.iadd, 1) := by decide +kernel
theorem dX7_negated_14 : decode cX7_negated 14 = .ok (.invokevirtual 115, 3) := by decide +kernel
theorem dX7_negated_17 : decode cX7_negated 17 = .ok (.ifCond .ne 5, 3) := by decide +kernel
theorem dX7_negated_20 : decode cX7_negated 20 = .ok (.iconst 0, 1) := by decide +kernel
theorem dX7_negated_21 : decode cX7_negated 21 = .ok (.ireturn, 1) := by decide +kernel
theorem dX7_negated_22 : decode cX7_negated 22 = .ok (.aload_n 0, 1) := by decide +kernel
theorem dX7_negated_23 : decode cX7_negated 23 = .ok (.iconst 4, 1) := by decide +kernel
theorem dX7_negated_24 : decode cX7_negated 24 = .ok (.iconst 0, 1) := by decide +kernel
theorem dX7_negated_25 : decode cX7_negated 25 = .ok (.iconst 0, 1) := by decide +kernel
theorem dX7_negated_26 : decode cX7_negated 26 = .ok (.invokevirtual 112, 3) := by decide +kernel
theorem dX7_negated_29 : decode cX7_negated 29 = .ok (.iconst 1, 1) := by decide +kernel
theorem dX7_negated_30 : decode cX7_negated 30 = .ok (.ireturn, 1) := by decide +kernel
theorem dX7_single_0 : decode cX7_single 0 = .ok (.aload_n 0, 1) := by decide +kernel
theorem dX7_single_1 : decode cX7_single 1 = .ok (.iconst 0, 1) := by decide +kernel
theorem dX7_single_2 : decode cX7_single 2 = .ok (.iconst 0, 1) := by decide +kernel
theorem dX7_single_3 : decode cX7_single 3 = .ok (.invokevirtual 140, 3) := by decide +kernel
theorem dX7_single_6 : decode cX7_single 6 = .ok (.istore_n 1, 1) := by decide +kernel
theorem dX7_single_7 : decode cX7_single 7 = .ok (.iload_n 1, 1) := by decide +kernel
theorem dX7_single_8 : decode cX7_single 8 = .ok (.iconst (-1), 1) := by decide +kernel
theorem dX7_single_9 : decode cX7_single 9 = .ok (.if_icmp .ne 5, 3) := by decide +kernel
theorem dX7_single_12 : decode cX7_single 12 = .ok (.iconst 0, 1) := by decide +kernel
theorem dX7_single_13 : decode cX7_single 13 = .ok (.ireturn, 1) := by decide +kernel
theorem dX7_single_14 : decode cX7_single 14 = .ok (.aload_n 0, 1) := by decide +kernel
theorem dX7_single_15 : decode cX7_single 15 = .ok (.iconst 1, 1) := by decide +kernel
theorem dX7_single_16 : decode cX7_single 16 = .ok (.iload_n 1, 1) := by decide +kernel
theorem dX7_single_17 : decode cX7_single 17 = .ok (.iload_n 1, 1) := by decide +kernel
theorem dX7_single_18 : decode cX7_single 18 = .ok (.invokevirtual 112, 3) := by decide +kernel
theorem dX7_single_21 : decode cX7_single 21 = .ok (.iconst 1, 1) := by decide +kernel
theorem dX7_single_22 : decode cX7_single 22 = .ok (.ireturn, 1) := by decide +kernel
theorem dX7_span_0 : decode cX7_span 0 = .ok (.aload_n 0, 1) := by decide +kernel
theorem dX7_span_1 : decode cX7_span 1 = .ok (.dup, 1) := by decide +kernel
theorem dX7_span_2 : decode cX7_span 2 = .ok (.getfield 50, 3) := by decide +kernel
theorem dX7_span_5 : decode cX7_span 5 = .ok (.iconst 1, 1) := by decide +kernel
theorem dX7_span_6 : decode cX7_span 6 = .ok (.iadd, 1) := by decide +kernel
theorem dX7_span_7 : decode cX7_span 7 = .ok (.putfield 50, 3) := by decide +kernel
theorem dX7_span_10 : decode cX7_span 10 = .ok (.aload_n 0, 1) := by decide +kernel
theorem dX7_span_11 : decode cX7_span 11 = .ok (.bipush 40, 2) := by decide +kernel
theorem dX7_span_13 : decode cX7_span 13 = .ok (.invokevirtual 137, 3) := by decide +kernel
theorem dX7_span_16 : decode cX7_span 16 = .ok (.ifCond .ne 5, 3) := by decide +kernel
theorem dX7_span_19 : decode cX7_span 19 = .ok (.iconst 0, 1) := by decide +kernel
theorem dX7_span_20 : decode cX7_span 20 = .ok (.ireturn, 1) := by decide +kernel
theorem dX7_span_21 : decode cX7_span 21 = .ok (.aload_n 0, 1) := by decide +kernel
theorem dX7_span_22 : decode cX7_span 22 = .ok (.iconst 0, 1) := by decide +kernel
theorem dX7_span_23 : decode cX7_span 23 = .ok (.iconst 0, 1) := by decide +kernel
theorem dX7_span_24 : decode cX7_span 24 = .ok (.invokevirtual 140, 3) := by decide +kernel
theorem dX7_span_27 : decode cX7_span 27 = .ok (.istore_n 1, 1) := by decide +kernel
theorem dX7_span_28 : decode cX7_span 28 = .ok (.iload_n 1, 1) := by decide +kernel
theorem dX7_span_29 : decode cX7_span 29 = .ok (.iconst (-1), 1) := by decide +kernel
theorem dX7_span_30 : decode cX7_span 30 = .ok (.if_icmp .eq 12, 3) := by decide +kernel
theorem dX7_span_33 : decode cX7_span 33 = .ok (.aload_n 0, 1) := by decide +kernel
theorem dX7_span_34 : decode cX7_span 34 = .ok (.bipush 58, 2) := by decide +kernel
theorem dX7_span_36 : decode cX7_span 36 = .ok (.invokevirtual 137, 3) := by decide +kernel
theorem dX7_span_39 : decode cX7_span 39 = .ok (.ifCond .ne 5, 3) := by decide +kernel
theorem dX7_span_42 : decode cX7_span 42 = .ok (.iconst 0, 1) := by decide +kernel
theorem dX7_span_43 : decode cX7_span 43 = .ok (.ireturn, 1) := by decide +kernel
theorem dX7_span_44 : decode cX7_span 44 = .ok (.aload_n 0, 1) := by decide +kernel
theorem dX7_span_45 : decode cX7_span 45 = .ok (.iload_n 1, 1) := by decide +kernel
theorem dX7_span_46 : decode cX7_span 46 = .ok (.aload_n 0, 1) := by decide +kernel
theorem dX7_span_47 : decode cX7_span 47 = .ok (.getfield 38, 3) := by decide +kernel
theorem dX7_span_50 : decode cX7_span 50 = .ok (.invokestatic 143, 3) := by decide +kernel
theorem dX7_span_53 : decode cX7_span 53 = .ok (.iload_n 1, 1) := by decide +kernel
theorem dX7_span_54 : decode cX7_span 54 = .ok (.aload_n 0, 1) := by decide +kernel
theorem dX7_span_55 : decode cX7_span 55 = .ok (.getfield 38, 3) := by decide +kernel
theorem dX7_span_58 : decode cX7_span 58 = .ok (.invokestatic 146, 3) := by decide +kernel
theorem dX7_span_61 : decode cX7_span 61 = .ok (.invokevirtual 140, 3) := by decide +kernel
theorem dX7_span_64 : decode cX7_span 64 = .ok (.istore_n 2, 1) := by decide +kernel
theorem dX7_span_65 : decode cX7_span 65 = .ok (.iload_n 2, 1) := by decide +kernel
theorem dX7_span_66 : decode cX7_span 66 = .ok (.iconst (-1), 1) := by decide +kernel
theorem dX7_span_67 : decode cX7_span 67 = .ok (.if_icmp .eq 12, 3) := by decide +kernel
theorem dX7_span_70 : decode cX7_span 70 = .ok (.aload_n 0, 1) := by decide +kernel
theorem dX7_span_71 : decode cX7_span 71 = .ok (.bipush 41, 2) := by decide +kernel
theorem dX7_span_73 : decode cX7_span 73 = .ok (.invokevirtual 137, 3) := by decide +kernel
theorem dX7_span_76 : decode cX7_span 76 = .ok (.ifCond .ne 5, 3) := by decide +kernel
theorem dX7_span_79 : decode cX7_span 79 = .ok (.iconst 0, 1) := by decide +kernel
theorem dX7_span_80 : decode cX7_span 80 = .ok (.ireturn, 1) := by decide +kernel
theorem dX7_span_81 : decode cX7_span 81 = .ok (.aload_n 0, 1) := by decide +kernel
theorem dX7_span_82 : decode cX7_span 82 = .ok (.iconst 2, 1) := by decide +kernel
theorem dX7_span_83 : decode cX7_span 83 = .ok (.iload_n 1, 1) := by decide +kernel
theorem dX7_span_84 : decode cX7_span 84 = .ok (.iload_n 2, 1) := by decide +kernel
theorem dX7_span_85 : decode cX7_span 85 = .ok (.invokevirtual 112, 3) := by decide +kernel
theorem dX7_span_88 : decode cX7_span 88 = .ok (.iconst 1, 1) := by decide +kernel
theorem dX7_span_89 : decode cX7_span 89 = .ok (.ireturn, 1) := by decide +kernel
theorem dX7_take_0 : decode cX7_take 0 = .ok (.aload_n 0, 1) := by decide +kernel
theorem dX7_take_1 : decode cX7_take 1 = .ok (.invokevirtual 57, 3) := by decide +kernel
theorem dX7_take_4 : decode cX7_take 4 = .ok (.iload_n 1, 1) := by decide +kernel
theorem dX7_take_5 : decode cX7_take 5 = .ok (.if_icmp .eq 9, 3) := by decide +kernel
theorem dX7_take_8 : decode cX7_take 8 = .ok (.aload_n 0, 1) := by decide +kernel
theorem dX7_take_9 : decode cX7_take 9 = .ok (.iconst 1, 1) := by decide +kernel
theorem dX7_take_10 : decode cX7_take 10 = .ok (.invokevirtual 61, 3) := by decide +kernel
theorem dX7_take_13 : decode cX7_take 13 = .ok (.ireturn, 1) := by decide +kernel
theorem dX7_take_14 : decode cX7_take 14 = .ok (.aload_n 0, 1) := by decide +kernel
theorem dX7_take_15 : decode cX7_take 15 = .ok (.dup, 1) := by decide +kernel
theorem dX7_take_16 : decode cX7_take 16 = .ok (.getfield 50, 3) := by decide +kernel
theorem dX7_take_19 : decode cX7_take 19 = .ok (.iconst 1, 1) := by decide +kernel
theorem dX7_take_20 : decode cX7_take 20 = .ok (.iadd, 1) := by decide +kernel
theorem dX7_take_21 : decode cX7_take 21 = .ok (.putfield 50, 3) := by decide +kernel
theorem dX7_take_24 : decode cX7_take 24 = .ok (.iconst 1, 1) := by decide +kernel
theorem dX7_take_25 : decode cX7_take 25 = .ok (.ireturn, 1) := by decide +kernel
theorem dX7_reference_0 : decode cX7_reference 0 = .ok (.aload_n 0, 1) := by decide +kernel
theorem dX7_reference_1 : decode cX7_reference 1 = .ok (.invokevirtual 57, 3) := by decide +kernel
theorem dX7_reference_4 : decode cX7_reference 4 = .ok (.bipush 36, 2) := by decide +kernel
theorem dX7_reference_6 : decode cX7_reference 6 = .ok (.if_icmp .ne 7, 3) := by decide +kernel
theorem dX7_reference_9 : decode cX7_reference 9 = .ok (.iconst 1, 1) := by decide +kernel
theorem dX7_reference_10 : decode cX7_reference 10 = .ok (.goto 4, 3) := by decide +kernel
theorem dX7_reference_13 : decode cX7_reference 13 = .ok (.iconst 0, 1) := by decide +kernel
theorem dX7_reference_14 : decode cX7_reference 14 = .ok (.istore_n 3, 1) := by decide +kernel
theorem dX7_reference_15 : decode cX7_reference 15 = .ok (.aload_n 0, 1) := by decide +kernel
theorem dX7_reference_16 : decode cX7_reference 16 = .ok (.dup, 1) := by decide +kernel
theorem dX7_reference_17 : decode cX7_reference 17 = .ok (.getfield 50, 3) := by decide +kernel
theorem dX7_reference_20 : decode cX7_reference 20 = .ok (.iload_n 3, 1) := by decide +kernel
theorem dX7_reference_21 : decode cX7_reference 21 = .ok (.ifCond .eq 7, 3) := by decide +kernel
theorem dX7_reference_24 : decode cX7_reference 24 = .ok (.iconst 1, 1) := by decide +kernel
theorem dX7_reference_25 : decode cX7_reference 25 = .ok (.goto 4, 3) := by decide +kernel
theorem dX7_reference_28 : decode cX7_reference 28 = .ok (.iconst 0, 1) := by decide +kernel
theorem dX7_reference_29 : decode cX7_reference 29 = .ok (.iadd, 1) := by decide +kernel
theorem dX7_reference_30 : decode cX7_reference 30 = .ok (.putfield 50, 3) := by decide +kernel
theorem dX7_reference_33 : decode cX7_reference 33 = .ok (.aload_n 0, 1) := by decide +kernel
theorem dX7_reference_34 : decode cX7_reference 34 = .ok (.invokevirtual 128, 3) := by decide +kernel
theorem dX7_reference_37 : decode cX7_reference 37 = .ok (.istore 4, 2) := by decide +kernel
theorem dX7_reference_39 : decode cX7_reference 39 = .ok (.aload_n 0, 1) := by decide +kernel
theorem dX7_reference_40 : decode cX7_reference 40 = .ok (.invokevirtual 57, 3) := by decide +kernel
theorem dX7_reference_43 : decode cX7_reference 43 = .ok (.iload 4, 2) := by decide +kernel
theorem dX7_reference_45 : decode cX7_reference 45 = .ok (.iload_n 1, 1) := by decide +kernel
theorem dX7_reference_46 : decode cX7_reference 46 = .ok (.invokestatic 149, 3) := by decide +kernel
theorem dX7_reference_49 : decode cX7_reference 49 = .ok (.istore 5, 2) := by decide +kernel
theorem dX7_reference_51 : decode cX7_reference 51 = .ok (.iload 5, 2) := by decide +kernel
theorem dX7_reference_53 : decode cX7_reference 53 = .ok (.ifCond .eq 12, 3) := by decide +kernel
theorem dX7_reference_56 : decode cX7_reference 56 = .ok (.aload_n 0, 1) := by decide +kernel
theorem dX7_reference_57 : decode cX7_reference 57 = .ok (.iload 5, 2) := by decide +kernel
theorem dX7_reference_59 : decode cX7_reference 59 = .ok (.invokevirtual 61, 3) := by decide +kernel
theorem dX7_reference_62 : decode cX7_reference 62 = .ok (.pop, 1) := by decide +kernel
theorem dX7_reference_63 : decode cX7_reference 63 = .ok (.iconst (-1), 1) := by decide +kernel
theorem dX7_reference_64 : decode cX7_reference 64 = .ok (.ireturn, 1) := by decide +kernel
theorem dX7_reference_65 : decode cX7_reference 65 = .ok (.aload_n 0, 1) := by decide +kernel
theorem dX7_reference_66 : decode cX7_reference 66 = .ok (.dup, 1) := by decide +kernel
theorem dX7_reference_67 : decode cX7_reference 67 = .ok (.getfield 50, 3) := by decide +kernel
theorem dX7_reference_70 : decode cX7_reference 70 = .ok (.iconst 1, 1) := by decide +kernel
theorem dX7_reference_71 : decode cX7_reference 71 = .ok (.iadd, 1) := by decide +kernel
theorem dX7_reference_72 : decode cX7_reference 72 = .ok (.putfield 50, 3) := by decide +kernel
theorem dX7_reference_75 : decode cX7_reference 75 = .ok (.aload_n 0, 1) := by decide +kernel
theorem dX7_reference_76 : decode cX7_reference 76 = .ok (.invokevirtual 57, 3) := by decide +kernel
theorem dX7_reference_79 : decode cX7_reference 79 = .ok (.bipush 36, 2) := by decide +kernel
theorem dX7_reference_81 : decode cX7_reference 81 = .ok (.if_icmp .ne 7, 3) := by decide +kernel
theorem dX7_reference_84 : decode cX7_reference 84 = .ok (.iconst 1, 1) := by decide +kernel
theorem dX7_reference_85 : decode cX7_reference 85 = .ok (.goto 4, 3) := by decide +kernel
theorem dX7_reference_88 : decode cX7_reference 88 = .ok (.iconst 0, 1) := by decide +kernel
theorem dX7_reference_89 : decode cX7_reference 89 = .ok (.istore 6, 2) := by decide +kernel
theorem dX7_reference_91 : decode cX7_reference 91 = .ok (.aload_n 0, 1) := by decide +kernel
theorem dX7_reference_92 : decode cX7_reference 92 = .ok (.dup, 1) := by decide +kernel
theorem dX7_reference_93 : decode cX7_reference 93 = .ok (.getfield 50, 3) := by decide +kernel
theorem dX7_reference_96 : decode cX7_reference 96 = .ok (.iload 6, 2) := by decide +kernel
theorem dX7_reference_98 : decode cX7_reference 98 = .ok (.ifCond .eq 7, 3) := by decide +kernel
theorem dX7_reference_101 : decode cX7_reference 101 = .ok (.iconst 1, 1) := by decide +kernel
theorem dX7_reference_102 : decode cX7_reference 102 = .ok (.goto 4, 3) := by decide +kernel
theorem dX7_reference_105 : decode cX7_reference 105 = .ok (.iconst 0, 1) := by decide +kernel
theorem dX7_reference_106 : decode cX7_reference 106 = .ok (.iadd, 1) := by decide +kernel
theorem dX7_reference_107 : decode cX7_reference 107 = .ok (.putfield 50, 3) := by decide +kernel
theorem dX7_reference_110 : decode cX7_reference 110 = .ok (.aload_n 0, 1) := by decide +kernel
theorem dX7_reference_111 : decode cX7_reference 111 = .ok (.invokevirtual 128, 3) := by decide +kernel
theorem dX7_reference_114 : decode cX7_reference 114 = .ok (.iconst 1, 1) := by decide +kernel
theorem dX7_reference_115 : decode cX7_reference 115 = .ok (.isub, 1) := by decide +kernel
theorem dX7_reference_116 : decode cX7_reference 116 = .ok (.istore 7, 2) := by decide +kernel
theorem dX7_reference_118 : decode cX7_reference 118 = .ok (.aload_n 0, 1) := by decide +kernel
theorem dX7_reference_119 : decode cX7_reference 119 = .ok (.invokevirtual 57, 3) := by decide +kernel
theorem dX7_reference_122 : decode cX7_reference 122 = .ok (.iload 7, 2) := by decide +kernel
theorem dX7_reference_124 : decode cX7_reference 124 = .ok (.iload_n 2, 1) := by decide +kernel
theorem dX7_reference_125 : decode cX7_reference 125 = .ok (.invokestatic 153, 3) := by decide +kernel
theorem dX7_reference_128 : decode cX7_reference 128 = .ok (.istore 8, 2) := by decide +kernel
theorem dX7_reference_130 : decode cX7_reference 130 = .ok (.iload 8, 2) := by decide +kernel
theorem dX7_reference_132 : decode cX7_reference 132 = .ok (.ifCond .eq 12, 3) := by decide +kernel
theorem dX7_reference_135 : decode cX7_reference 135 = .ok (.aload_n 0, 1) := by decide +kernel
theorem dX7_reference_136 : decode cX7_reference 136 = .ok (.iload 8, 2) := by decide +kernel
theorem dX7_reference_138 : decode cX7_reference 138 = .ok (.invokevirtual 61, 3) := by decide +kernel
theorem dX7_reference_141 : decode cX7_reference 141 = .ok (.pop, 1) := by decide +kernel
theorem dX7_reference_142 : decode cX7_reference 142 = .ok (.iconst (-1), 1) := by decide +kernel
theorem dX7_reference_143 : decode cX7_reference 143 = .ok (.ireturn, 1) := by decide +kernel
theorem dX7_reference_144 : decode cX7_reference 144 = .ok (.aload_n 0, 1) := by decide +kernel
theorem dX7_reference_145 : decode cX7_reference 145 = .ok (.dup, 1) := by decide +kernel
theorem dX7_reference_146 : decode cX7_reference 146 = .ok (.getfield 50, 3) := by decide +kernel
theorem dX7_reference_149 : decode cX7_reference 149 = .ok (.iconst 1, 1) := by decide +kernel
theorem dX7_reference_150 : decode cX7_reference 150 = .ok (.iadd, 1) := by decide +kernel
theorem dX7_reference_151 : decode cX7_reference 151 = .ok (.putfield 50, 3) := by decide +kernel
theorem dX7_reference_154 : decode cX7_reference 154 = .ok (.iload 7, 2) := by decide +kernel
theorem dX7_reference_156 : decode cX7_reference 156 = .ok (.bipush 12, 2) := by decide +kernel
theorem dX7_reference_158 : decode cX7_reference 158 = .ok (.imul, 1) := by decide +kernel
theorem dX7_reference_159 : decode cX7_reference 159 = .ok (.iload 4, 2) := by decide +kernel
theorem dX7_reference_161 : decode cX7_reference 161 = .ok (.iadd, 1) := by decide +kernel
theorem dX7_reference_162 : decode cX7_reference 162 = .ok (.iload_n 3, 1) := by decide +kernel
theorem dX7_reference_163 : decode cX7_reference 163 = .ok (.iload 6, 2) := by decide +kernel
theorem dX7_reference_165 : decode cX7_reference 165 = .ok (.aload_n 0, 1) := by decide +kernel
theorem dX7_reference_166 : decode cX7_reference 166 = .ok (.getfield 38, 3) := by decide +kernel
theorem dX7_reference_169 : decode cX7_reference 169 = .ok (.invokestatic 156, 3) := by decide +kernel
theorem dX7_reference_172 : decode cX7_reference 172 = .ok (.ireturn, 1) := by decide +kernel
theorem dX7_columnFault_0 : decode cX7_columnFault 0 = .ok (.iload_n 0, 1) := by decide +kernel
theorem dX7_columnFault_1 : decode cX7_columnFault 1 = .ok (.bipush 119, 2) := by decide +kernel
theorem dX7_columnFault_3 : decode cX7_columnFault 3 = .ok (.if_icmp .ne 9, 3) := by decide +kernel
theorem dX7_columnFault_6 : decode cX7_columnFault 6 = .ok (.iload_n 1, 1) := by decide +kernel
theorem dX7_columnFault_7 : decode cX7_columnFault 7 = .ok (.bipush 12, 2) := by decide +kernel
theorem dX7_columnFault_9 : decode cX7_columnFault 9 = .ok (.if_icmp .lt 5, 3) := by decide +kernel
theorem dX7_columnFault_12 : decode cX7_columnFault 12 = .ok (.iconst 1, 1) := by decide +kernel
theorem dX7_columnFault_13 : decode cX7_columnFault 13 = .ok (.ireturn, 1) := by decide +kernel
theorem dX7_columnFault_14 : decode cX7_columnFault 14 = .ok (.iload_n 1, 1) := by decide +kernel
theorem dX7_columnFault_15 : decode cX7_columnFault 15 = .ok (.iload_n 2, 1) := by decide +kernel
theorem dX7_columnFault_16 : decode cX7_columnFault 16 = .ok (.if_icmp .ge 8, 3) := by decide +kernel
theorem dX7_columnFault_19 : decode cX7_columnFault 19 = .ok (.bipush 6, 2) := by decide +kernel
theorem dX7_columnFault_21 : decode cX7_columnFault 21 = .ok (.goto 4, 3) := by decide +kernel
theorem dX7_columnFault_24 : decode cX7_columnFault 24 = .ok (.iconst 0, 1) := by decide +kernel
theorem dX7_columnFault_25 : decode cX7_columnFault 25 = .ok (.ireturn, 1) := by decide +kernel
theorem dX7_rowFault_0 : decode cX7_rowFault 0 = .ok (.iload_n 0, 1) := by decide +kernel
theorem dX7_rowFault_1 : decode cX7_rowFault 1 = .ok (.bipush 110, 2) := by decide +kernel
theorem dX7_rowFault_3 : decode cX7_rowFault 3 = .ok (.if_icmp .eq 5, 3) := by decide +kernel
theorem dX7_rowFault_6 : decode cX7_rowFault 6 = .ok (.iconst 1, 1) := by decide +kernel
theorem dX7_rowFault_7 : decode cX7_rowFault 7 = .ok (.ireturn, 1) := by decide +kernel
theorem dX7_rowFault_8 : decode cX7_rowFault 8 = .ok (.iload_n 1, 1) := by decide +kernel
theorem dX7_rowFault_9 : decode cX7_rowFault 9 = .ok (.ifCond .lt 9, 3) := by decide +kernel
theorem dX7_rowFault_12 : decode cX7_rowFault 12 = .ok (.iload_n 1, 1) := by decide +kernel
theorem dX7_rowFault_13 : decode cX7_rowFault 13 = .ok (.bipush 24, 2) := by decide +kernel
theorem dX7_rowFault_15 : decode cX7_rowFault 15 = .ok (.if_icmp .lt 5, 3) := by decide +kernel
theorem dX7_rowFault_18 : decode cX7_rowFault 18 = .ok (.iconst 4, 1) := by decide +kernel
theorem dX7_rowFault_19 : decode cX7_rowFault 19 = .ok (.ireturn, 1) := by decide +kernel
theorem dX7_rowFault_20 : decode cX7_rowFault 20 = .ok (.iload_n 1, 1) := by decide +kernel
theorem dX7_rowFault_21 : decode cX7_rowFault 21 = .ok (.iload_n 2, 1) := by decide +kernel
theorem dX7_rowFault_22 : decode cX7_rowFault 22 = .ok (.if_icmp .ge 8, 3) := by decide +kernel
theorem dX7_rowFault_25 : decode cX7_rowFault 25 = .ok (.bipush 7, 2) := by decide +kernel
theorem dX7_rowFault_27 : decode cX7_rowFault 27 = .ok (.goto 4, 3) := by decide +kernel
theorem dX7_rowFault_30 : decode cX7_rowFault 30 = .ok (.iconst 0, 1) := by decide +kernel
theorem dX7_rowFault_31 : decode cX7_rowFault 31 = .ok (.ireturn, 1) := by decide +kernel
theorem dX8_init_0 : decode cX8_init 0 = .ok (.aload_n 0, 1) := by decide +kernel
theorem dX8_init_1 : decode cX8_init 1 = .ok (.invokespecial 3, 3) := by decide +kernel
theorem dX8_init_4 : decode cX8_init 4 = .ok (.aload_n 0, 1) := by decide +kernel
theorem dX8_init_5 : decode cX8_init 5 = .ok (.aload_n 1, 1) := by decide +kernel
theorem dX8_init_6 : decode cX8_init 6 = .ok (.putfield 9, 3) := by decide +kernel
theorem dX8_init_9 : decode cX8_init 9 = .ok (.aload_n 0, 1) := by decide +kernel
theorem dX8_init_10 : decode cX8_init 10 = .ok (.aload_n 2, 1) := by decide +kernel
theorem dX8_init_11 : decode cX8_init 11 = .ok (.putfield 15, 3) := by decide +kernel
theorem dX8_init_14 : decode cX8_init 14 = .ok (.aload_n 0, 1) := by decide +kernel
theorem dX8_init_15 : decode cX8_init 15 = .ok (.sipush 288, 3) := by decide +kernel
theorem dX8_init_18 : decode cX8_init 18 = .ok (.newarray .boolean, 2) := by decide +kernel
theorem dX8_init_20 : decode cX8_init 20 = .ok (.putfield 19, 3) := by decide +kernel
theorem dX8_init_23 : decode cX8_init 23 = .ok (.aload_n 0, 1) := by decide +kernel
theorem dX8_init_24 : decode cX8_init 24 = .ok (.sipush 288, 3) := by decide +kernel
theorem dX8_init_27 : decode cX8_init 27 = .ok (.newarray .int, 2) := by decide +kernel
theorem dX8_init_29 : decode cX8_init 29 = .ok (.putfield 23, 3) := by decide +kernel
theorem dX8_init_32 : decode cX8_init 32 = .ok (.aload_n 0, 1) := by decide +kernel
theorem dX8_init_33 : decode cX8_init 33 = .ok (.sipush 288, 3) := by decide +kernel
theorem dX8_init_36 : decode cX8_init 36 = .ok (.newarray .int, 2) := by decide +kernel
theorem dX8_init_38 : decode cX8_init 38 = .ok (.putfield 27, 3) := by decide +kernel
theorem dX8_init_41 : decode cX8_init 41 = .ok (.aload_n 0, 1) := by decide +kernel
theorem dX8_init_42 : decode cX8_init 42 = .ok (.sipush 1440, 3) := by decide +kernel
theorem dX8_init_45 : decode cX8_init 45 = .ok (.newarray .long, 2) := by decide +kernel
theorem dX8_init_47 : decode cX8_init 47 = .ok (.putfield 30, 3) := by decide +kernel
theorem dX8_init_50 : decode cX8_init 50 = .ok (.aload_n 0, 1) := by decide +kernel
theorem dX8_init_51 : decode cX8_init 51 = .ok (.sipush 1440, 3) := by decide +kernel
theorem dX8_init_54 : decode cX8_init 54 = .ok (.newarray .long, 2) := by decide +kernel
theorem dX8_init_56 : decode cX8_init 56 = .ok (.putfield 34, 3) := by decide +kernel
theorem dX8_init_59 : decode cX8_init 59 = .ok (.aload_n 0, 1) := by decide +kernel
theorem dX8_init_60 : decode cX8_init 60 = .ok (.iconst (-1), 1) := by decide +kernel
theorem dX8_init_61 : decode cX8_init 61 = .ok (.putfield 37, 3) := by decide +kernel
theorem dX8_init_64 : decode cX8_init 64 = .ok (.return_, 1) := by decide +kernel
theorem dX8_settle_0 : decode cX8_settle 0 = .ok (.aload_n 0, 1) := by decide +kernel
theorem dX8_settle_1 : decode cX8_settle 1 = .ok (.getfield 37, 3) := by decide +kernel
theorem dX8_settle_4 : decode cX8_settle 4 = .ok (.aload_n 0, 1) := by decide +kernel
theorem dX8_settle_5 : decode cX8_settle 5 = .ok (.getfield 9, 3) := by decide +kernel
theorem dX8_settle_8 : decode cX8_settle 8 = .ok (.getfield 41, 3) := by decide +kernel
theorem dX8_settle_11 : decode cX8_settle 11 = .ok (.if_icmp .ne 4, 3) := by decide +kernel
theorem dX8_settle_14 : decode cX8_settle 14 = .ok (.return_, 1) := by decide +kernel
theorem dX8_settle_15 : decode cX8_settle 15 = .ok (.aload_n 0, 1) := by decide +kernel
theorem dX8_settle_16 : decode cX8_settle 16 = .ok (.aload_n 0, 1) := by decide +kernel
theorem dX8_settle_17 : decode cX8_settle 17 = .ok (.getfield 9, 3) := by decide +kernel
theorem dX8_settle_20 : decode cX8_settle 20 = .ok (.getfield 41, 3) := by decide +kernel
theorem dX8_settle_23 : decode cX8_settle 23 = .ok (.putfield 37, 3) := by decide +kernel
theorem dX8_settle_26 : decode cX8_settle 26 = .ok (.aload_n 0, 1) := by decide +kernel
theorem dX8_settle_27 : decode cX8_settle 27 = .ok (.getfield 15, 3) := by decide +kernel
theorem dX8_settle_30 : decode cX8_settle 30 = .ok (.invokevirtual 44, 3) := by decide +kernel
theorem dX8_settle_33 : decode cX8_settle 33 = .ok (.iconst 0, 1) := by decide +kernel
theorem dX8_settle_34 : decode cX8_settle 34 = .ok (.istore_n 1, 1) := by decide +kernel
theorem dX8_settle_35 : decode cX8_settle 35 = .ok (.iload_n 1, 1) := by decide +kernel
theorem dX8_settle_36 : decode cX8_settle 36 = .ok (.sipush 288, 3) := by decide +kernel
theorem dX8_settle_39 : decode cX8_settle 39 = .ok (.if_icmp .ge 51, 3) := by decide +kernel
theorem dX8_settle_42 : decode cX8_settle 42 = .ok (.aload_n 0, 1) := by decide +kernel
theorem dX8_settle_43 : decode cX8_settle 43 = .ok (.getfield 9, 3) := by decide +kernel
theorem dX8_settle_46 : decode cX8_settle 46 = .ok (.iload_n 1, 1) := by decide +kernel
theorem dX8_settle_47 : decode cX8_settle 47 = .ok (.invokevirtual 49, 3) := by decide +kernel
theorem dX8_settle_50 : decode cX8_settle 50 = .ok (.astore_n 2, 1) := by decide +kernel
theorem dX8_settle_51 : decode cX8_settle 51 = .ok (.aload_n 0, 1) := by decide +kernel
theorem dX8_settle_52 : decode cX8_settle 52 = .ok (.getfield 19, 3) := by decide +kernel
theorem dX8_settle_55 : decode cX8_settle 55 = .ok (.iload_n 1, 1) := by decide +kernel
theorem dX8_settle_56 : decode cX8_settle 56 = .ok (.aload_n 2, 1) := by decide +kernel
theorem dX8_settle_57 : decode cX8_settle 57 = .ok (.ifnull 25, 3) := by decide +kernel
theorem dX8_settle_60 : decode cX8_settle 60 = .ok (.aload_n 2, 1) := by decide +kernel
theorem dX8_settle_61 : decode cX8_settle 61 = .ok (.invokevirtual 53, 3) := by decide +kernel
theorem dX8_settle_64 : decode cX8_settle 64 = .ok (.ifCond .eq 18, 3) := by decide +kernel
theorem dX8_settle_67 : decode cX8_settle 67 = .ok (.aload_n 0, 1) := by decide +kernel
theorem dX8_settle_68 : decode cX8_settle 68 = .ok (.getfield 15, 3) := by decide +kernel
theorem dX8_settle_71 : decode cX8_settle 71 = .ok (.iload_n 1, 1) := by decide +kernel
theorem dX8_settle_72 : decode cX8_settle 72 = .ok (.invokevirtual 59, 3) := by decide +kernel
theorem dX8_settle_75 : decode cX8_settle 75 = .ok (.ifCond .ne 7, 3) := by decide +kernel
theorem dX8_settle_78 : decode cX8_settle 78 = .ok (.iconst 1, 1) := by decide +kernel
theorem dX8_settle_79 : decode cX8_settle 79 = .ok (.goto 4, 3) := by decide +kernel
theorem dX8_settle_82 : decode cX8_settle 82 = .ok (.iconst 0, 1) := by decide +kernel
theorem dX8_settle_83 : decode cX8_settle 83 = .ok (.bastore, 1) := by decide +kernel
theorem dX8_settle_84 : decode cX8_settle 84 = .ok (.iinc 1 1, 3) := by decide +kernel
theorem dX8_settle_87 : decode cX8_settle 87 = .ok (.goto (-52), 3) := by decide +kernel
theorem dX8_settle_90 : decode cX8_settle 90 = .ok (.return_, 1) := by decide +kernel
theorem dX8_isTotal_0 : decode cX8_isTotal 0 = .ok (.iload_n 1, 1) := by decide +kernel
theorem dX8_isTotal_1 : decode cX8_isTotal 1 = .ok (.invokestatic 63, 3) := by decide +kernel
theorem dX8_isTotal_4 : decode cX8_isTotal 4 = .ok (.ifCond .eq 16, 3) := by decide +kernel
theorem dX8_isTotal_7 : decode cX8_isTotal 7 = .ok (.aload_n 0, 1) := by decide +kernel
theorem dX8_isTotal_8 : decode cX8_isTotal 8 = .ok (.getfield 19, 3) := by decide +kernel
theorem dX8_isTotal_11 : decode cX8_isTotal 11 = .ok (.iload_n 1, 1) := by decide +kernel
theorem dX8_isTotal_12 : decode cX8_isTotal 12 = .ok (.baload, 1) := by decide +kernel
theorem dX8_isTotal_13 : decode cX8_isTotal 13 = .ok (.ifCond .eq 7, 3) := by decide +kernel
theorem dX8_isTotal_16 : decode cX8_isTotal 16 = .ok (.iconst 1, 1) := by decide +kernel
theorem dX8_isTotal_17 : decode cX8_isTotal 17 = .ok (.goto 4, 3) := by decide +kernel
theorem dX8_isTotal_20 : decode cX8_isTotal 20 = .ok (.iconst 0, 1) := by decide +kernel
theorem dX8_isTotal_21 : decode cX8_isTotal 21 = .ok (.ireturn, 1) := by decide +kernel
theorem dX8_waysInto_0 : decode cX8_waysInto 0 = .ok (.aload_n 0, 1) := by decide +kernel
theorem dX8_waysInto_1 : decode cX8_waysInto 1 = .ok (.iload_n 1, 1) := by decide +kernel
theorem dX8_waysInto_2 : decode cX8_waysInto 2 = .ok (.invokevirtual 66, 3) := by decide +kernel
theorem dX8_waysInto_5 : decode cX8_waysInto 5 = .ok (.ifCond .ne 21, 3) := by decide +kernel
theorem dX8_waysInto_8 : decode cX8_waysInto 8 = .ok (.aload_n 0, 1) := by decide +kernel
theorem dX8_waysInto_9 : decode cX8_waysInto 9 = .ok (.getfield 9, 3) := by decide +kernel
theorem dX8_waysInto_12 : decode cX8_waysInto 12 = .ok (.iload_n 1, 1) := by decide +kernel
theorem dX8_waysInto_13 : decode cX8_waysInto 13 = .ok (.invokevirtual 69, 3) := by decide +kernel
theorem dX8_waysInto_16 : decode cX8_waysInto 16 = .ok (.ifCond .eq 10, 3) := by decide +kernel
theorem dX8_waysInto_19 : decode cX8_waysInto 19 = .ok (.iload_n 2, 1) := by decide +kernel
theorem dX8_waysInto_20 : decode cX8_waysInto 20 = .ok (.invokestatic 63, 3) := by decide +kernel
theorem dX8_waysInto_23 : decode cX8_waysInto 23 = .ok (.ifCond .ne 5, 3) := by decide +kernel
theorem dX8_waysInto_26 : decode cX8_waysInto 26 = .ok (.iconst 0, 1) := by decide +kernel
theorem dX8_waysInto_27 : decode cX8_waysInto 27 = .ok (.ireturn, 1) := by decide +kernel
theorem dX8_waysInto_28 : decode cX8_waysInto 28 = .ok (.iconst 0, 1) := by decide +kernel
theorem dX8_waysInto_29 : decode cX8_waysInto 29 = .ok (.istore_n 3, 1) := by decide +kernel
theorem dX8_waysInto_30 : decode cX8_waysInto 30 = .ok (.iload_n 3, 1) := by decide +kernel
theorem dX8_waysInto_31 : decode cX8_waysInto 31 = .ok (.aload_n 0, 1) := by decide +kernel
theorem dX8_waysInto_32 : decode cX8_waysInto 32 = .ok (.getfield 15, 3) := by decide +kernel
theorem dX8_waysInto_35 : decode cX8_waysInto 35 = .ok (.invokevirtual 73, 3) := by decide +kernel
theorem dX8_waysInto_38 : decode cX8_waysInto 38 = .ok (.if_icmp .ge 60, 3) := by decide +kernel
theorem dX8_waysInto_41 : decode cX8_waysInto 41 = .ok (.aload_n 0, 1) := by decide +kernel
theorem dX8_waysInto_42 : decode cX8_waysInto 42 = .ok (.getfield 15, 3) := by decide +kernel
theorem dX8_waysInto_45 : decode cX8_waysInto 45 = .ok (.iload_n 3, 1) := by decide +kernel
theorem dX8_waysInto_46 : decode cX8_waysInto 46 = .ok (.invokevirtual 77, 3) := by decide +kernel
theorem dX8_waysInto_49 : decode cX8_waysInto 49 = .ok (.istore 4, 2) := by decide +kernel
theorem dX8_waysInto_51 : decode cX8_waysInto 51 = .ok (.aload_n 0, 1) := by decide +kernel
theorem dX8_waysInto_52 : decode cX8_waysInto 52 = .ok (.getfield 9, 3) := by decide +kernel
theorem dX8_waysInto_55 : decode cX8_waysInto 55 = .ok (.iload 4, 2) := by decide +kernel
theorem dX8_waysInto_57 : decode cX8_waysInto 57 = .ok (.invokevirtual 49, 3) := by decide +kernel
theorem dX8_waysInto_60 : decode cX8_waysInto 60 = .ok (.astore 5, 2) := by decide +kernel
theorem dX8_waysInto_62 : decode cX8_waysInto 62 = .ok (.aload_n 0, 1) := by decide +kernel
theorem dX8_waysInto_63 : decode cX8_waysInto 63 = .ok (.iload 4, 2) := by decide +kernel
theorem dX8_waysInto_65 : decode cX8_waysInto 65 = .ok (.invokevirtual 66, 3) := by decide +kernel
theorem dX8_waysInto_68 : decode cX8_waysInto 68 = .ok (.ifCond .eq 24, 3) := by decide +kernel
theorem dX8_waysInto_71 : decode cX8_waysInto 71 = .ok (.aload 5, 2) := by decide +kernel
theorem dX8_waysInto_73 : decode cX8_waysInto 73 = .ok (.ifnull 19, 3) := by decide +kernel
theorem dX8_waysInto_76 : decode cX8_waysInto 76 = .ok (.aload_n 0, 1) := by decide +kernel
theorem dX8_waysInto_77 : decode cX8_waysInto 77 = .ok (.getfield 23, 3) := by decide +kernel
theorem dX8_waysInto_80 : decode cX8_waysInto 80 = .ok (.iload 4, 2) := by decide +kernel
theorem dX8_waysInto_82 : decode cX8_waysInto 82 = .ok (.aload_n 0, 1) := by decide +kernel
theorem dX8_waysInto_83 : decode cX8_waysInto 83 = .ok (.iload_n 1, 1) := by decide +kernel
theorem dX8_waysInto_84 : decode cX8_waysInto 84 = .ok (.iload 4, 2) := by decide +kernel
theorem dX8_waysInto_86 : decode cX8_waysInto 86 = .ok (.aload 5, 2) := by decide +kernel
theorem dX8_waysInto_88 : decode cX8_waysInto 88 = .ok (.invokevirtual 80, 3) := by decide +kernel
theorem dX8_waysInto_91 : decode cX8_waysInto 91 = .ok (.iastore, 1) := by decide +kernel
theorem dX8_waysInto_92 : decode cX8_waysInto 92 = .ok (.iinc 3 1, 3) := by decide +kernel
theorem dX8_waysInto_95 : decode cX8_waysInto 95 = .ok (.goto (-65), 3) := by decide +kernel
theorem dX8_waysInto_98 : decode cX8_waysInto 98 = .ok (.aload_n 0, 1) := by decide +kernel
theorem dX8_waysInto_99 : decode cX8_waysInto 99 = .ok (.getfield 23, 3) := by decide +kernel
theorem dX8_waysInto_102 : decode cX8_waysInto 102 = .ok (.iload_n 2, 1) := by decide +kernel
theorem dX8_waysInto_103 : decode cX8_waysInto 103 = .ok (.iaload, 1) := by decide +kernel
theorem dX8_waysInto_104 : decode cX8_waysInto 104 = .ok (.ireturn, 1) := by decide +kernel
theorem dX8_waysThrough_0 : decode cX8_waysThrough 0 = .ok (.iconst 0, 1) := by decide +kernel
theorem dX8_waysThrough_1 : decode cX8_waysThrough 1 = .ok (.istore 4, 2) := by decide +kernel
theorem dX8_waysThrough_3 : decode cX8_waysThrough 3 = .ok (.iconst 0, 1) := by decide +kernel
theorem dX8_waysThrough_4 : decode cX8_waysThrough 4 = .ok (.istore 5, 2) := by decide +kernel
theorem dX8_waysThrough_6 : decode cX8_waysThrough 6 = .ok (.iload 5, 2) := by decide +kernel
theorem dX8_waysThrough_8 : decode cX8_waysThrough 8 = .ok (.aload_n 3, 1) := by decide +kernel
theorem dX8_waysThrough_9 : decode cX8_waysThrough 9 = .ok (.invokevirtual 84, 3) := by decide +kernel
theorem dX8_waysThrough_12 : decode cX8_waysThrough 12 = .ok (.if_icmp .ge 81, 3) := by decide +kernel
theorem dX8_waysThrough_15 : decode cX8_waysThrough 15 = .ok (.aload_n 3, 1) := by decide +kernel
theorem dX8_waysThrough_16 : decode cX8_waysThrough 16 = .ok (.iload 5, 2) := by decide +kernel
theorem dX8_waysThrough_18 : decode cX8_waysThrough 18 = .ok (.invokevirtual 87, 3) := by decide +kernel
theorem dX8_waysThrough_21 : decode cX8_waysThrough 21 = .ok (.ifCond .eq 17, 3) := by decide +kernel
theorem dX8_waysThrough_24 : decode cX8_waysThrough 24 = .ok (.aload_n 3, 1) := by decide +kernel
theorem dX8_waysThrough_25 : decode cX8_waysThrough 25 = .ok (.iload 5, 2) := by decide +kernel
theorem dX8_waysThrough_27 : decode cX8_waysThrough 27 = .ok (.iload_n 2, 1) := by decide +kernel
theorem dX8_waysThrough_28 : decode cX8_waysThrough 28 = .ok (.aload_n 0, 1) := by decide +kernel
theorem dX8_waysThrough_29 : decode cX8_waysThrough 29 = .ok (.getfield 27, 3) := by decide +kernel
theorem dX8_waysThrough_32 : decode cX8_waysThrough 32 = .ok (.invokevirtual 90, 3) := by decide +kernel
theorem dX8_waysThrough_35 : decode cX8_waysThrough 35 = .ok (.goto 4, 3) := by decide +kernel
theorem dX8_waysThrough_38 : decode cX8_waysThrough 38 = .ok (.iconst 0, 1) := by decide +kernel
theorem dX8_waysThrough_39 : decode cX8_waysThrough 39 = .ok (.istore 6, 2) := by decide +kernel
theorem dX8_waysThrough_41 : decode cX8_waysThrough 41 = .ok (.iconst 0, 1) := by decide +kernel
theorem dX8_waysThrough_42 : decode cX8_waysThrough 42 = .ok (.istore 7, 2) := by decide +kernel
theorem dX8_waysThrough_44 : decode cX8_waysThrough 44 = .ok (.iload 7, 2) := by decide +kernel
theorem dX8_waysThrough_46 : decode cX8_waysThrough 46 = .ok (.iload 6, 2) := by decide +kernel
theorem dX8_waysThrough_48 : decode cX8_waysThrough 48 = .ok (.if_icmp .ge 39, 3) := by decide +kernel
theorem dX8_waysThrough_51 : decode cX8_waysThrough 51 = .ok (.iload 7, 2) := by decide +kernel
theorem dX8_waysThrough_53 : decode cX8_waysThrough 53 = .ok (.sipush 288, 3) := by decide +kernel
theorem dX8_waysThrough_56 : decode cX8_waysThrough 56 = .ok (.if_icmp .ge 31, 3) := by decide +kernel
theorem dX8_waysThrough_59 : decode cX8_waysThrough 59 = .ok (.bipush 9, 2) := by decide +kernel
theorem dX8_waysThrough_61 : decode cX8_waysThrough 61 = .ok (.iload 4, 2) := by decide +kernel
theorem dX8_waysThrough_63 : decode cX8_waysThrough 63 = .ok (.aload_n 0, 1) := by decide +kernel
theorem dX8_waysThrough_64 : decode cX8_waysThrough 64 = .ok (.iload_n 1, 1) := by decide +kernel
theorem dX8_waysThrough_65 : decode cX8_waysThrough 65 = .ok (.aload_n 0, 1) := by decide +kernel
theorem dX8_waysThrough_66 : decode cX8_waysThrough 66 = .ok (.getfield 27, 3) := by decide +kernel
theorem dX8_waysThrough_69 : decode cX8_waysThrough 69 = .ok (.iload 7, 2) := by decide +kernel
theorem dX8_waysThrough_71 : decode cX8_waysThrough 71 = .ok (.iaload, 1) := by decide +kernel
theorem dX8_waysThrough_72 : decode cX8_waysThrough 72 = .ok (.invokevirtual 94, 3) := by decide +kernel
theorem dX8_waysThrough_75 : decode cX8_waysThrough 75 = .ok (.iadd, 1) := by decide +kernel
theorem dX8_waysThrough_76 : decode cX8_waysThrough 76 = .ok (.invokestatic 98, 3) := by decide +kernel
theorem dX8_waysThrough_79 : decode cX8_waysThrough 79 = .ok (.istore 4, 2) := by decide +kernel
theorem dX8_waysThrough_81 : decode cX8_waysThrough 81 = .ok (.iinc 7 1, 3) := by decide +kernel
theorem dX8_waysThrough_84 : decode cX8_waysThrough 84 = .ok (.goto (-40), 3) := by decide +kernel
theorem dX8_waysThrough_87 : decode cX8_waysThrough 87 = .ok (.iinc 5 1, 3) := by decide +kernel
theorem dX8_waysThrough_90 : decode cX8_waysThrough 90 = .ok (.goto (-84), 3) := by decide +kernel
theorem dX8_waysThrough_93 : decode cX8_waysThrough 93 = .ok (.iload 4, 2) := by decide +kernel
theorem dX8_waysThrough_95 : decode cX8_waysThrough 95 = .ok (.ireturn, 1) := by decide +kernel
theorem dX8_waysBy_0 : decode cX8_waysBy 0 = .ok (.iload_n 2, 1) := by decide +kernel
theorem dX8_waysBy_1 : decode cX8_waysBy 1 = .ok (.iload_n 1, 1) := by decide +kernel
theorem dX8_waysBy_2 : decode cX8_waysBy 2 = .ok (.if_icmp .ne 5, 3) := by decide +kernel
theorem dX8_waysBy_5 : decode cX8_waysBy 5 = .ok (.iconst 1, 1) := by decide +kernel
theorem dX8_waysBy_6 : decode cX8_waysBy 6 = .ok (.ireturn, 1) := by decide +kernel
theorem dX8_waysBy_7 : decode cX8_waysBy 7 = .ok (.aload_n 0, 1) := by decide +kernel
theorem dX8_waysBy_8 : decode cX8_waysBy 8 = .ok (.iload_n 2, 1) := by decide +kernel
theorem dX8_waysBy_9 : decode cX8_waysBy 9 = .ok (.invokevirtual 66, 3) := by decide +kernel
theorem dX8_waysBy_12 : decode cX8_waysBy 12 = .ok (.ifCond .eq 12, 3) := by decide +kernel
theorem dX8_waysBy_15 : decode cX8_waysBy 15 = .ok (.aload_n 0, 1) := by decide +kernel
theorem dX8_waysBy_16 : decode cX8_waysBy 16 = .ok (.getfield 23, 3) := by decide +kernel
theorem dX8_waysBy_19 : decode cX8_waysBy 19 = .ok (.iload_n 2, 1) := by decide +kernel
theorem dX8_waysBy_20 : decode cX8_waysBy 20 = .ok (.iaload, 1) := by decide +kernel
theorem dX8_waysBy_21 : decode cX8_waysBy 21 = .ok (.goto 4, 3) := by decide +kernel
theorem dX8_waysBy_24 : decode cX8_waysBy 24 = .ok (.iconst 0, 1) := by decide +kernel
theorem dX8_waysBy_25 : decode cX8_waysBy 25 = .ok (.ireturn, 1) := by decide +kernel
theorem dX8_gatherTwice_0 : decode cX8_gatherTwice 0 = .ok (.iconst 0, 1) := by decide +kernel
theorem dX8_gatherTwice_1 : decode cX8_gatherTwice 1 = .ok (.istore_n 1, 1) := by decide +kernel
theorem dX8_gatherTwice_2 : decode cX8_gatherTwice 2 = .ok (.iload_n 1, 1) := by decide +kernel
theorem dX8_gatherTwice_3 : decode cX8_gatherTwice 3 = .ok (.aload_n 0, 1) := by decide +kernel
theorem dX8_gatherTwice_4 : decode cX8_gatherTwice 4 = .ok (.getfield 15, 3) := by decide +kernel
theorem dX8_gatherTwice_7 : decode cX8_gatherTwice 7 = .ok (.invokevirtual 73, 3) := by decide +kernel
theorem dX8_gatherTwice_10 : decode cX8_gatherTwice 10 = .ok (.if_icmp .ge 50, 3) := by decide +kernel
theorem dX8_gatherTwice_13 : decode cX8_gatherTwice 13 = .ok (.aload_n 0, 1) := by decide +kernel
theorem dX8_gatherTwice_14 : decode cX8_gatherTwice 14 = .ok (.getfield 15, 3) := by decide +kernel
theorem dX8_gatherTwice_17 : decode cX8_gatherTwice 17 = .ok (.iload_n 1, 1) := by decide +kernel
theorem dX8_gatherTwice_18 : decode cX8_gatherTwice 18 = .ok (.invokevirtual 77, 3) := by decide +kernel
theorem dX8_gatherTwice_21 : decode cX8_gatherTwice 21 = .ok (.istore_n 2, 1) := by decide +kernel
theorem dX8_gatherTwice_22 : decode cX8_gatherTwice 22 = .ok (.aload_n 0, 1) := by decide +kernel
theorem dX8_gatherTwice_23 : decode cX8_gatherTwice 23 = .ok (.getfield 9, 3) := by decide +kernel
theorem dX8_gatherTwice_26 : decode cX8_gatherTwice 26 = .ok (.iload_n 2, 1) := by decide +kernel
theorem dX8_gatherTwice_27 : decode cX8_gatherTwice 27 = .ok (.invokevirtual 49, 3) := by decide +kernel
theorem dX8_gatherTwice_30 : decode cX8_gatherTwice 30 = .ok (.astore_n 3, 1) := by decide +kernel
theorem dX8_gatherTwice_31 : decode cX8_gatherTwice 31 = .ok (.aload_n 0, 1) := by decide +kernel
theorem dX8_gatherTwice_32 : decode cX8_gatherTwice 32 = .ok (.iload_n 2, 1) := by decide +kernel
theorem dX8_gatherTwice_33 : decode cX8_gatherTwice 33 = .ok (.invokevirtual 66, 3) := by decide +kernel
theorem dX8_gatherTwice_36 : decode cX8_gatherTwice 36 = .ok (.ifCond .eq 18, 3) := by decide +kernel
theorem dX8_gatherTwice_39 : decode cX8_gatherTwice 39 = .ok (.aload_n 3, 1) := by decide +kernel
theorem dX8_gatherTwice_40 : decode cX8_gatherTwice 40 = .ok (.ifnull 14, 3) := by decide +kernel
theorem dX8_gatherTwice_43 : decode cX8_gatherTwice 43 = .ok (.aload_n 0, 1) := by decide +kernel
theorem dX8_gatherTwice_44 : decode cX8_gatherTwice 44 = .ok (.iload_n 2, 1) := by decide +kernel
theorem dX8_gatherTwice_45 : decode cX8_gatherTwice 45 = .ok (.invokevirtual 103, 3) := by decide +kernel
theorem dX8_gatherTwice_48 : decode cX8_gatherTwice 48 = .ok (.aload_n 0, 1) := by decide +kernel
theorem dX8_gatherTwice_49 : decode cX8_gatherTwice 49 = .ok (.iload_n 2, 1) := by decide +kernel
theorem dX8_gatherTwice_50 : decode cX8_gatherTwice 50 = .ok (.aload_n 3, 1) := by decide +kernel
theorem dX8_gatherTwice_51 : decode cX8_gatherTwice 51 = .ok (.invokevirtual 107, 3) := by decide +kernel
theorem dX8_gatherTwice_54 : decode cX8_gatherTwice 54 = .ok (.iinc 1 1, 3) := by decide +kernel
theorem dX8_gatherTwice_57 : decode cX8_gatherTwice 57 = .ok (.goto (-55), 3) := by decide +kernel
theorem dX8_gatherTwice_60 : decode cX8_gatherTwice 60 = .ok (.return_, 1) := by decide +kernel
theorem dX8_forgetTwiceOf_0 : decode cX8_forgetTwiceOf 0 = .ok (.iconst 0, 1) := by decide +kernel
theorem dX8_forgetTwiceOf_1 : decode cX8_forgetTwiceOf 1 = .ok (.istore_n 2, 1) := by decide +kernel
theorem dX8_forgetTwiceOf_2 : decode cX8_forgetTwiceOf 2 = .ok (.iload_n 2, 1) := by decide +kernel
theorem dX8_forgetTwiceOf_3 : decode cX8_forgetTwiceOf 3 = .ok (.iconst 5, 1) := by decide +kernel
theorem dX8_forgetTwiceOf_4 : decode cX8_forgetTwiceOf 4 = .ok (.if_icmp .ge 31, 3) := by decide +kernel
theorem dX8_forgetTwiceOf_7 : decode cX8_forgetTwiceOf 7 = .ok (.aload_n 0, 1) := by decide +kernel
theorem dX8_forgetTwiceOf_8 : decode cX8_forgetTwiceOf 8 = .ok (.getfield 30, 3) := by decide +kernel
theorem dX8_forgetTwiceOf_11 : decode cX8_forgetTwiceOf 11 = .ok (.iload_n 1, 1) := by decide +kernel
theorem dX8_forgetTwiceOf_12 : decode cX8_forgetTwiceOf 12 = .ok (.iconst 5, 1) := by decide +kernel
theorem dX8_forgetTwiceOf_13 : decode cX8_forgetTwiceOf 13 = .ok (.imul, 1) := by decide +kernel
theorem dX8_forgetTwiceOf_14 : decode cX8_forgetTwiceOf 14 = .ok (.iload_n 2, 1) := by decide +kernel
theorem dX8_forgetTwiceOf_15 : decode cX8_forgetTwiceOf 15 = .ok (.iadd, 1) := by decide +kernel
theorem dX8_forgetTwiceOf_16 : decode cX8_forgetTwiceOf 16 = .ok (.lconst 0, 1) := by decide +kernel
theorem dX8_forgetTwiceOf_17 : decode cX8_forgetTwiceOf 17 = .ok (.lastore, 1) := by decide +kernel
theorem dX8_forgetTwiceOf_18 : decode cX8_forgetTwiceOf 18 = .ok (.aload_n 0, 1) := by decide +kernel
theorem dX8_forgetTwiceOf_19 : decode cX8_forgetTwiceOf 19 = .ok (.getfield 34, 3) := by decide +kernel
theorem dX8_forgetTwiceOf_22 : decode cX8_forgetTwiceOf 22 = .ok (.iload_n 1, 1) := by decide +kernel
theorem dX8_forgetTwiceOf_23 : decode cX8_forgetTwiceOf 23 = .ok (.iconst 5, 1) := by decide +kernel
theorem dX8_forgetTwiceOf_24 : decode cX8_forgetTwiceOf 24 = .ok (.imul, 1) := by decide +kernel
theorem dX8_forgetTwiceOf_25 : decode cX8_forgetTwiceOf 25 = .ok (.iload_n 2, 1) := by decide +kernel
theorem dX8_forgetTwiceOf_26 : decode cX8_forgetTwiceOf 26 = .ok (.iadd, 1) := by decide +kernel
theorem dX8_forgetTwiceOf_27 : decode cX8_forgetTwiceOf 27 = .ok (.lconst 0, 1) := by decide +kernel
theorem dX8_forgetTwiceOf_28 : decode cX8_forgetTwiceOf 28 = .ok (.lastore, 1) := by decide +kernel
theorem dX8_forgetTwiceOf_29 : decode cX8_forgetTwiceOf 29 = .ok (.iinc 2 1, 3) := by decide +kernel
theorem dX8_forgetTwiceOf_32 : decode cX8_forgetTwiceOf 32 = .ok (.goto (-30), 3) := by decide +kernel
theorem dX8_forgetTwiceOf_35 : decode cX8_forgetTwiceOf 35 = .ok (.return_, 1) := by decide +kernel
theorem dX8_gatherTwiceOf_0 : decode cX8_gatherTwiceOf 0 = .ok (.iconst 0, 1) := by decide +kernel
theorem dX8_gatherTwiceOf_1 : decode cX8_gatherTwiceOf 1 = .ok (.istore_n 3, 1) := by decide +kernel
theorem dX8_gatherTwiceOf_2 : decode cX8_gatherTwiceOf 2 = .ok (.iload_n 3, 1) := by decide +kernel
theorem dX8_gatherTwiceOf_3 : decode cX8_gatherTwiceOf 3 = .ok (.aload_n 2, 1) := by decide +kernel
theorem dX8_gatherTwiceOf_4 : decode cX8_gatherTwiceOf 4 = .ok (.invokevirtual 84, 3) := by decide +kernel
theorem dX8_gatherTwiceOf_7 : decode cX8_gatherTwiceOf 7 = .ok (.if_icmp .ge 69, 3) := by decide +kernel
theorem dX8_gatherTwiceOf_10 : decode cX8_gatherTwiceOf 10 = .ok (.aload_n 2, 1) := by decide +kernel
theorem dX8_gatherTwiceOf_11 : decode cX8_gatherTwiceOf 11 = .ok (.iload_n 3, 1) := by decide +kernel
theorem dX8_gatherTwiceOf_12 : decode cX8_gatherTwiceOf 12 = .ok (.invokevirtual 87, 3) := by decide +kernel
theorem dX8_gatherTwiceOf_15 : decode cX8_gatherTwiceOf 15 = .ok (.ifCond .eq 16, 3) := by decide +kernel
theorem dX8_gatherTwiceOf_18 : decode cX8_gatherTwiceOf 18 = .ok (.aload_n 2, 1) := by decide +kernel
theorem dX8_gatherTwiceOf_19 : decode cX8_gatherTwiceOf 19 = .ok (.iload_n 3, 1) := by decide +kernel
theorem dX8_gatherTwiceOf_20 : decode cX8_gatherTwiceOf 20 = .ok (.iload_n 1, 1) := by decide +kernel
theorem dX8_gatherTwiceOf_21 : decode cX8_gatherTwiceOf 21 = .ok (.aload_n 0, 1) := by decide +kernel
theorem dX8_gatherTwiceOf_22 : decode cX8_gatherTwiceOf 22 = .ok (.getfield 27, 3) := by decide +kernel
theorem dX8_gatherTwiceOf_25 : decode cX8_gatherTwiceOf 25 = .ok (.invokevirtual 90, 3) := by decide +kernel
theorem dX8_gatherTwiceOf_28 : decode cX8_gatherTwiceOf 28 = .ok (.goto 4, 3) := by decide +kernel
theorem dX8_gatherTwiceOf_31 : decode cX8_gatherTwiceOf 31 = .ok (.iconst 0, 1) := by decide +kernel
theorem dX8_gatherTwiceOf_32 : decode cX8_gatherTwiceOf 32 = .ok (.istore 4, 2) := by decide +kernel
theorem dX8_gatherTwiceOf_34 : decode cX8_gatherTwiceOf 34 = .ok (.iconst 0, 1) := by decide +kernel
theorem dX8_gatherTwiceOf_35 : decode cX8_gatherTwiceOf 35 = .ok (.istore 5, 2) := by decide +kernel
theorem dX8_gatherTwiceOf_37 : decode cX8_gatherTwiceOf 37 = .ok (.iload 5, 2) := by decide +kernel
theorem dX8_gatherTwiceOf_39 : decode cX8_gatherTwiceOf 39 = .ok (.iload 4, 2) := by decide +kernel
theorem dX8_gatherTwiceOf_41 : decode cX8_gatherTwiceOf 41 = .ok (.if_icmp .ge 29, 3) := by decide +kernel
theorem dX8_gatherTwiceOf_44 : decode cX8_gatherTwiceOf 44 = .ok (.iload 5, 2) := by decide +kernel
theorem dX8_gatherTwiceOf_46 : decode cX8_gatherTwiceOf 46 = .ok (.sipush 288, 3) := by decide +kernel
theorem dX8_gatherTwiceOf_49 : decode cX8_gatherTwiceOf 49 = .ok (.if_icmp .ge 21, 3) := by decide +kernel
theorem dX8_gatherTwiceOf_52 : decode cX8_gatherTwiceOf 52 = .ok (.aload_n 0, 1) := by decide +kernel
theorem dX8_gatherTwiceOf_53 : decode cX8_gatherTwiceOf 53 = .ok (.iload_n 1, 1) := by decide +kernel
theorem dX8_gatherTwiceOf_54 : decode cX8_gatherTwiceOf 54 = .ok (.aload_n 0, 1) := by decide +kernel
theorem dX8_gatherTwiceOf_55 : decode cX8_gatherTwiceOf 55 = .ok (.getfield 27, 3) := by decide +kernel
theorem dX8_gatherTwiceOf_58 : decode cX8_gatherTwiceOf 58 = .ok (.iload 5, 2) := by decide +kernel
theorem dX8_gatherTwiceOf_60 : decode cX8_gatherTwiceOf 60 = .ok (.iaload, 1) := by decide +kernel
theorem dX8_gatherTwiceOf_61 : decode cX8_gatherTwiceOf 61 = .ok (.invokevirtual 111, 3) := by decide +kernel
theorem dX8_gatherTwiceOf_64 : decode cX8_gatherTwiceOf 64 = .ok (.iinc 5 1, 3) := by decide +kernel
theorem dX8_gatherTwiceOf_67 : decode cX8_gatherTwiceOf 67 = .ok (.goto (-30), 3) := by decide +kernel
theorem dX8_gatherTwiceOf_70 : decode cX8_gatherTwiceOf 70 = .ok (.iinc 3 1, 3) := by decide +kernel
theorem dX8_gatherTwiceOf_73 : decode cX8_gatherTwiceOf 73 = .ok (.goto (-71), 3) := by decide +kernel
theorem dX8_gatherTwiceOf_76 : decode cX8_gatherTwiceOf 76 = .ok (.return_, 1) := by decide +kernel
theorem dX8_addRead_0 : decode cX8_addRead 0 = .ok (.aload_n 0, 1) := by decide +kernel
theorem dX8_addRead_1 : decode cX8_addRead 1 = .ok (.iload_n 2, 1) := by decide +kernel
theorem dX8_addRead_2 : decode cX8_addRead 2 = .ok (.invokevirtual 66, 3) := by decide +kernel
theorem dX8_addRead_5 : decode cX8_addRead 5 = .ok (.ifCond .eq 12, 3) := by decide +kernel
theorem dX8_addRead_8 : decode cX8_addRead 8 = .ok (.aload_n 0, 1) := by decide +kernel
theorem dX8_addRead_9 : decode cX8_addRead 9 = .ok (.iload_n 1, 1) := by decide +kernel
theorem dX8_addRead_10 : decode cX8_addRead 10 = .ok (.iload_n 2, 1) := by decide +kernel
theorem dX8_addRead_11 : decode cX8_addRead 11 = .ok (.invokevirtual 115, 3) := by decide +kernel
theorem dX8_addRead_14 : decode cX8_addRead 14 = .ok (.goto 44, 3) := by decide +kernel
theorem dX8_addRead_17 : decode cX8_addRead 17 = .ok (.aload_n 0, 1) := by decide +kernel
theorem dX8_addRead_18 : decode cX8_addRead 18 = .ok (.getfield 9, 3) := by decide +kernel
theorem dX8_addRead_21 : decode cX8_addRead 21 = .ok (.iload_n 2, 1) := by decide +kernel
theorem dX8_addRead_22 : decode cX8_addRead 22 = .ok (.invokevirtual 69, 3) := by decide +kernel
theorem dX8_addRead_25 : decode cX8_addRead 25 = .ok (.ifCond .eq 33, 3) := by decide +kernel
theorem dX8_addRead_28 : decode cX8_addRead 28 = .ok (.aload_n 0, 1) := by decide +kernel
theorem dX8_addRead_29 : decode cX8_addRead 29 = .ok (.getfield 30, 3) := by decide +kernel
theorem dX8_addRead_32 : decode cX8_addRead 32 = .ok (.iload_n 1, 1) := by decide +kernel
theorem dX8_addRead_33 : decode cX8_addRead 33 = .ok (.iload_n 2, 1) := by decide +kernel
theorem dX8_addRead_34 : decode cX8_addRead 34 = .ok (.invokestatic 118, 3) := by decide +kernel
theorem dX8_addRead_37 : decode cX8_addRead 37 = .ok (.ifCond .eq 12, 3) := by decide +kernel
theorem dX8_addRead_40 : decode cX8_addRead 40 = .ok (.aload_n 0, 1) := by decide +kernel
theorem dX8_addRead_41 : decode cX8_addRead 41 = .ok (.getfield 34, 3) := by decide +kernel
theorem dX8_addRead_44 : decode cX8_addRead 44 = .ok (.iload_n 1, 1) := by decide +kernel
theorem dX8_addRead_45 : decode cX8_addRead 45 = .ok (.iload_n 2, 1) := by decide +kernel
theorem dX8_addRead_46 : decode cX8_addRead 46 = .ok (.invokestatic 122, 3) := by decide +kernel
theorem dX8_addRead_49 : decode cX8_addRead 49 = .ok (.aload_n 0, 1) := by decide +kernel
theorem dX8_addRead_50 : decode cX8_addRead 50 = .ok (.getfield 30, 3) := by decide +kernel
theorem dX8_addRead_53 : decode cX8_addRead 53 = .ok (.iload_n 1, 1) := by decide +kernel
theorem dX8_addRead_54 : decode cX8_addRead 54 = .ok (.iload_n 2, 1) := by decide +kernel
theorem dX8_addRead_55 : decode cX8_addRead 55 = .ok (.invokestatic 122, 3) := by decide +kernel
theorem dX8_addRead_58 : decode cX8_addRead 58 = .ok (.return_, 1) := by decide +kernel
theorem dX8_addWaysOf_0 : decode cX8_addWaysOf 0 = .ok (.iload_n 1, 1) := by decide +kernel
theorem dX8_addWaysOf_1 : decode cX8_addWaysOf 1 = .ok (.invokestatic 63, 3) := by decide +kernel
theorem dX8_addWaysOf_4 : decode cX8_addWaysOf 4 = .ok (.ifCond .eq 10, 3) := by decide +kernel
theorem dX8_addWaysOf_7 : decode cX8_addWaysOf 7 = .ok (.iload_n 2, 1) := by decide +kernel
theorem dX8_addWaysOf_8 : decode cX8_addWaysOf 8 = .ok (.invokestatic 63, 3) := by decide +kernel
theorem dX8_addWaysOf_11 : decode cX8_addWaysOf 11 = .ok (.ifCond .ne 4, 3) := by decide +kernel
theorem dX8_addWaysOf_14 : decode cX8_addWaysOf 14 = .ok (.return_, 1) := by decide +kernel
theorem dX8_addWaysOf_15 : decode cX8_addWaysOf 15 = .ok (.iconst 0, 1) := by decide +kernel
theorem dX8_addWaysOf_16 : decode cX8_addWaysOf 16 = .ok (.istore_n 3, 1) := by decide +kernel
theorem dX8_addWaysOf_17 : decode cX8_addWaysOf 17 = .ok (.iload_n 3, 1) := by decide +kernel
theorem dX8_addWaysOf_18 : decode cX8_addWaysOf 18 = .ok (.iconst 5, 1) := by decide +kernel
theorem dX8_addWaysOf_19 : decode cX8_addWaysOf 19 = .ok (.if_icmp .ge 73, 3) := by decide +kernel
theorem dX8_addWaysOf_22 : decode cX8_addWaysOf 22 = .ok (.iload_n 1, 1) := by decide +kernel
theorem dX8_addWaysOf_23 : decode cX8_addWaysOf 23 = .ok (.iconst 5, 1) := by decide +kernel
theorem dX8_addWaysOf_24 : decode cX8_addWaysOf 24 = .ok (.imul, 1) := by decide +kernel
theorem dX8_addWaysOf_25 : decode cX8_addWaysOf 25 = .ok (.iload_n 3, 1) := by decide +kernel
theorem dX8_addWaysOf_26 : decode cX8_addWaysOf 26 = .ok (.iadd, 1) := by decide +kernel
theorem dX8_addWaysOf_27 : decode cX8_addWaysOf 27 = .ok (.istore 4, 2) := by decide +kernel
theorem dX8_addWaysOf_29 : decode cX8_addWaysOf 29 = .ok (.iload_n 2, 1) := by decide +kernel
theorem dX8_addWaysOf_30 : decode cX8_addWaysOf 30 = .ok (.iconst 5, 1) := by decide +kernel
theorem dX8_addWaysOf_31 : decode cX8_addWaysOf 31 = .ok (.imul, 1) := by decide +kernel
theorem dX8_addWaysOf_32 : decode cX8_addWaysOf 32 = .ok (.iload_n 3, 1) := by decide +kernel
theorem dX8_addWaysOf_33 : decode cX8_addWaysOf 33 = .ok (.iadd, 1) := by decide +kernel
theorem dX8_addWaysOf_34 : decode cX8_addWaysOf 34 = .ok (.istore 5, 2) := by decide +kernel
theorem dX8_addWaysOf_36 : decode cX8_addWaysOf 36 = .ok (.aload_n 0, 1) := by decide +kernel
theorem dX8_addWaysOf_37 : decode cX8_addWaysOf 37 = .ok (.getfield 34, 3) := by decide +kernel
theorem dX8_addWaysOf_40 : decode cX8_addWaysOf 40 = .ok (.iload 4, 2) := by decide +kernel
theorem dX8_addWaysOf_42 : decode cX8_addWaysOf 42 = .ok (.dup2, 1) := by decide +kernel
theorem dX8_addWaysOf_43 : decode cX8_addWaysOf 43 = .ok (.laload, 1) := by decide +kernel
theorem dX8_addWaysOf_44 : decode cX8_addWaysOf 44 = .ok (.aload_n 0, 1) := by decide +kernel
theorem dX8_addWaysOf_45 : decode cX8_addWaysOf 45 = .ok (.getfield 34, 3) := by decide +kernel
theorem dX8_addWaysOf_48 : decode cX8_addWaysOf 48 = .ok (.iload 5, 2) := by decide +kernel
theorem dX8_addWaysOf_50 : decode cX8_addWaysOf 50 = .ok (.laload, 1) := by decide +kernel
theorem dX8_addWaysOf_51 : decode cX8_addWaysOf 51 = .ok (.aload_n 0, 1) := by decide +kernel
theorem dX8_addWaysOf_52 : decode cX8_addWaysOf 52 = .ok (.getfield 30, 3) := by decide +kernel
theorem dX8_addWaysOf_55 : decode cX8_addWaysOf 55 = .ok (.iload 4, 2) := by decide +kernel
theorem dX8_addWaysOf_57 : decode cX8_addWaysOf 57 = .ok (.laload, 1) := by decide +kernel
theorem dX8_addWaysOf_58 : decode cX8_addWaysOf 58 = .ok (.aload_n 0, 1) := by decide +kernel
theorem dX8_addWaysOf_59 : decode cX8_addWaysOf 59 = .ok (.getfield 30, 3) := by decide +kernel
theorem dX8_addWaysOf_62 : decode cX8_addWaysOf 62 = .ok (.iload 5, 2) := by decide +kernel
theorem dX8_addWaysOf_64 : decode cX8_addWaysOf 64 = .ok (.laload, 1) := by decide +kernel
theorem dX8_addWaysOf_65 : decode cX8_addWaysOf 65 = .ok (.land, 1) := by decide +kernel
theorem dX8_addWaysOf_66 : decode cX8_addWaysOf 66 = .ok (.lor, 1) := by decide +kernel
theorem dX8_addWaysOf_67 : decode cX8_addWaysOf 67 = .ok (.lor, 1) := by decide +kernel
theorem dX8_addWaysOf_68 : decode cX8_addWaysOf 68 = .ok (.lastore, 1) := by decide +kernel
theorem dX8_addWaysOf_69 : decode cX8_addWaysOf 69 = .ok (.aload_n 0, 1) := by decide +kernel
theorem dX8_addWaysOf_70 : decode cX8_addWaysOf 70 = .ok (.getfield 30, 3) := by decide +kernel
theorem dX8_addWaysOf_73 : decode cX8_addWaysOf 73 = .ok (.iload 4, 2) := by decide +kernel
theorem dX8_addWaysOf_75 : decode cX8_addWaysOf 75 = .ok (.dup2, 1) := by decide +kernel
theorem dX8_addWaysOf_76 : decode cX8_addWaysOf 76 = .ok (.laload, 1) := by decide +kernel
theorem dX8_addWaysOf_77 : decode cX8_addWaysOf 77 = .ok (.aload_n 0, 1) := by decide +kernel
theorem dX8_addWaysOf_78 : decode cX8_addWaysOf 78 = .ok (.getfield 30, 3) := by decide +kernel
theorem dX8_addWaysOf_81 : decode cX8_addWaysOf 81 = .ok (.iload 5, 2) := by decide +kernel
theorem dX8_addWaysOf_83 : decode cX8_addWaysOf 83 = .ok (.laload, 1) := by decide +kernel
theorem dX8_addWaysOf_84 : decode cX8_addWaysOf 84 = .ok (.lor, 1) := by decide +kernel
theorem dX8_addWaysOf_85 : decode cX8_addWaysOf 85 = .ok (.lastore, 1) := by decide +kernel
theorem dX8_addWaysOf_86 : decode cX8_addWaysOf 86 = .ok (.iinc 3 1, 3) := by decide +kernel
theorem dX8_addWaysOf_89 : decode cX8_addWaysOf 89 = .ok (.goto (-72), 3) := by decide +kernel
theorem dX8_addWaysOf_92 : decode cX8_addWaysOf 92 = .ok (.return_, 1) := by decide +kernel
theorem dX8_leastTwice_0 : decode cX8_leastTwice 0 = .ok (.aload_n 0, 1) := by decide +kernel
theorem dX8_leastTwice_1 : decode cX8_leastTwice 1 = .ok (.iload_n 1, 1) := by decide +kernel
theorem dX8_leastTwice_2 : decode cX8_leastTwice 2 = .ok (.invokevirtual 66, 3) := by decide +kernel
theorem dX8_leastTwice_5 : decode cX8_leastTwice 5 = .ok (.ifCond .ne 5, 3) := by decide +kernel
theorem dX8_leastTwice_8 : decode cX8_leastTwice 8 = .ok (.iconst (-1), 1) := by decide +kernel
theorem dX8_leastTwice_9 : decode cX8_leastTwice 9 = .ok (.ireturn, 1) := by decide +kernel
theorem dX8_leastTwice_10 : decode cX8_leastTwice 10 = .ok (.iconst 0, 1) := by decide +kernel
theorem dX8_leastTwice_11 : decode cX8_leastTwice 11 = .ok (.istore_n 2, 1) := by decide +kernel
theorem dX8_leastTwice_12 : decode cX8_leastTwice 12 = .ok (.iload_n 2, 1) := by decide +kernel
theorem dX8_leastTwice_13 : decode cX8_leastTwice 13 = .ok (.sipush 288, 3) := by decide +kernel
theorem dX8_leastTwice_16 : decode cX8_leastTwice 16 = .ok (.if_icmp .ge 23, 3) := by decide +kernel
theorem dX8_leastTwice_19 : decode cX8_leastTwice 19 = .ok (.aload_n 0, 1) := by decide +kernel
theorem dX8_leastTwice_20 : decode cX8_leastTwice 20 = .ok (.getfield 34, 3) := by decide +kernel
theorem dX8_leastTwice_23 : decode cX8_leastTwice 23 = .ok (.iload_n 1, 1) := by decide +kernel
theorem dX8_leastTwice_24 : decode cX8_leastTwice 24 = .ok (.iload_n 2, 1) := by decide +kernel
theorem dX8_leastTwice_25 : decode cX8_leastTwice 25 = .ok (.invokestatic 118, 3) := by decide +kernel
theorem dX8_leastTwice_28 : decode cX8_leastTwice 28 = .ok (.ifCond .eq 5, 3) := by decide +kernel
theorem dX8_leastTwice_31 : decode cX8_leastTwice 31 = .ok (.iload_n 2, 1) := by decide +kernel
theorem dX8_leastTwice_32 : decode cX8_leastTwice 32 = .ok (.ireturn, 1) := by decide +kernel
theorem dX8_leastTwice_33 : decode cX8_leastTwice 33 = .ok (.iinc 2 1, 3) := by decide +kernel
theorem dX8_leastTwice_36 : decode cX8_leastTwice 36 = .ok (.goto (-24), 3) := by decide +kernel
theorem dX8_leastTwice_39 : decode cX8_leastTwice 39 = .ok (.iconst (-1), 1) := by decide +kernel
theorem dX8_leastTwice_40 : decode cX8_leastTwice 40 = .ok (.ireturn, 1) := by decide +kernel
theorem dX9_init_0 : decode cX9_init 0 = .ok (.aload_n 0, 1) := by decide +kernel
theorem dX9_init_1 : decode cX9_init 1 = .ok (.invokespecial 3, 3) := by decide +kernel
theorem dX9_init_4 : decode cX9_init 4 = .ok (.aload_n 0, 1) := by decide +kernel
theorem dX9_init_5 : decode cX9_init 5 = .ok (.aload_n 1, 1) := by decide +kernel
theorem dX9_init_6 : decode cX9_init 6 = .ok (.putfield 9, 3) := by decide +kernel
theorem dX9_init_9 : decode cX9_init 9 = .ok (.aload_n 0, 1) := by decide +kernel
theorem dX9_init_10 : decode cX9_init 10 = .ok (.aload_n 2, 1) := by decide +kernel
theorem dX9_init_11 : decode cX9_init 11 = .ok (.putfield 15, 3) := by decide +kernel
theorem dX9_init_14 : decode cX9_init 14 = .ok (.aload_n 0, 1) := by decide +kernel
theorem dX9_init_15 : decode cX9_init 15 = .ok (.sipush 864, 3) := by decide +kernel
theorem dX9_init_18 : decode cX9_init 18 = .ok (.newarray .int, 2) := by decide +kernel
theorem dX9_init_20 : decode cX9_init 20 = .ok (.putfield 19, 3) := by decide +kernel
theorem dX9_init_23 : decode cX9_init 23 = .ok (.aload_n 0, 1) := by decide +kernel
theorem dX9_init_24 : decode cX9_init 24 = .ok (.sipush 288, 3) := by decide +kernel
theorem dX9_init_27 : decode cX9_init 27 = .ok (.newarray .boolean, 2) := by decide +kernel
theorem dX9_init_29 : decode cX9_init 29 = .ok (.putfield 23, 3) := by decide +kernel
theorem dX9_init_32 : decode cX9_init 32 = .ok (.aload_n 0, 1) := by decide +kernel
theorem dX9_init_33 : decode cX9_init 33 = .ok (.sipush 288, 3) := by decide +kernel
theorem dX9_init_36 : decode cX9_init 36 = .ok (.newarray .int, 2) := by decide +kernel
theorem dX9_init_38 : decode cX9_init 38 = .ok (.putfield 27, 3) := by decide +kernel
theorem dX9_init_41 : decode cX9_init 41 = .ok (.aload_n 0, 1) := by decide +kernel
theorem dX9_init_42 : decode cX9_init 42 = .ok (.bipush 96, 2) := by decide +kernel
theorem dX9_init_44 : decode cX9_init 44 = .ok (.newarray .int, 2) := by decide +kernel
theorem dX9_init_46 : decode cX9_init 46 = .ok (.putfield 30, 3) := by decide +kernel
theorem dX9_init_49 : decode cX9_init 49 = .ok (.aload_n 0, 1) := by decide +kernel
theorem dX9_init_50 : decode cX9_init 50 = .ok (.iconst (-1), 1) := by decide +kernel
theorem dX9_init_51 : decode cX9_init 51 = .ok (.putfield 33, 3) := by decide +kernel
theorem dX9_init_54 : decode cX9_init 54 = .ok (.return_, 1) := by decide +kernel
theorem dX9_settle_0 : decode cX9_settle 0 = .ok (.aload_n 0, 1) := by decide +kernel
theorem dX9_settle_1 : decode cX9_settle 1 = .ok (.getfield 33, 3) := by decide +kernel
theorem dX9_settle_4 : decode cX9_settle 4 = .ok (.aload_n 0, 1) := by decide +kernel
theorem dX9_settle_5 : decode cX9_settle 5 = .ok (.getfield 9, 3) := by decide +kernel
theorem dX9_settle_8 : decode cX9_settle 8 = .ok (.getfield 37, 3) := by decide +kernel
theorem dX9_settle_11 : decode cX9_settle 11 = .ok (.if_icmp .ne 4, 3) := by decide +kernel
theorem dX9_settle_14 : decode cX9_settle 14 = .ok (.return_, 1) := by decide +kernel
theorem dX9_settle_15 : decode cX9_settle 15 = .ok (.aload_n 0, 1) := by decide +kernel
theorem dX9_settle_16 : decode cX9_settle 16 = .ok (.aload_n 0, 1) := by decide +kernel
