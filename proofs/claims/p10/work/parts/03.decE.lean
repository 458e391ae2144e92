theorem dX12_goPart_11 : decode cX12_goPart 11 = .ok (.iadd, 1) := by decide +kernel
theorem dX12_goPart_12 : decode cX12_goPart 12 = .ok (.putfield 241, 3) := by decide +kernel
theorem dX12_goPart_15 : decode cX12_goPart 15 = .ok (.aload_n 0, 1) := by decide +kernel
theorem dX12_goPart_16 : decode cX12_goPart 16 = .ok (.getfield 65, 3) := by decide +kernel
theorem dX12_goPart_19 : decode cX12_goPart 19 = .ok (.iload_n 1, 1) := by decide +kernel
theorem dX12_goPart_20 : decode cX12_goPart 20 = .ok (.iaload, 1) := by decide +kernel
theorem dX12_goPart_21 : decode cX12_goPart 21 = .ok (.ifCond .ne 10, 3) := by decide +kernel
theorem dX12_goPart_24 : decode cX12_goPart 24 = .ok (.aload_n 0, 1) := by decide +kernel
theorem dX12_goPart_25 : decode cX12_goPart 25 = .ok (.getfield 68, 3) := by decide +kernel
theorem dX12_goPart_28 : decode cX12_goPart 28 = .ok (.iload_n 1, 1) := by decide +kernel
theorem dX12_goPart_29 : decode cX12_goPart 29 = .ok (.iaload, 1) := by decide +kernel
theorem dX12_goPart_30 : decode cX12_goPart 30 = .ok (.ireturn, 1) := by decide +kernel
theorem dX12_goPart_31 : decode cX12_goPart 31 = .ok (.aload_n 0, 1) := by decide +kernel
theorem dX12_goPart_32 : decode cX12_goPart 32 = .ok (.getfield 65, 3) := by decide +kernel
theorem dX12_goPart_35 : decode cX12_goPart 35 = .ok (.iload_n 1, 1) := by decide +kernel
theorem dX12_goPart_36 : decode cX12_goPart 36 = .ok (.iaload, 1) := by decide +kernel
theorem dX12_goPart_37 : decode cX12_goPart 37 = .ok (.iconst 3, 1) := by decide +kernel
theorem dX12_goPart_38 : decode cX12_goPart 38 = .ok (.if_icmp .ne 24, 3) := by decide +kernel
theorem dX12_goPart_41 : decode cX12_goPart 41 = .ok (.aload_n 0, 1) := by decide +kernel
theorem dX12_goPart_42 : decode cX12_goPart 42 = .ok (.bipush 12, 2) := by decide +kernel
theorem dX12_goPart_44 : decode cX12_goPart 44 = .ok (.aload_n 0, 1) := by decide +kernel
theorem dX12_goPart_45 : decode cX12_goPart 45 = .ok (.getfield 71, 3) := by decide +kernel
theorem dX12_goPart_48 : decode cX12_goPart 48 = .ok (.iload_n 1, 1) := by decide +kernel
theorem dX12_goPart_49 : decode cX12_goPart 49 = .ok (.iaload, 1) := by decide +kernel
theorem dX12_goPart_50 : decode cX12_goPart 50 = .ok (.imul, 1) := by decide +kernel
theorem dX12_goPart_51 : decode cX12_goPart 51 = .ok (.aload_n 0, 1) := by decide +kernel
theorem dX12_goPart_52 : decode cX12_goPart 52 = .ok (.getfield 68, 3) := by decide +kernel
theorem dX12_goPart_55 : decode cX12_goPart 55 = .ok (.iload_n 1, 1) := by decide +kernel
theorem dX12_goPart_56 : decode cX12_goPart 56 = .ok (.iaload, 1) := by decide +kernel
theorem dX12_goPart_57 : decode cX12_goPart 57 = .ok (.iadd, 1) := by decide +kernel
theorem dX12_goPart_58 : decode cX12_goPart 58 = .ok (.invokevirtual 279, 3) := by decide +kernel
theorem dX12_goPart_61 : decode cX12_goPart 61 = .ok (.ireturn, 1) := by decide +kernel
theorem dX12_goPart_62 : decode cX12_goPart 62 = .ok (.aload_n 0, 1) := by decide +kernel
theorem dX12_goPart_63 : decode cX12_goPart 63 = .ok (.getfield 65, 3) := by decide +kernel
theorem dX12_goPart_66 : decode cX12_goPart 66 = .ok (.iload_n 1, 1) := by decide +kernel
theorem dX12_goPart_67 : decode cX12_goPart 67 = .ok (.iaload, 1) := by decide +kernel
theorem dX12_goPart_68 : decode cX12_goPart 68 = .ok (.iconst 2, 1) := by decide +kernel
theorem dX12_goPart_69 : decode cX12_goPart 69 = .ok (.if_icmp .ne 22, 3) := by decide +kernel
theorem dX12_goPart_72 : decode cX12_goPart 72 = .ok (.aload_n 0, 1) := by decide +kernel
theorem dX12_goPart_73 : decode cX12_goPart 73 = .ok (.iload_n 1, 1) := by decide +kernel
theorem dX12_goPart_74 : decode cX12_goPart 74 = .ok (.bipush 6, 2) := by decide +kernel
theorem dX12_goPart_76 : decode cX12_goPart 76 = .ok (.iadd, 1) := by decide +kernel
theorem dX12_goPart_77 : decode cX12_goPart 77 = .ok (.putfield 241, 3) := by decide +kernel
theorem dX12_goPart_80 : decode cX12_goPart 80 = .ok (.aload_n 0, 1) := by decide +kernel
theorem dX12_goPart_81 : decode cX12_goPart 81 = .ok (.iload_n 1, 1) := by decide +kernel
theorem dX12_goPart_82 : decode cX12_goPart 82 = .ok (.iconst 2, 1) := by decide +kernel
theorem dX12_goPart_83 : decode cX12_goPart 83 = .ok (.iadd, 1) := by decide +kernel
theorem dX12_goPart_84 : decode cX12_goPart 84 = .ok (.iload_n 1, 1) := by decide +kernel
theorem dX12_goPart_85 : decode cX12_goPart 85 = .ok (.iconst 4, 1) := by decide +kernel
theorem dX12_goPart_86 : decode cX12_goPart 86 = .ok (.iadd, 1) := by decide +kernel
theorem dX12_goPart_87 : decode cX12_goPart 87 = .ok (.invokevirtual 283, 3) := by decide +kernel
theorem dX12_goPart_90 : decode cX12_goPart 90 = .ok (.ireturn, 1) := by decide +kernel
theorem dX12_goPart_91 : decode cX12_goPart 91 = .ok (.aload_n 0, 1) := by decide +kernel
theorem dX12_goPart_92 : decode cX12_goPart 92 = .ok (.getfield 68, 3) := by decide +kernel
theorem dX12_goPart_95 : decode cX12_goPart 95 = .ok (.iload_n 1, 1) := by decide +kernel
theorem dX12_goPart_96 : decode cX12_goPart 96 = .ok (.iaload, 1) := by decide +kernel
theorem dX12_goPart_97 : decode cX12_goPart 97 = .ok (.bipush 45, 2) := by decide +kernel
theorem dX12_goPart_99 : decode cX12_goPart 99 = .ok (.if_icmp .ne 9, 3) := by decide +kernel
theorem dX12_goPart_102 : decode cX12_goPart 102 = .ok (.aload_n 0, 1) := by decide +kernel
theorem dX12_goPart_103 : decode cX12_goPart 103 = .ok (.invokevirtual 276, 3) := by decide +kernel
theorem dX12_goPart_106 : decode cX12_goPart 106 = .ok (.ineg, 1) := by decide +kernel
theorem dX12_goPart_107 : decode cX12_goPart 107 = .ok (.ireturn, 1) := by decide +kernel
theorem dX12_goPart_108 : decode cX12_goPart 108 = .ok (.aload_n 0, 1) := by decide +kernel
theorem dX12_goPart_109 : decode cX12_goPart 109 = .ok (.invokevirtual 250, 3) := by decide +kernel
theorem dX12_goPart_112 : decode cX12_goPart 112 = .ok (.istore_n 2, 1) := by decide +kernel
theorem dX12_goPart_113 : decode cX12_goPart 113 = .ok (.aload_n 0, 1) := by decide +kernel
theorem dX12_goPart_114 : decode cX12_goPart 114 = .ok (.dup, 1) := by decide +kernel
theorem dX12_goPart_115 : decode cX12_goPart 115 = .ok (.getfield 241, 3) := by decide +kernel
theorem dX12_goPart_118 : decode cX12_goPart 118 = .ok (.iconst 1, 1) := by decide +kernel
theorem dX12_goPart_119 : decode cX12_goPart 119 = .ok (.iadd, 1) := by decide +kernel
theorem dX12_goPart_120 : decode cX12_goPart 120 = .ok (.putfield 241, 3) := by decide +kernel
theorem dX12_goPart_123 : decode cX12_goPart 123 = .ok (.iload_n 2, 1) := by decide +kernel
theorem dX12_goPart_124 : decode cX12_goPart 124 = .ok (.ireturn, 1) := by decide +kernel
theorem dX12_meets_0 : decode cX12_meets 0 = .ok (.aload_n 0, 1) := by decide +kernel
theorem dX12_meets_1 : decode cX12_meets 1 = .ok (.getfield 247, 3) := by decide +kernel
theorem dX12_meets_4 : decode cX12_meets 4 = .ok (.ifCond .ne 13, 3) := by decide +kernel
theorem dX12_meets_7 : decode cX12_meets 7 = .ok (.aload_n 0, 1) := by decide +kernel
theorem dX12_meets_8 : decode cX12_meets 8 = .ok (.aload_n 0, 1) := by decide +kernel
theorem dX12_meets_9 : decode cX12_meets 9 = .ok (.getfield 105, 3) := by decide +kernel
theorem dX12_meets_12 : decode cX12_meets 12 = .ok (.iload_n 1, 1) := by decide +kernel
theorem dX12_meets_13 : decode cX12_meets 13 = .ok (.iaload, 1) := by decide +kernel
theorem dX12_meets_14 : decode cX12_meets 14 = .ok (.putfield 247, 3) := by decide +kernel
theorem dX12_meets_17 : decode cX12_meets 17 = .ok (.aload_n 0, 1) := by decide +kernel
theorem dX12_meets_18 : decode cX12_meets 18 = .ok (.getfield 102, 3) := by decide +kernel
theorem dX12_meets_21 : decode cX12_meets 21 = .ok (.iload_n 1, 1) := by decide +kernel
theorem dX12_meets_22 : decode cX12_meets 22 = .ok (.iaload, 1) := by decide +kernel
theorem dX12_meets_23 : decode cX12_meets 23 = .ok (.ireturn, 1) := by decide +kernel
theorem dX12_sumOf_0 : decode cX12_sumOf 0 = .ok (.iconst 0, 1) := by decide +kernel
theorem dX12_sumOf_1 : decode cX12_sumOf 1 = .ok (.istore_n 3, 1) := by decide +kernel
theorem dX12_sumOf_2 : decode cX12_sumOf 2 = .ok (.aload_n 0, 1) := by decide +kernel
theorem dX12_sumOf_3 : decode cX12_sumOf 3 = .ok (.getfield 71, 3) := by decide +kernel
theorem dX12_sumOf_6 : decode cX12_sumOf 6 = .ok (.iload_n 1, 1) := by decide +kernel
theorem dX12_sumOf_7 : decode cX12_sumOf 7 = .ok (.iaload, 1) := by decide +kernel
theorem dX12_sumOf_8 : decode cX12_sumOf 8 = .ok (.istore 4, 2) := by decide +kernel
theorem dX12_sumOf_10 : decode cX12_sumOf 10 = .ok (.iload 4, 2) := by decide +kernel
theorem dX12_sumOf_12 : decode cX12_sumOf 12 = .ok (.aload_n 0, 1) := by decide +kernel
theorem dX12_sumOf_13 : decode cX12_sumOf 13 = .ok (.getfield 71, 3) := by decide +kernel
theorem dX12_sumOf_16 : decode cX12_sumOf 16 = .ok (.iload_n 2, 1) := by decide +kernel
theorem dX12_sumOf_17 : decode cX12_sumOf 17 = .ok (.iaload, 1) := by decide +kernel
theorem dX12_sumOf_18 : decode cX12_sumOf 18 = .ok (.if_icmp .gt 49, 3) := by decide +kernel
theorem dX12_sumOf_21 : decode cX12_sumOf 21 = .ok (.aload_n 0, 1) := by decide +kernel
theorem dX12_sumOf_22 : decode cX12_sumOf 22 = .ok (.getfield 68, 3) := by decide +kernel
theorem dX12_sumOf_25 : decode cX12_sumOf 25 = .ok (.iload_n 1, 1) := by decide +kernel
theorem dX12_sumOf_26 : decode cX12_sumOf 26 = .ok (.iaload, 1) := by decide +kernel
theorem dX12_sumOf_27 : decode cX12_sumOf 27 = .ok (.istore 5, 2) := by decide +kernel
theorem dX12_sumOf_29 : decode cX12_sumOf 29 = .ok (.iload 5, 2) := by decide +kernel
theorem dX12_sumOf_31 : decode cX12_sumOf 31 = .ok (.aload_n 0, 1) := by decide +kernel
theorem dX12_sumOf_32 : decode cX12_sumOf 32 = .ok (.getfield 68, 3) := by decide +kernel
theorem dX12_sumOf_35 : decode cX12_sumOf 35 = .ok (.iload_n 2, 1) := by decide +kernel
theorem dX12_sumOf_36 : decode cX12_sumOf 36 = .ok (.iaload, 1) := by decide +kernel
theorem dX12_sumOf_37 : decode cX12_sumOf 37 = .ok (.if_icmp .gt 24, 3) := by decide +kernel
theorem dX12_sumOf_40 : decode cX12_sumOf 40 = .ok (.iload_n 3, 1) := by decide +kernel
theorem dX12_sumOf_41 : decode cX12_sumOf 41 = .ok (.aload_n 0, 1) := by decide +kernel
theorem dX12_sumOf_42 : decode cX12_sumOf 42 = .ok (.bipush 12, 2) := by decide +kernel
theorem dX12_sumOf_44 : decode cX12_sumOf 44 = .ok (.iload 4, 2) := by decide +kernel
theorem dX12_sumOf_46 : decode cX12_sumOf 46 = .ok (.imul, 1) := by decide +kernel
theorem dX12_sumOf_47 : decode cX12_sumOf 47 = .ok (.iload 5, 2) := by decide +kernel
theorem dX12_sumOf_49 : decode cX12_sumOf 49 = .ok (.iadd, 1) := by decide +kernel
theorem dX12_sumOf_50 : decode cX12_sumOf 50 = .ok (.invokevirtual 279, 3) := by decide +kernel
theorem dX12_sumOf_53 : decode cX12_sumOf 53 = .ok (.iadd, 1) := by decide +kernel
theorem dX12_sumOf_54 : decode cX12_sumOf 54 = .ok (.istore_n 3, 1) := by decide +kernel
theorem dX12_sumOf_55 : decode cX12_sumOf 55 = .ok (.iinc 5 1, 3) := by decide +kernel
theorem dX12_sumOf_58 : decode cX12_sumOf 58 = .ok (.goto (-29), 3) := by decide +kernel
theorem dX12_sumOf_61 : decode cX12_sumOf 61 = .ok (.iinc 4 1, 3) := by decide +kernel
theorem dX12_sumOf_64 : decode cX12_sumOf 64 = .ok (.goto (-54), 3) := by decide +kernel
theorem dX12_sumOf_67 : decode cX12_sumOf 67 = .ok (.iload_n 3, 1) := by decide +kernel
theorem dX12_sumOf_68 : decode cX12_sumOf 68 = .ok (.ireturn, 1) := by decide +kernel
theorem dX12_pushUnit_0 : decode cX12_pushUnit 0 = .ok (.aload_n 0, 1) := by decide +kernel
theorem dX12_pushUnit_1 : decode cX12_pushUnit 1 = .ok (.getfield 127, 3) := by decide +kernel
theorem dX12_pushUnit_4 : decode cX12_pushUnit 4 = .ok (.aload_n 0, 1) := by decide +kernel
theorem dX12_pushUnit_5 : decode cX12_pushUnit 5 = .ok (.getfield 258, 3) := by decide +kernel
theorem dX12_pushUnit_8 : decode cX12_pushUnit 8 = .ok (.iload_n 1, 1) := by decide +kernel
theorem dX12_pushUnit_9 : decode cX12_pushUnit 9 = .ok (.iastore, 1) := by decide +kernel
theorem dX12_pushUnit_10 : decode cX12_pushUnit 10 = .ok (.aload_n 0, 1) := by decide +kernel
theorem dX12_pushUnit_11 : decode cX12_pushUnit 11 = .ok (.getfield 127, 3) := by decide +kernel
theorem dX12_pushUnit_14 : decode cX12_pushUnit 14 = .ok (.aload_n 0, 1) := by decide +kernel
theorem dX12_pushUnit_15 : decode cX12_pushUnit 15 = .ok (.getfield 258, 3) := by decide +kernel
theorem dX12_pushUnit_18 : decode cX12_pushUnit 18 = .ok (.iconst 1, 1) := by decide +kernel
theorem dX12_pushUnit_19 : decode cX12_pushUnit 19 = .ok (.iadd, 1) := by decide +kernel
theorem dX12_pushUnit_20 : decode cX12_pushUnit 20 = .ok (.iload_n 2, 1) := by decide +kernel
theorem dX12_pushUnit_21 : decode cX12_pushUnit 21 = .ok (.iastore, 1) := by decide +kernel
theorem dX12_pushUnit_22 : decode cX12_pushUnit 22 = .ok (.aload_n 0, 1) := by decide +kernel
theorem dX12_pushUnit_23 : decode cX12_pushUnit 23 = .ok (.getfield 127, 3) := by decide +kernel
theorem dX12_pushUnit_26 : decode cX12_pushUnit 26 = .ok (.aload_n 0, 1) := by decide +kernel
theorem dX12_pushUnit_27 : decode cX12_pushUnit 27 = .ok (.getfield 258, 3) := by decide +kernel
theorem dX12_pushUnit_30 : decode cX12_pushUnit 30 = .ok (.iconst 2, 1) := by decide +kernel
theorem dX12_pushUnit_31 : decode cX12_pushUnit 31 = .ok (.iadd, 1) := by decide +kernel
theorem dX12_pushUnit_32 : decode cX12_pushUnit 32 = .ok (.iload_n 3, 1) := by decide +kernel
theorem dX12_pushUnit_33 : decode cX12_pushUnit 33 = .ok (.iastore, 1) := by decide +kernel
theorem dX12_pushUnit_34 : decode cX12_pushUnit 34 = .ok (.aload_n 0, 1) := by decide +kernel
theorem dX12_pushUnit_35 : decode cX12_pushUnit 35 = .ok (.dup, 1) := by decide +kernel
theorem dX12_pushUnit_36 : decode cX12_pushUnit 36 = .ok (.getfield 258, 3) := by decide +kernel
theorem dX12_pushUnit_39 : decode cX12_pushUnit 39 = .ok (.iconst 3, 1) := by decide +kernel
theorem dX12_pushUnit_40 : decode cX12_pushUnit 40 = .ok (.iadd, 1) := by decide +kernel
theorem dX12_pushUnit_41 : decode cX12_pushUnit 41 = .ok (.putfield 258, 3) := by decide +kernel
theorem dX12_pushUnit_44 : decode cX12_pushUnit 44 = .ok (.return_, 1) := by decide +kernel
theorem dX12_pushUnitOf_0 : decode cX12_pushUnitOf 0 = .ok (.aload_n 0, 1) := by decide +kernel
theorem dX12_pushUnitOf_1 : decode cX12_pushUnitOf 1 = .ok (.aload_n 0, 1) := by decide +kernel
theorem dX12_pushUnitOf_2 : decode cX12_pushUnitOf 2 = .ok (.getfield 108, 3) := by decide +kernel
theorem dX12_pushUnitOf_5 : decode cX12_pushUnitOf 5 = .ok (.iconst 3, 1) := by decide +kernel
theorem dX12_pushUnitOf_6 : decode cX12_pushUnitOf 6 = .ok (.iload_n 1, 1) := by decide +kernel
theorem dX12_pushUnitOf_7 : decode cX12_pushUnitOf 7 = .ok (.imul, 1) := by decide +kernel
theorem dX12_pushUnitOf_8 : decode cX12_pushUnitOf 8 = .ok (.iaload, 1) := by decide +kernel
theorem dX12_pushUnitOf_9 : decode cX12_pushUnitOf 9 = .ok (.aload_n 0, 1) := by decide +kernel
theorem dX12_pushUnitOf_10 : decode cX12_pushUnitOf 10 = .ok (.getfield 108, 3) := by decide +kernel
theorem dX12_pushUnitOf_13 : decode cX12_pushUnitOf 13 = .ok (.iconst 3, 1) := by decide +kernel
theorem dX12_pushUnitOf_14 : decode cX12_pushUnitOf 14 = .ok (.iload_n 1, 1) := by decide +kernel
theorem dX12_pushUnitOf_15 : decode cX12_pushUnitOf 15 = .ok (.imul, 1) := by decide +kernel
theorem dX12_pushUnitOf_16 : decode cX12_pushUnitOf 16 = .ok (.iconst 1, 1) := by decide +kernel
theorem dX12_pushUnitOf_17 : decode cX12_pushUnitOf 17 = .ok (.iadd, 1) := by decide +kernel
theorem dX12_pushUnitOf_18 : decode cX12_pushUnitOf 18 = .ok (.iaload, 1) := by decide +kernel
theorem dX12_pushUnitOf_19 : decode cX12_pushUnitOf 19 = .ok (.aload_n 0, 1) := by decide +kernel
theorem dX12_pushUnitOf_20 : decode cX12_pushUnitOf 20 = .ok (.getfield 108, 3) := by decide +kernel
theorem dX12_pushUnitOf_23 : decode cX12_pushUnitOf 23 = .ok (.iconst 3, 1) := by decide +kernel
theorem dX12_pushUnitOf_24 : decode cX12_pushUnitOf 24 = .ok (.iload_n 1, 1) := by decide +kernel
theorem dX12_pushUnitOf_25 : decode cX12_pushUnitOf 25 = .ok (.imul, 1) := by decide +kernel
theorem dX12_pushUnitOf_26 : decode cX12_pushUnitOf 26 = .ok (.iconst 2, 1) := by decide +kernel
theorem dX12_pushUnitOf_27 : decode cX12_pushUnitOf 27 = .ok (.iadd, 1) := by decide +kernel
theorem dX12_pushUnitOf_28 : decode cX12_pushUnitOf 28 = .ok (.iaload, 1) := by decide +kernel
theorem dX12_pushUnitOf_29 : decode cX12_pushUnitOf 29 = .ok (.invokevirtual 286, 3) := by decide +kernel
theorem dX12_pushUnitOf_32 : decode cX12_pushUnitOf 32 = .ok (.return_, 1) := by decide +kernel
theorem dX12_unitE_0 : decode cX12_unitE 0 = .ok (.aload_n 0, 1) := by decide +kernel
theorem dX12_unitE_1 : decode cX12_unitE 1 = .ok (.invokevirtual 290, 3) := by decide +kernel
theorem dX12_unitE_4 : decode cX12_unitE 4 = .ok (.aload_n 0, 1) := by decide +kernel
theorem dX12_unitE_5 : decode cX12_unitE 5 = .ok (.bipush 43, 2) := by decide +kernel
theorem dX12_unitE_7 : decode cX12_unitE 7 = .ok (.invokevirtual 273, 3) := by decide +kernel
theorem dX12_unitE_10 : decode cX12_unitE 10 = .ok (.ifCond .ne 12, 3) := by decide +kernel
theorem dX12_unitE_13 : decode cX12_unitE 13 = .ok (.aload_n 0, 1) := by decide +kernel
theorem dX12_unitE_14 : decode cX12_unitE 14 = .ok (.bipush 45, 2) := by decide +kernel
theorem dX12_unitE_16 : decode cX12_unitE 16 = .ok (.invokevirtual 273, 3) := by decide +kernel
theorem dX12_unitE_19 : decode cX12_unitE 19 = .ok (.ifCond .eq 86, 3) := by decide +kernel
theorem dX12_unitE_22 : decode cX12_unitE 22 = .ok (.aload_n 0, 1) := by decide +kernel
theorem dX12_unitE_23 : decode cX12_unitE 23 = .ok (.dup, 1) := by decide +kernel
theorem dX12_unitE_24 : decode cX12_unitE 24 = .ok (.getfield 241, 3) := by decide +kernel
theorem dX12_unitE_27 : decode cX12_unitE 27 = .ok (.iconst 1, 1) := by decide +kernel
theorem dX12_unitE_28 : decode cX12_unitE 28 = .ok (.iadd, 1) := by decide +kernel
theorem dX12_unitE_29 : decode cX12_unitE 29 = .ok (.putfield 241, 3) := by decide +kernel
theorem dX12_unitE_32 : decode cX12_unitE 32 = .ok (.aload_n 0, 1) := by decide +kernel
theorem dX12_unitE_33 : decode cX12_unitE 33 = .ok (.invokevirtual 290, 3) := by decide +kernel
theorem dX12_unitE_36 : decode cX12_unitE 36 = .ok (.aload_n 0, 1) := by decide +kernel
theorem dX12_unitE_37 : decode cX12_unitE 37 = .ok (.dup, 1) := by decide +kernel
theorem dX12_unitE_38 : decode cX12_unitE 38 = .ok (.getfield 258, 3) := by decide +kernel
theorem dX12_unitE_41 : decode cX12_unitE 41 = .ok (.iconst 3, 1) := by decide +kernel
theorem dX12_unitE_42 : decode cX12_unitE 42 = .ok (.isub, 1) := by decide +kernel
theorem dX12_unitE_43 : decode cX12_unitE 43 = .ok (.putfield 258, 3) := by decide +kernel
theorem dX12_unitE_46 : decode cX12_unitE 46 = .ok (.iconst 0, 1) := by decide +kernel
theorem dX12_unitE_47 : decode cX12_unitE 47 = .ok (.istore_n 1, 1) := by decide +kernel
theorem dX12_unitE_48 : decode cX12_unitE 48 = .ok (.iload_n 1, 1) := by decide +kernel
theorem dX12_unitE_49 : decode cX12_unitE 49 = .ok (.iconst 3, 1) := by decide +kernel
theorem dX12_unitE_50 : decode cX12_unitE 50 = .ok (.if_icmp .ge 52, 3) := by decide +kernel
theorem dX12_unitE_53 : decode cX12_unitE 53 = .ok (.aload_n 0, 1) := by decide +kernel
theorem dX12_unitE_54 : decode cX12_unitE 54 = .ok (.aload_n 0, 1) := by decide +kernel
theorem dX12_unitE_55 : decode cX12_unitE 55 = .ok (.getfield 254, 3) := by decide +kernel
theorem dX12_unitE_58 : decode cX12_unitE 58 = .ok (.ifCond .ne 30, 3) := by decide +kernel
theorem dX12_unitE_61 : decode cX12_unitE 61 = .ok (.aload_n 0, 1) := by decide +kernel
theorem dX12_unitE_62 : decode cX12_unitE 62 = .ok (.getfield 127, 3) := by decide +kernel
theorem dX12_unitE_65 : decode cX12_unitE 65 = .ok (.aload_n 0, 1) := by decide +kernel
theorem dX12_unitE_66 : decode cX12_unitE 66 = .ok (.getfield 258, 3) := by decide +kernel
theorem dX12_unitE_69 : decode cX12_unitE 69 = .ok (.iconst 3, 1) := by decide +kernel
theorem dX12_unitE_70 : decode cX12_unitE 70 = .ok (.isub, 1) := by decide +kernel
theorem dX12_unitE_71 : decode cX12_unitE 71 = .ok (.iload_n 1, 1) := by decide +kernel
theorem dX12_unitE_72 : decode cX12_unitE 72 = .ok (.iadd, 1) := by decide +kernel
theorem dX12_unitE_73 : decode cX12_unitE 73 = .ok (.iaload, 1) := by decide +kernel
theorem dX12_unitE_74 : decode cX12_unitE 74 = .ok (.aload_n 0, 1) := by decide +kernel
theorem dX12_unitE_75 : decode cX12_unitE 75 = .ok (.getfield 127, 3) := by decide +kernel
theorem dX12_unitE_78 : decode cX12_unitE 78 = .ok (.aload_n 0, 1) := by decide +kernel
theorem dX12_unitE_79 : decode cX12_unitE 79 = .ok (.getfield 258, 3) := by decide +kernel
theorem dX12_unitE_82 : decode cX12_unitE 82 = .ok (.iload_n 1, 1) := by decide +kernel
theorem dX12_unitE_83 : decode cX12_unitE 83 = .ok (.iadd, 1) := by decide +kernel
theorem dX12_unitE_84 : decode cX12_unitE 84 = .ok (.iaload, 1) := by decide +kernel
theorem dX12_unitE_85 : decode cX12_unitE 85 = .ok (.if_icmp .eq 7, 3) := by decide +kernel
theorem dX12_unitE_88 : decode cX12_unitE 88 = .ok (.iconst 1, 1) := by decide +kernel
theorem dX12_unitE_89 : decode cX12_unitE 89 = .ok (.goto 4, 3) := by decide +kernel
theorem dX12_unitE_92 : decode cX12_unitE 92 = .ok (.iconst 0, 1) := by decide +kernel
theorem dX12_unitE_93 : decode cX12_unitE 93 = .ok (.putfield 254, 3) := by decide +kernel
theorem dX12_unitE_96 : decode cX12_unitE 96 = .ok (.iinc 1 1, 3) := by decide +kernel
theorem dX12_unitE_99 : decode cX12_unitE 99 = .ok (.goto (-51), 3) := by decide +kernel
theorem dX12_unitE_102 : decode cX12_unitE 102 = .ok (.goto (-98), 3) := by decide +kernel
theorem dX12_unitE_105 : decode cX12_unitE 105 = .ok (.return_, 1) := by decide +kernel
theorem dX12_unitProduct_0 : decode cX12_unitProduct 0 = .ok (.aload_n 0, 1) := by decide +kernel
theorem dX12_unitProduct_1 : decode cX12_unitProduct 1 = .ok (.invokevirtual 293, 3) := by decide +kernel
theorem dX12_unitProduct_4 : decode cX12_unitProduct 4 = .ok (.aload_n 0, 1) := by decide +kernel
theorem dX12_unitProduct_5 : decode cX12_unitProduct 5 = .ok (.bipush 42, 2) := by decide +kernel
theorem dX12_unitProduct_7 : decode cX12_unitProduct 7 = .ok (.invokevirtual 273, 3) := by decide +kernel
theorem dX12_unitProduct_10 : decode cX12_unitProduct 10 = .ok (.ifCond .ne 12, 3) := by decide +kernel
theorem dX12_unitProduct_13 : decode cX12_unitProduct 13 = .ok (.aload_n 0, 1) := by decide +kernel
theorem dX12_unitProduct_14 : decode cX12_unitProduct 14 = .ok (.bipush 47, 2) := by decide +kernel
theorem dX12_unitProduct_16 : decode cX12_unitProduct 16 = .ok (.invokevirtual 273, 3) := by decide +kernel
theorem dX12_unitProduct_19 : decode cX12_unitProduct 19 = .ok (.ifCond .eq 87, 3) := by decide +kernel
theorem dX12_unitProduct_22 : decode cX12_unitProduct 22 = .ok (.aload_n 0, 1) := by decide +kernel
theorem dX12_unitProduct_23 : decode cX12_unitProduct 23 = .ok (.bipush 42, 2) := by decide +kernel
theorem dX12_unitProduct_25 : decode cX12_unitProduct 25 = .ok (.invokevirtual 273, 3) := by decide +kernel
theorem dX12_unitProduct_28 : decode cX12_unitProduct 28 = .ok (.ifCond .eq 7, 3) := by decide +kernel
theorem dX12_unitProduct_31 : decode cX12_unitProduct 31 = .ok (.iconst 1, 1) := by decide +kernel
theorem dX12_unitProduct_32 : decode cX12_unitProduct 32 = .ok (.goto 4, 3) := by decide +kernel
theorem dX12_unitProduct_35 : decode cX12_unitProduct 35 = .ok (.iconst (-1), 1) := by decide +kernel
theorem dX12_unitProduct_36 : decode cX12_unitProduct 36 = .ok (.istore_n 1, 1) := by decide +kernel
theorem dX12_unitProduct_37 : decode cX12_unitProduct 37 = .ok (.aload_n 0, 1) := by decide +kernel
theorem dX12_unitProduct_38 : decode cX12_unitProduct 38 = .ok (.dup, 1) := by decide +kernel
theorem dX12_unitProduct_39 : decode cX12_unitProduct 39 = .ok (.getfield 241, 3) := by decide +kernel
theorem dX12_unitProduct_42 : decode cX12_unitProduct 42 = .ok (.iconst 1, 1) := by decide +kernel
theorem dX12_unitProduct_43 : decode cX12_unitProduct 43 = .ok (.iadd, 1) := by decide +kernel
theorem dX12_unitProduct_44 : decode cX12_unitProduct 44 = .ok (.putfield 241, 3) := by decide +kernel
theorem dX12_unitProduct_47 : decode cX12_unitProduct 47 = .ok (.aload_n 0, 1) := by decide +kernel
theorem dX12_unitProduct_48 : decode cX12_unitProduct 48 = .ok (.invokevirtual 293, 3) := by decide +kernel
theorem dX12_unitProduct_51 : decode cX12_unitProduct 51 = .ok (.aload_n 0, 1) := by decide +kernel
theorem dX12_unitProduct_52 : decode cX12_unitProduct 52 = .ok (.dup, 1) := by decide +kernel
theorem dX12_unitProduct_53 : decode cX12_unitProduct 53 = .ok (.getfield 258, 3) := by decide +kernel
theorem dX12_unitProduct_56 : decode cX12_unitProduct 56 = .ok (.iconst 3, 1) := by decide +kernel
theorem dX12_unitProduct_57 : decode cX12_unitProduct 57 = .ok (.isub, 1) := by decide +kernel
theorem dX12_unitProduct_58 : decode cX12_unitProduct 58 = .ok (.putfield 258, 3) := by decide +kernel
theorem dX12_unitProduct_61 : decode cX12_unitProduct 61 = .ok (.iconst 0, 1) := by decide +kernel
theorem dX12_unitProduct_62 : decode cX12_unitProduct 62 = .ok (.istore_n 2, 1) := by decide +kernel
theorem dX12_unitProduct_63 : decode cX12_unitProduct 63 = .ok (.iload_n 2, 1) := by decide +kernel
theorem dX12_unitProduct_64 : decode cX12_unitProduct 64 = .ok (.iconst 3, 1) := by decide +kernel
theorem dX12_unitProduct_65 : decode cX12_unitProduct 65 = .ok (.if_icmp .ge 38, 3) := by decide +kernel
theorem dX12_unitProduct_68 : decode cX12_unitProduct 68 = .ok (.aload_n 0, 1) := by decide +kernel
theorem dX12_unitProduct_69 : decode cX12_unitProduct 69 = .ok (.getfield 127, 3) := by decide +kernel
theorem dX12_unitProduct_72 : decode cX12_unitProduct 72 = .ok (.aload_n 0, 1) := by decide +kernel
theorem dX12_unitProduct_73 : decode cX12_unitProduct 73 = .ok (.getfield 258, 3) := by decide +kernel
theorem dX12_unitProduct_76 : decode cX12_unitProduct 76 = .ok (.iconst 3, 1) := by decide +kernel
theorem dX12_unitProduct_77 : decode cX12_unitProduct 77 = .ok (.isub, 1) := by decide +kernel
theorem dX12_unitProduct_78 : decode cX12_unitProduct 78 = .ok (.iload_n 2, 1) := by decide +kernel
theorem dX12_unitProduct_79 : decode cX12_unitProduct 79 = .ok (.iadd, 1) := by decide +kernel
theorem dX12_unitProduct_80 : decode cX12_unitProduct 80 = .ok (.dup2, 1) := by decide +kernel
theorem dX12_unitProduct_81 : decode cX12_unitProduct 81 = .ok (.iaload, 1) := by decide +kernel
theorem dX12_unitProduct_82 : decode cX12_unitProduct 82 = .ok (.iload_n 1, 1) := by decide +kernel
theorem dX12_unitProduct_83 : decode cX12_unitProduct 83 = .ok (.aload_n 0, 1) := by decide +kernel
theorem dX12_unitProduct_84 : decode cX12_unitProduct 84 = .ok (.getfield 127, 3) := by decide +kernel
theorem dX12_unitProduct_87 : decode cX12_unitProduct 87 = .ok (.aload_n 0, 1) := by decide +kernel
theorem dX12_unitProduct_88 : decode cX12_unitProduct 88 = .ok (.getfield 258, 3) := by decide +kernel
theorem dX12_unitProduct_91 : decode cX12_unitProduct 91 = .ok (.iload_n 2, 1) := by decide +kernel
theorem dX12_unitProduct_92 : decode cX12_unitProduct 92 = .ok (.iadd, 1) := by decide +kernel
theorem dX12_unitProduct_93 : decode cX12_unitProduct 93 = .ok (.iaload, 1) := by decide +kernel
theorem dX12_unitProduct_94 : decode cX12_unitProduct 94 = .ok (.imul, 1) := by decide +kernel
theorem dX12_unitProduct_95 : decode cX12_unitProduct 95 = .ok (.iadd, 1) := by decide +kernel
theorem dX12_unitProduct_96 : decode cX12_unitProduct 96 = .ok (.iastore, 1) := by decide +kernel
theorem dX12_unitProduct_97 : decode cX12_unitProduct 97 = .ok (.iinc 2 1, 3) := by decide +kernel
theorem dX12_unitProduct_100 : decode cX12_unitProduct 100 = .ok (.goto (-37), 3) := by decide +kernel
theorem dX12_unitProduct_103 : decode cX12_unitProduct 103 = .ok (.goto (-99), 3) := by decide +kernel
theorem dX12_unitProduct_106 : decode cX12_unitProduct 106 = .ok (.return_, 1) := by decide +kernel
theorem dX12_unitPart_0 : decode cX12_unitPart 0 = .ok (.aload_n 0, 1) := by decide +kernel
theorem dX12_unitPart_1 : decode cX12_unitPart 1 = .ok (.getfield 241, 3) := by decide +kernel
theorem dX12_unitPart_4 : decode cX12_unitPart 4 = .ok (.istore_n 1, 1) := by decide +kernel
theorem dX12_unitPart_5 : decode cX12_unitPart 5 = .ok (.aload_n 0, 1) := by decide +kernel
theorem dX12_unitPart_6 : decode cX12_unitPart 6 = .ok (.dup, 1) := by decide +kernel
theorem dX12_unitPart_7 : decode cX12_unitPart 7 = .ok (.getfield 241, 3) := by decide +kernel
theorem dX12_unitPart_10 : decode cX12_unitPart 10 = .ok (.iconst 1, 1) := by decide +kernel
theorem dX12_unitPart_11 : decode cX12_unitPart 11 = .ok (.iadd, 1) := by decide +kernel
theorem dX12_unitPart_12 : decode cX12_unitPart 12 = .ok (.putfield 241, 3) := by decide +kernel
theorem dX12_unitPart_15 : decode cX12_unitPart 15 = .ok (.aload_n 0, 1) := by decide +kernel
theorem dX12_unitPart_16 : decode cX12_unitPart 16 = .ok (.getfield 65, 3) := by decide +kernel
theorem dX12_unitPart_19 : decode cX12_unitPart 19 = .ok (.iload_n 1, 1) := by decide +kernel
theorem dX12_unitPart_20 : decode cX12_unitPart 20 = .ok (.iaload, 1) := by decide +kernel
theorem dX12_unitPart_21 : decode cX12_unitPart 21 = .ok (.ifCond .ne 13, 3) := by decide +kernel
theorem dX12_unitPart_24 : decode cX12_unitPart 24 = .ok (.aload_n 0, 1) := by decide +kernel
theorem dX12_unitPart_25 : decode cX12_unitPart 25 = .ok (.iconst 0, 1) := by decide +kernel
theorem dX12_unitPart_26 : decode cX12_unitPart 26 = .ok (.iconst 0, 1) := by decide +kernel
theorem dX12_unitPart_27 : decode cX12_unitPart 27 = .ok (.iconst 0, 1) := by decide +kernel
theorem dX12_unitPart_28 : decode cX12_unitPart 28 = .ok (.invokevirtual 286, 3) := by decide +kernel
theorem dX12_unitPart_31 : decode cX12_unitPart 31 = .ok (.goto 99, 3) := by decide +kernel
theorem dX12_unitPart_34 : decode cX12_unitPart 34 = .ok (.aload_n 0, 1) := by decide +kernel
theorem dX12_unitPart_35 : decode cX12_unitPart 35 = .ok (.getfield 65, 3) := by decide +kernel
theorem dX12_unitPart_38 : decode cX12_unitPart 38 = .ok (.iload_n 1, 1) := by decide +kernel
theorem dX12_unitPart_39 : decode cX12_unitPart 39 = .ok (.iaload, 1) := by decide +kernel
theorem dX12_unitPart_40 : decode cX12_unitPart 40 = .ok (.iconst 3, 1) := by decide +kernel
theorem dX12_unitPart_41 : decode cX12_unitPart 41 = .ok (.if_icmp .ne 26, 3) := by decide +kernel
theorem dX12_unitPart_44 : decode cX12_unitPart 44 = .ok (.aload_n 0, 1) := by decide +kernel
theorem dX12_unitPart_45 : decode cX12_unitPart 45 = .ok (.bipush 12, 2) := by decide +kernel
theorem dX12_unitPart_47 : decode cX12_unitPart 47 = .ok (.aload_n 0, 1) := by decide +kernel
theorem dX12_unitPart_48 : decode cX12_unitPart 48 = .ok (.getfield 71, 3) := by decide +kernel
theorem dX12_unitPart_51 : decode cX12_unitPart 51 = .ok (.iload_n 1, 1) := by decide +kernel
theorem dX12_unitPart_52 : decode cX12_unitPart 52 = .ok (.iaload, 1) := by decide +kernel
theorem dX12_unitPart_53 : decode cX12_unitPart 53 = .ok (.imul, 1) := by decide +kernel
theorem dX12_unitPart_54 : decode cX12_unitPart 54 = .ok (.aload_n 0, 1) := by decide +kernel
theorem dX12_unitPart_55 : decode cX12_unitPart 55 = .ok (.getfield 68, 3) := by decide +kernel
theorem dX12_unitPart_58 : decode cX12_unitPart 58 = .ok (.iload_n 1, 1) := by decide +kernel
theorem dX12_unitPart_59 : decode cX12_unitPart 59 = .ok (.iaload, 1) := by decide +kernel
theorem dX12_unitPart_60 : decode cX12_unitPart 60 = .ok (.iadd, 1) := by decide +kernel
theorem dX12_unitPart_61 : decode cX12_unitPart 61 = .ok (.invokevirtual 296, 3) := by decide +kernel
theorem dX12_unitPart_64 : decode cX12_unitPart 64 = .ok (.goto 66, 3) := by decide +kernel
theorem dX12_unitPart_67 : decode cX12_unitPart 67 = .ok (.aload_n 0, 1) := by decide +kernel
theorem dX12_unitPart_68 : decode cX12_unitPart 68 = .ok (.getfield 65, 3) := by decide +kernel
theorem dX12_unitPart_71 : decode cX12_unitPart 71 = .ok (.iload_n 1, 1) := by decide +kernel
theorem dX12_unitPart_72 : decode cX12_unitPart 72 = .ok (.iaload, 1) := by decide +kernel
theorem dX12_unitPart_73 : decode cX12_unitPart 73 = .ok (.iconst 2, 1) := by decide +kernel
theorem dX12_unitPart_74 : decode cX12_unitPart 74 = .ok (.if_icmp .ne 24, 3) := by decide +kernel
theorem dX12_unitPart_77 : decode cX12_unitPart 77 = .ok (.aload_n 0, 1) := by decide +kernel
theorem dX12_unitPart_78 : decode cX12_unitPart 78 = .ok (.iload_n 1, 1) := by decide +kernel
theorem dX12_unitPart_79 : decode cX12_unitPart 79 = .ok (.bipush 6, 2) := by decide +kernel
theorem dX12_unitPart_81 : decode cX12_unitPart 81 = .ok (.iadd, 1) := by decide +kernel
theorem dX12_unitPart_82 : decode cX12_unitPart 82 = .ok (.putfield 241, 3) := by decide +kernel
theorem dX12_unitPart_85 : decode cX12_unitPart 85 = .ok (.aload_n 0, 1) := by decide +kernel
theorem dX12_unitPart_86 : decode cX12_unitPart 86 = .ok (.iload_n 1, 1) := by decide +kernel
theorem dX12_unitPart_87 : decode cX12_unitPart 87 = .ok (.iconst 2, 1) := by decide +kernel
theorem dX12_unitPart_88 : decode cX12_unitPart 88 = .ok (.iadd, 1) := by decide +kernel
theorem dX12_unitPart_89 : decode cX12_unitPart 89 = .ok (.iload_n 1, 1) := by decide +kernel
theorem dX12_unitPart_90 : decode cX12_unitPart 90 = .ok (.iconst 4, 1) := by decide +kernel
theorem dX12_unitPart_91 : decode cX12_unitPart 91 = .ok (.iadd, 1) := by decide +kernel
theorem dX12_unitPart_92 : decode cX12_unitPart 92 = .ok (.invokevirtual 299, 3) := by decide +kernel
theorem dX12_unitPart_95 : decode cX12_unitPart 95 = .ok (.goto 35, 3) := by decide +kernel
theorem dX12_unitPart_98 : decode cX12_unitPart 98 = .ok (.aload_n 0, 1) := by decide +kernel
theorem dX12_unitPart_99 : decode cX12_unitPart 99 = .ok (.getfield 68, 3) := by decide +kernel
theorem dX12_unitPart_102 : decode cX12_unitPart 102 = .ok (.iload_n 1, 1) := by decide +kernel
theorem dX12_unitPart_103 : decode cX12_unitPart 103 = .ok (.iaload, 1) := by decide +kernel
theorem dX12_unitPart_104 : decode cX12_unitPart 104 = .ok (.bipush 45, 2) := by decide +kernel
theorem dX12_unitPart_106 : decode cX12_unitPart 106 = .ok (.if_icmp .ne 10, 3) := by decide +kernel
theorem dX12_unitPart_109 : decode cX12_unitPart 109 = .ok (.aload_n 0, 1) := by decide +kernel
theorem dX12_unitPart_110 : decode cX12_unitPart 110 = .ok (.invokevirtual 293, 3) := by decide +kernel
theorem dX12_unitPart_113 : decode cX12_unitPart 113 = .ok (.goto 17, 3) := by decide +kernel
theorem dX12_unitPart_116 : decode cX12_unitPart 116 = .ok (.aload_n 0, 1) := by decide +kernel
theorem dX12_unitPart_117 : decode cX12_unitPart 117 = .ok (.invokevirtual 261, 3) := by decide +kernel
theorem dX12_unitPart_120 : decode cX12_unitPart 120 = .ok (.aload_n 0, 1) := by decide +kernel
theorem dX12_unitPart_121 : decode cX12_unitPart 121 = .ok (.dup, 1) := by decide +kernel
theorem dX12_unitPart_122 : decode cX12_unitPart 122 = .ok (.getfield 241, 3) := by decide +kernel
theorem dX12_unitPart_125 : decode cX12_unitPart 125 = .ok (.iconst 1, 1) := by decide +kernel
theorem dX12_unitPart_126 : decode cX12_unitPart 126 = .ok (.iadd, 1) := by decide +kernel
theorem dX12_unitPart_127 : decode cX12_unitPart 127 = .ok (.putfield 241, 3) := by decide +kernel
theorem dX12_unitPart_130 : decode cX12_unitPart 130 = .ok (.return_, 1) := by decide +kernel
theorem dX12_unitSum_0 : decode cX12_unitSum 0 = .ok (.iconst (-1), 1) := by decide +kernel
theorem dX12_unitSum_1 : decode cX12_unitSum 1 = .ok (.istore_n 3, 1) := by decide +kernel
theorem dX12_unitSum_2 : decode cX12_unitSum 2 = .ok (.aload_n 0, 1) := by decide +kernel
theorem dX12_unitSum_3 : decode cX12_unitSum 3 = .ok (.getfield 71, 3) := by decide +kernel
theorem dX12_unitSum_6 : decode cX12_unitSum 6 = .ok (.iload_n 1, 1) := by decide +kernel
theorem dX12_unitSum_7 : decode cX12_unitSum 7 = .ok (.iaload, 1) := by decide +kernel
theorem dX12_unitSum_8 : decode cX12_unitSum 8 = .ok (.istore 4, 2) := by decide +kernel
theorem dX12_unitSum_10 : decode cX12_unitSum 10 = .ok (.iload 4, 2) := by decide +kernel
theorem dX12_unitSum_12 : decode cX12_unitSum 12 = .ok (.aload_n 0, 1) := by decide +kernel
theorem dX12_unitSum_13 : decode cX12_unitSum 13 = .ok (.getfield 71, 3) := by decide +kernel
theorem dX12_unitSum_16 : decode cX12_unitSum 16 = .ok (.iload_n 2, 1) := by decide +kernel
theorem dX12_unitSum_17 : decode cX12_unitSum 17 = .ok (.iaload, 1) := by decide +kernel
theorem dX12_unitSum_18 : decode cX12_unitSum 18 = .ok (.if_icmp .gt 100, 3) := by decide +kernel
theorem dX12_unitSum_21 : decode cX12_unitSum 21 = .ok (.aload_n 0, 1) := by decide +kernel
theorem dX12_unitSum_22 : decode cX12_unitSum 22 = .ok (.getfield 68, 3) := by decide +kernel
theorem dX12_unitSum_25 : decode cX12_unitSum 25 = .ok (.iload_n 1, 1) := by decide +kernel
theorem dX12_unitSum_26 : decode cX12_unitSum 26 = .ok (.iaload, 1) := by decide +kernel
theorem dX12_unitSum_27 : decode cX12_unitSum 27 = .ok (.istore 5, 2) := by decide +kernel
theorem dX12_unitSum_29 : decode cX12_unitSum 29 = .ok (.iload 5, 2) := by decide +kernel
theorem dX12_unitSum_31 : decode cX12_unitSum 31 = .ok (.aload_n 0, 1) := by decide +kernel
theorem dX12_unitSum_32 : decode cX12_unitSum 32 = .ok (.getfield 68, 3) := by decide +kernel
theorem dX12_unitSum_35 : decode cX12_unitSum 35 = .ok (.iload_n 2, 1) := by decide +kernel
theorem dX12_unitSum_36 : decode cX12_unitSum 36 = .ok (.iaload, 1) := by decide +kernel
theorem dX12_unitSum_37 : decode cX12_unitSum 37 = .ok (.if_icmp .gt 75, 3) := by decide +kernel
theorem dX12_unitSum_40 : decode cX12_unitSum 40 = .ok (.bipush 12, 2) := by decide +kernel
theorem dX12_unitSum_42 : decode cX12_unitSum 42 = .ok (.iload 4, 2) := by decide +kernel
theorem dX12_unitSum_44 : decode cX12_unitSum 44 = .ok (.imul, 1) := by decide +kernel
theorem dX12_unitSum_45 : decode cX12_unitSum 45 = .ok (.iload 5, 2) := by decide +kernel
theorem dX12_unitSum_47 : decode cX12_unitSum 47 = .ok (.iadd, 1) := by decide +kernel
theorem dX12_unitSum_48 : decode cX12_unitSum 48 = .ok (.istore 6, 2) := by decide +kernel
theorem dX12_unitSum_50 : decode cX12_unitSum 50 = .ok (.aload_n 0, 1) := by decide +kernel
theorem dX12_unitSum_51 : decode cX12_unitSum 51 = .ok (.getfield 80, 3) := by decide +kernel
theorem dX12_unitSum_54 : decode cX12_unitSum 54 = .ok (.iload 6, 2) := by decide +kernel
theorem dX12_unitSum_56 : decode cX12_unitSum 56 = .ok (.iaload, 1) := by decide +kernel
theorem dX12_unitSum_57 : decode cX12_unitSum 57 = .ok (.ifCond .eq 13, 3) := by decide +kernel
theorem dX12_unitSum_60 : decode cX12_unitSum 60 = .ok (.iload_n 3, 1) := by decide +kernel
theorem dX12_unitSum_61 : decode cX12_unitSum 61 = .ok (.ifCond .ge 9, 3) := by decide +kernel
theorem dX12_unitSum_64 : decode cX12_unitSum 64 = .ok (.iload 6, 2) := by decide +kernel
theorem dX12_unitSum_66 : decode cX12_unitSum 66 = .ok (.istore_n 3, 1) := by decide +kernel
theorem dX12_unitSum_67 : decode cX12_unitSum 67 = .ok (.goto 39, 3) := by decide +kernel
theorem dX12_unitSum_70 : decode cX12_unitSum 70 = .ok (.aload_n 0, 1) := by decide +kernel
theorem dX12_unitSum_71 : decode cX12_unitSum 71 = .ok (.getfield 80, 3) := by decide +kernel
theorem dX12_unitSum_74 : decode cX12_unitSum 74 = .ok (.iload 6, 2) := by decide +kernel
theorem dX12_unitSum_76 : decode cX12_unitSum 76 = .ok (.iaload, 1) := by decide +kernel
theorem dX12_unitSum_77 : decode cX12_unitSum 77 = .ok (.ifCond .eq 29, 3) := by decide +kernel
theorem dX12_unitSum_80 : decode cX12_unitSum 80 = .ok (.aload_n 0, 1) := by decide +kernel
theorem dX12_unitSum_81 : decode cX12_unitSum 81 = .ok (.aload_n 0, 1) := by decide +kernel
theorem dX12_unitSum_82 : decode cX12_unitSum 82 = .ok (.getfield 254, 3) := by decide +kernel
theorem dX12_unitSum_85 : decode cX12_unitSum 85 = .ok (.ifCond .ne 13, 3) := by decide +kernel
theorem dX12_unitSum_88 : decode cX12_unitSum 88 = .ok (.aload_n 0, 1) := by decide +kernel
theorem dX12_unitSum_89 : decode cX12_unitSum 89 = .ok (.iload_n 3, 1) := by decide +kernel
theorem dX12_unitSum_90 : decode cX12_unitSum 90 = .ok (.iload 6, 2) := by decide +kernel
theorem dX12_unitSum_92 : decode cX12_unitSum 92 = .ok (.invokevirtual 302, 3) := by decide +kernel
theorem dX12_unitSum_95 : decode cX12_unitSum 95 = .ok (.ifCond .ne 7, 3) := by decide +kernel
theorem dX12_unitSum_98 : decode cX12_unitSum 98 = .ok (.iconst 1, 1) := by decide +kernel
theorem dX12_unitSum_99 : decode cX12_unitSum 99 = .ok (.goto 4, 3) := by decide +kernel
theorem dX12_unitSum_102 : decode cX12_unitSum 102 = .ok (.iconst 0, 1) := by decide +kernel
theorem dX12_unitSum_103 : decode cX12_unitSum 103 = .ok (.putfield 254, 3) := by decide +kernel
theorem dX12_unitSum_106 : decode cX12_unitSum 106 = .ok (.iinc 5 1, 3) := by decide +kernel
theorem dX12_unitSum_109 : decode cX12_unitSum 109 = .ok (.goto (-80), 3) := by decide +kernel
theorem dX12_unitSum_112 : decode cX12_unitSum 112 = .ok (.iinc 4 1, 3) := by decide +kernel
theorem dX12_unitSum_115 : decode cX12_unitSum 115 = .ok (.goto (-105), 3) := by decide +kernel
theorem dX12_unitSum_118 : decode cX12_unitSum 118 = .ok (.iload_n 3, 1) := by decide +kernel
theorem dX12_unitSum_119 : decode cX12_unitSum 119 = .ok (.ifCond .ge 13, 3) := by decide +kernel
theorem dX12_unitSum_122 : decode cX12_unitSum 122 = .ok (.aload_n 0, 1) := by decide +kernel
theorem dX12_unitSum_123 : decode cX12_unitSum 123 = .ok (.iconst 0, 1) := by decide +kernel
theorem dX12_unitSum_124 : decode cX12_unitSum 124 = .ok (.iconst 0, 1) := by decide +kernel
theorem dX12_unitSum_125 : decode cX12_unitSum 125 = .ok (.iconst 0, 1) := by decide +kernel
theorem dX12_unitSum_126 : decode cX12_unitSum 126 = .ok (.invokevirtual 286, 3) := by decide +kernel
theorem dX12_unitSum_129 : decode cX12_unitSum 129 = .ok (.goto 8, 3) := by decide +kernel
theorem dX12_unitSum_132 : decode cX12_unitSum 132 = .ok (.aload_n 0, 1) := by decide +kernel
theorem dX12_unitSum_133 : decode cX12_unitSum 133 = .ok (.iload_n 3, 1) := by decide +kernel
theorem dX12_unitSum_134 : decode cX12_unitSum 134 = .ok (.invokevirtual 296, 3) := by decide +kernel
theorem dX12_unitSum_137 : decode cX12_unitSum 137 = .ok (.return_, 1) := by decide +kernel
theorem dX12_isUnitSame_0 : decode cX12_isUnitSame 0 = .ok (.aload_n 0, 1) := by decide +kernel
theorem dX12_isUnitSame_1 : decode cX12_isUnitSame 1 = .ok (.getfield 108, 3) := by decide +kernel
theorem dX12_isUnitSame_4 : decode cX12_isUnitSame 4 = .ok (.iconst 3, 1) := by decide +kernel
theorem dX12_isUnitSame_5 : decode cX12_isUnitSame 5 = .ok (.iload_n 1, 1) := by decide +kernel
theorem dX12_isUnitSame_6 : decode cX12_isUnitSame 6 = .ok (.imul, 1) := by decide +kernel
theorem dX12_isUnitSame_7 : decode cX12_isUnitSame 7 = .ok (.iaload, 1) := by decide +kernel
theorem dX12_isUnitSame_8 : decode cX12_isUnitSame 8 = .ok (.aload_n 0, 1) := by decide +kernel
theorem dX12_isUnitSame_9 : decode cX12_isUnitSame 9 = .ok (.getfield 108, 3) := by decide +kernel
theorem dX12_isUnitSame_12 : decode cX12_isUnitSame 12 = .ok (.iconst 3, 1) := by decide +kernel
theorem dX12_isUnitSame_13 : decode cX12_isUnitSame 13 = .ok (.iload_n 2, 1) := by decide +kernel
theorem dX12_isUnitSame_14 : decode cX12_isUnitSame 14 = .ok (.imul, 1) := by decide +kernel
theorem dX12_isUnitSame_15 : decode cX12_isUnitSame 15 = .ok (.iaload, 1) := by decide +kernel
theorem dX12_isUnitSame_16 : decode cX12_isUnitSame 16 = .ok (.if_icmp .ne 53, 3) := by decide +kernel
theorem dX12_isUnitSame_19 : decode cX12_isUnitSame 19 = .ok (.aload_n 0, 1) := by decide +kernel
theorem dX12_isUnitSame_20 : decode cX12_isUnitSame 20 = .ok (.getfield 108, 3) := by decide +kernel
theorem dX12_isUnitSame_23 : decode cX12_isUnitSame 23 = .ok (.iconst 3, 1) := by decide +kernel
theorem dX12_isUnitSame_24 : decode cX12_isUnitSame 24 = .ok (.iload_n 1, 1) := by decide +kernel
theorem dX12_isUnitSame_25 : decode cX12_isUnitSame 25 = .ok (.imul, 1) := by decide +kernel
theorem dX12_isUnitSame_26 : decode cX12_isUnitSame 26 = .ok (.iconst 1, 1) := by decide +kernel
theorem dX12_isUnitSame_27 : decode cX12_isUnitSame 27 = .ok (.iadd, 1) := by decide +kernel
theorem dX12_isUnitSame_28 : decode cX12_isUnitSame 28 = .ok (.iaload, 1) := by decide +kernel
theorem dX12_isUnitSame_29 : decode cX12_isUnitSame 29 = .ok (.aload_n 0, 1) := by decide +kernel
theorem dX12_isUnitSame_30 : decode cX12_isUnitSame 30 = .ok (.getfield 108, 3) := by decide +kernel
theorem dX12_isUnitSame_33 : decode cX12_isUnitSame 33 = .ok (.iconst 3, 1) := by decide +kernel
theorem dX12_isUnitSame_34 : decode cX12_isUnitSame 34 = .ok (.iload_n 2, 1) := by decide +kernel
theorem dX12_isUnitSame_35 : decode cX12_isUnitSame 35 = .ok (.imul, 1) := by decide +kernel
theorem dX12_isUnitSame_36 : decode cX12_isUnitSame 36 = .ok (.iconst 1, 1) := by decide +kernel
theorem dX12_isUnitSame_37 : decode cX12_isUnitSame 37 = .ok (.iadd, 1) := by decide +kernel
theorem dX12_isUnitSame_38 : decode cX12_isUnitSame 38 = .ok (.iaload, 1) := by decide +kernel
theorem dX12_isUnitSame_39 : decode cX12_isUnitSame 39 = .ok (.if_icmp .ne 30, 3) := by decide +kernel
theorem dX12_isUnitSame_42 : decode cX12_isUnitSame 42 = .ok (.aload_n 0, 1) := by decide +kernel
theorem dX12_isUnitSame_43 : decode cX12_isUnitSame 43 = .ok (.getfield 108, 3) := by decide +kernel
theorem dX12_isUnitSame_46 : decode cX12_isUnitSame 46 = .ok (.iconst 3, 1) := by decide +kernel
theorem dX12_isUnitSame_47 : decode cX12_isUnitSame 47 = .ok (.iload_n 1, 1) := by decide +kernel
theorem dX12_isUnitSame_48 : decode cX12_isUnitSame 48 = .ok (.imul, 1) := by decide +kernel
theorem dX12_isUnitSame_49 : decode cX12_isUnitSame 49 = .ok (.iconst 2, 1) := by decide +kernel
theorem dX12_isUnitSame_50 : decode cX12_isUnitSame 50 = .ok (.iadd, 1) := by decide +kernel
theorem dX12_isUnitSame_51 : decode cX12_isUnitSame 51 = .ok (.iaload, 1) := by decide +kernel
theorem dX12_isUnitSame_52 : decode cX12_isUnitSame 52 = .ok (.aload_n 0, 1) := by decide +kernel
theorem dX12_isUnitSame_53 : decode cX12_isUnitSame 53 = .ok (.getfield 108, 3) := by decide +kernel
theorem dX12_isUnitSame_56 : decode cX12_isUnitSame 56 = .ok (.iconst 3, 1) := by decide +kernel
theorem dX12_isUnitSame_57 : decode cX12_isUnitSame 57 = .ok (.iload_n 2, 1) := by decide +kernel
theorem dX12_isUnitSame_58 : decode cX12_isUnitSame 58 = .ok (.imul, 1) := by decide +kernel
theorem dX12_isUnitSame_59 : decode cX12_isUnitSame 59 = .ok (.iconst 2, 1) := by decide +kernel
theorem dX12_isUnitSame_60 : decode cX12_isUnitSame 60 = .ok (.iadd, 1) := by decide +kernel
theorem dX12_isUnitSame_61 : decode cX12_isUnitSame 61 = .ok (.iaload, 1) := by decide +kernel
theorem dX12_isUnitSame_62 : decode cX12_isUnitSame 62 = .ok (.if_icmp .ne 7, 3) := by decide +kernel
theorem dX12_isUnitSame_65 : decode cX12_isUnitSame 65 = .ok (.iconst 1, 1) := by decide +kernel
theorem dX12_isUnitSame_66 : decode cX12_isUnitSame 66 = .ok (.goto 4, 3) := by decide +kernel
theorem dX12_isUnitSame_69 : decode cX12_isUnitSame 69 = .ok (.iconst 0, 1) := by decide +kernel
theorem dX12_isUnitSame_70 : decode cX12_isUnitSame 70 = .ok (.ireturn, 1) := by decide +kernel
theorem dX12_looksTotal_0 : decode cX12_looksTotal 0 = .ok (.bipush 120, 2) := by decide +kernel
theorem dX12_looksTotal_2 : decode cX12_looksTotal 2 = .ok (.iload_n 1, 1) := by decide +kernel
theorem dX12_looksTotal_3 : decode cX12_looksTotal 3 = .ok (.imul, 1) := by decide +kernel
theorem dX12_looksTotal_4 : decode cX12_looksTotal 4 = .ok (.istore_n 2, 1) := by decide +kernel
theorem dX12_looksTotal_5 : decode cX12_looksTotal 5 = .ok (.iload_n 2, 1) := by decide +kernel
theorem dX12_looksTotal_6 : decode cX12_looksTotal 6 = .ok (.aload_n 0, 1) := by decide +kernel
theorem dX12_looksTotal_7 : decode cX12_looksTotal 7 = .ok (.getfield 77, 3) := by decide +kernel
theorem dX12_looksTotal_10 : decode cX12_looksTotal 10 = .ok (.iload_n 1, 1) := by decide +kernel
theorem dX12_looksTotal_11 : decode cX12_looksTotal 11 = .ok (.iaload, 1) := by decide +kernel
theorem dX12_looksTotal_12 : decode cX12_looksTotal 12 = .ok (.iadd, 1) := by decide +kernel
theorem dX12_looksTotal_13 : decode cX12_looksTotal 13 = .ok (.istore_n 3, 1) := by decide +kernel
theorem dX12_looksTotal_14 : decode cX12_looksTotal 14 = .ok (.iconst 1, 1) := by decide +kernel
theorem dX12_looksTotal_15 : decode cX12_looksTotal 15 = .ok (.istore 4, 2) := by decide +kernel
theorem dX12_looksTotal_17 : decode cX12_looksTotal 17 = .ok (.iload 4, 2) := by decide +kernel
theorem dX12_looksTotal_19 : decode cX12_looksTotal 19 = .ok (.ifCond .eq 96, 3) := by decide +kernel
theorem dX12_looksTotal_22 : decode cX12_looksTotal 22 = .ok (.aload_n 0, 1) := by decide +kernel
theorem dX12_looksTotal_23 : decode cX12_looksTotal 23 = .ok (.getfield 65, 3) := by decide +kernel
theorem dX12_looksTotal_26 : decode cX12_looksTotal 26 = .ok (.iload_n 2, 1) := by decide +kernel
theorem dX12_looksTotal_27 : decode cX12_looksTotal 27 = .ok (.iaload, 1) := by decide +kernel
theorem dX12_looksTotal_28 : decode cX12_looksTotal 28 = .ok (.iconst 3, 1) := by decide +kernel
theorem dX12_looksTotal_29 : decode cX12_looksTotal 29 = .ok (.if_icmp .eq 13, 3) := by decide +kernel
theorem dX12_looksTotal_32 : decode cX12_looksTotal 32 = .ok (.aload_n 0, 1) := by decide +kernel
theorem dX12_looksTotal_33 : decode cX12_looksTotal 33 = .ok (.getfield 65, 3) := by decide +kernel
theorem dX12_looksTotal_36 : decode cX12_looksTotal 36 = .ok (.iload_n 2, 1) := by decide +kernel
theorem dX12_looksTotal_37 : decode cX12_looksTotal 37 = .ok (.iaload, 1) := by decide +kernel
theorem dX12_looksTotal_38 : decode cX12_looksTotal 38 = .ok (.iconst 2, 1) := by decide +kernel
theorem dX12_looksTotal_39 : decode cX12_looksTotal 39 = .ok (.if_icmp .ne 7, 3) := by decide +kernel
theorem dX12_looksTotal_42 : decode cX12_looksTotal 42 = .ok (.iconst 1, 1) := by decide +kernel
theorem dX12_looksTotal_43 : decode cX12_looksTotal 43 = .ok (.goto 4, 3) := by decide +kernel
theorem dX12_looksTotal_46 : decode cX12_looksTotal 46 = .ok (.iconst 0, 1) := by decide +kernel
theorem dX12_looksTotal_47 : decode cX12_looksTotal 47 = .ok (.istore 4, 2) := by decide +kernel
theorem dX12_looksTotal_49 : decode cX12_looksTotal 49 = .ok (.iload_n 2, 1) := by decide +kernel
theorem dX12_looksTotal_50 : decode cX12_looksTotal 50 = .ok (.aload_n 0, 1) := by decide +kernel
theorem dX12_looksTotal_51 : decode cX12_looksTotal 51 = .ok (.getfield 65, 3) := by decide +kernel
theorem dX12_looksTotal_54 : decode cX12_looksTotal 54 = .ok (.iload_n 2, 1) := by decide +kernel
theorem dX12_looksTotal_55 : decode cX12_looksTotal 55 = .ok (.iaload, 1) := by decide +kernel
theorem dX12_looksTotal_56 : decode cX12_looksTotal 56 = .ok (.iconst 2, 1) := by decide +kernel
theorem dX12_looksTotal_57 : decode cX12_looksTotal 57 = .ok (.if_icmp .ne 8, 3) := by decide +kernel
theorem dX12_looksTotal_60 : decode cX12_looksTotal 60 = .ok (.bipush 6, 2) := by decide +kernel
theorem dX12_looksTotal_62 : decode cX12_looksTotal 62 = .ok (.goto 4, 3) := by decide +kernel
theorem dX12_looksTotal_65 : decode cX12_looksTotal 65 = .ok (.iconst 1, 1) := by decide +kernel
theorem dX12_looksTotal_66 : decode cX12_looksTotal 66 = .ok (.iadd, 1) := by decide +kernel
theorem dX12_looksTotal_67 : decode cX12_looksTotal 67 = .ok (.istore_n 2, 1) := by decide +kernel
theorem dX12_looksTotal_68 : decode cX12_looksTotal 68 = .ok (.iload 4, 2) := by decide +kernel
theorem dX12_looksTotal_70 : decode cX12_looksTotal 70 = .ok (.ifCond .eq 8, 3) := by decide +kernel
theorem dX12_looksTotal_73 : decode cX12_looksTotal 73 = .ok (.iload_n 2, 1) := by decide +kernel
theorem dX12_looksTotal_74 : decode cX12_looksTotal 74 = .ok (.iload_n 3, 1) := by decide +kernel
theorem dX12_looksTotal_75 : decode cX12_looksTotal 75 = .ok (.if_icmp .ne 6, 3) := by decide +kernel
theorem dX12_looksTotal_78 : decode cX12_looksTotal 78 = .ok (.iload 4, 2) := by decide +kernel
theorem dX12_looksTotal_80 : decode cX12_looksTotal 80 = .ok (.ireturn, 1) := by decide +kernel
theorem dX12_looksTotal_81 : decode cX12_looksTotal 81 = .ok (.aload_n 0, 1) := by decide +kernel
theorem dX12_looksTotal_82 : decode cX12_looksTotal 82 = .ok (.getfield 65, 3) := by decide +kernel
theorem dX12_looksTotal_85 : decode cX12_looksTotal 85 = .ok (.iload_n 2, 1) := by decide +kernel
theorem dX12_looksTotal_86 : decode cX12_looksTotal 86 = .ok (.iaload, 1) := by decide +kernel
theorem dX12_looksTotal_87 : decode cX12_looksTotal 87 = .ok (.iconst 1, 1) := by decide +kernel
theorem dX12_looksTotal_88 : decode cX12_looksTotal 88 = .ok (.if_icmp .ne 18, 3) := by decide +kernel
theorem dX12_looksTotal_91 : decode cX12_looksTotal 91 = .ok (.aload_n 0, 1) := by decide +kernel
theorem dX12_looksTotal_92 : decode cX12_looksTotal 92 = .ok (.getfield 68, 3) := by decide +kernel
theorem dX12_looksTotal_95 : decode cX12_looksTotal 95 = .ok (.iload_n 2, 1) := by decide +kernel
theorem dX12_looksTotal_96 : decode cX12_looksTotal 96 = .ok (.iaload, 1) := by decide +kernel
theorem dX12_looksTotal_97 : decode cX12_looksTotal 97 = .ok (.bipush 43, 2) := by decide +kernel
theorem dX12_looksTotal_99 : decode cX12_looksTotal 99 = .ok (.if_icmp .ne 7, 3) := by decide +kernel
theorem dX12_looksTotal_102 : decode cX12_looksTotal 102 = .ok (.iconst 1, 1) := by decide +kernel
theorem dX12_looksTotal_103 : decode cX12_looksTotal 103 = .ok (.goto 4, 3) := by decide +kernel
theorem dX12_looksTotal_106 : decode cX12_looksTotal 106 = .ok (.iconst 0, 1) := by decide +kernel
theorem dX12_looksTotal_107 : decode cX12_looksTotal 107 = .ok (.istore 4, 2) := by decide +kernel
theorem dX12_looksTotal_109 : decode cX12_looksTotal 109 = .ok (.iinc 2 1, 3) := by decide +kernel
theorem dX12_looksTotal_112 : decode cX12_looksTotal 112 = .ok (.goto (-95), 3) := by decide +kernel
theorem dX12_looksTotal_115 : decode cX12_looksTotal 115 = .ok (.iconst 0, 1) := by decide +kernel
theorem dX12_looksTotal_116 : decode cX12_looksTotal 116 = .ok (.ireturn, 1) := by decide +kernel
theorem dX12_countWays_0 : decode cX12_countWays 0 = .ok (.iconst 0, 1) := by decide +kernel
theorem dX12_countWays_1 : decode cX12_countWays 1 = .ok (.istore_n 2, 1) := by decide +kernel
theorem dX12_countWays_2 : decode cX12_countWays 2 = .ok (.iload_n 2, 1) := by decide +kernel
theorem dX12_countWays_3 : decode cX12_countWays 3 = .ok (.sipush 288, 3) := by decide +kernel
theorem dX12_countWays_6 : decode cX12_countWays 6 = .ok (.if_icmp .ge 22, 3) := by decide +kernel
theorem dX12_countWays_9 : decode cX12_countWays 9 = .ok (.aload_n 0, 1) := by decide +kernel
theorem dX12_countWays_10 : decode cX12_countWays 10 = .ok (.getfield 121, 3) := by decide +kernel
theorem dX12_countWays_13 : decode cX12_countWays 13 = .ok (.sipush 288, 3) := by decide +kernel
theorem dX12_countWays_16 : decode cX12_countWays 16 = .ok (.iload_n 1, 1) := by decide +kernel
theorem dX12_countWays_17 : decode cX12_countWays 17 = .ok (.imul, 1) := by decide +kernel
theorem dX12_countWays_18 : decode cX12_countWays 18 = .ok (.iload_n 2, 1) := by decide +kernel
theorem dX12_countWays_19 : decode cX12_countWays 19 = .ok (.iadd, 1) := by decide +kernel
theorem dX12_countWays_20 : decode cX12_countWays 20 = .ok (.iconst 0, 1) := by decide +kernel
theorem dX12_countWays_21 : decode cX12_countWays 21 = .ok (.iastore, 1) := by decide +kernel
theorem dX12_countWays_22 : decode cX12_countWays 22 = .ok (.iinc 2 1, 3) := by decide +kernel
theorem dX12_countWays_25 : decode cX12_countWays 25 = .ok (.goto (-23), 3) := by decide +kernel
theorem dX12_countWays_28 : decode cX12_countWays 28 = .ok (.iconst 0, 1) := by decide +kernel
theorem dX12_countWays_29 : decode cX12_countWays 29 = .ok (.istore_n 2, 1) := by decide +kernel
theorem dX12_countWays_30 : decode cX12_countWays 30 = .ok (.iload_n 2, 1) := by decide +kernel
theorem dX12_countWays_31 : decode cX12_countWays 31 = .ok (.aload_n 0, 1) := by decide +kernel
theorem dX12_countWays_32 : decode cX12_countWays 32 = .ok (.getfield 77, 3) := by decide +kernel
theorem dX12_countWays_35 : decode cX12_countWays 35 = .ok (.iload_n 1, 1) := by decide +kernel
theorem dX12_countWays_36 : decode cX12_countWays 36 = .ok (.iaload, 1) := by decide +kernel
theorem dX12_countWays_37 : decode cX12_countWays 37 = .ok (.if_icmp .ge 131, 3) := by decide +kernel
theorem dX12_countWays_40 : decode cX12_countWays 40 = .ok (.bipush 120, 2) := by decide +kernel
theorem dX12_countWays_42 : decode cX12_countWays 42 = .ok (.iload_n 1, 1) := by decide +kernel
theorem dX12_countWays_43 : decode cX12_countWays 43 = .ok (.imul, 1) := by decide +kernel
theorem dX12_countWays_44 : decode cX12_countWays 44 = .ok (.iload_n 2, 1) := by decide +kernel
theorem dX12_countWays_45 : decode cX12_countWays 45 = .ok (.iadd, 1) := by decide +kernel
theorem dX12_countWays_46 : decode cX12_countWays 46 = .ok (.istore_n 3, 1) := by decide +kernel
theorem dX12_countWays_47 : decode cX12_countWays 47 = .ok (.iload_n 2, 1) := by decide +kernel
theorem dX12_countWays_48 : decode cX12_countWays 48 = .ok (.iconst 3, 1) := by decide +kernel
theorem dX12_countWays_49 : decode cX12_countWays 49 = .ok (.if_icmp .le 19, 3) := by decide +kernel
theorem dX12_countWays_52 : decode cX12_countWays 52 = .ok (.aload_n 0, 1) := by decide +kernel
theorem dX12_countWays_53 : decode cX12_countWays 53 = .ok (.getfield 65, 3) := by decide +kernel
theorem dX12_countWays_56 : decode cX12_countWays 56 = .ok (.iload_n 3, 1) := by decide +kernel
theorem dX12_countWays_57 : decode cX12_countWays 57 = .ok (.iconst 4, 1) := by decide +kernel
theorem dX12_countWays_58 : decode cX12_countWays 58 = .ok (.isub, 1) := by decide +kernel
theorem dX12_countWays_59 : decode cX12_countWays 59 = .ok (.iaload, 1) := by decide +kernel
theorem dX12_countWays_60 : decode cX12_countWays 60 = .ok (.iconst 2, 1) := by decide +kernel
theorem dX12_countWays_61 : decode cX12_countWays 61 = .ok (.if_icmp .ne 7, 3) := by decide +kernel
theorem dX12_countWays_64 : decode cX12_countWays 64 = .ok (.iconst 1, 1) := by decide +kernel
theorem dX12_countWays_65 : decode cX12_countWays 65 = .ok (.goto 4, 3) := by decide +kernel
theorem dX12_countWays_68 : decode cX12_countWays 68 = .ok (.iconst 0, 1) := by decide +kernel
theorem dX12_countWays_69 : decode cX12_countWays 69 = .ok (.istore 4, 2) := by decide +kernel
theorem dX12_countWays_71 : decode cX12_countWays 71 = .ok (.aload_n 0, 1) := by decide +kernel
theorem dX12_countWays_72 : decode cX12_countWays 72 = .ok (.getfield 65, 3) := by decide +kernel
theorem dX12_countWays_75 : decode cX12_countWays 75 = .ok (.iload_n 3, 1) := by decide +kernel
theorem dX12_countWays_76 : decode cX12_countWays 76 = .ok (.iaload, 1) := by decide +kernel
theorem dX12_countWays_77 : decode cX12_countWays 77 = .ok (.iconst 3, 1) := by decide +kernel
theorem dX12_countWays_78 : decode cX12_countWays 78 = .ok (.if_icmp .ne 84, 3) := by decide +kernel
theorem dX12_countWays_81 : decode cX12_countWays 81 = .ok (.iload 4, 2) := by decide +kernel
theorem dX12_countWays_83 : decode cX12_countWays 83 = .ok (.ifCond .eq 6, 3) := by decide +kernel
theorem dX12_countWays_86 : decode cX12_countWays 86 = .ok (.goto 76, 3) := by decide +kernel
theorem dX12_countWays_89 : decode cX12_countWays 89 = .ok (.aload_n 0, 1) := by decide +kernel
theorem dX12_countWays_90 : decode cX12_countWays 90 = .ok (.iload_n 1, 1) := by decide +kernel
theorem dX12_countWays_91 : decode cX12_countWays 91 = .ok (.iload_n 2, 1) := by decide +kernel
theorem dX12_countWays_92 : decode cX12_countWays 92 = .ok (.invokevirtual 214, 3) := by decide +kernel
theorem dX12_countWays_95 : decode cX12_countWays 95 = .ok (.istore 5, 2) := by decide +kernel
theorem dX12_countWays_97 : decode cX12_countWays 97 = .ok (.aload_n 0, 1) := by decide +kernel
theorem dX12_countWays_98 : decode cX12_countWays 98 = .ok (.getfield 71, 3) := by decide +kernel
theorem dX12_countWays_101 : decode cX12_countWays 101 = .ok (.iload_n 3, 1) := by decide +kernel
theorem dX12_countWays_102 : decode cX12_countWays 102 = .ok (.iaload, 1) := by decide +kernel
theorem dX12_countWays_103 : decode cX12_countWays 103 = .ok (.istore 6, 2) := by decide +kernel
theorem dX12_countWays_105 : decode cX12_countWays 105 = .ok (.iload 6, 2) := by decide +kernel
theorem dX12_countWays_107 : decode cX12_countWays 107 = .ok (.aload_n 0, 1) := by decide +kernel
theorem dX12_countWays_108 : decode cX12_countWays 108 = .ok (.getfield 71, 3) := by decide +kernel
theorem dX12_countWays_111 : decode cX12_countWays 111 = .ok (.iload 5, 2) := by decide +kernel
theorem dX12_countWays_113 : decode cX12_countWays 113 = .ok (.iaload, 1) := by decide +kernel
theorem dX12_countWays_114 : decode cX12_countWays 114 = .ok (.if_icmp .gt 48, 3) := by decide +kernel
theorem dX12_countWays_117 : decode cX12_countWays 117 = .ok (.aload_n 0, 1) := by decide +kernel
theorem dX12_countWays_118 : decode cX12_countWays 118 = .ok (.getfield 68, 3) := by decide +kernel
theorem dX12_countWays_121 : decode cX12_countWays 121 = .ok (.iload_n 3, 1) := by decide +kernel
theorem dX12_countWays_122 : decode cX12_countWays 122 = .ok (.iaload, 1) := by decide +kernel
theorem dX12_countWays_123 : decode cX12_countWays 123 = .ok (.istore 7, 2) := by decide +kernel
theorem dX12_countWays_125 : decode cX12_countWays 125 = .ok (.iload 7, 2) := by decide +kernel
theorem dX12_countWays_127 : decode cX12_countWays 127 = .ok (.aload_n 0, 1) := by decide +kernel
theorem dX12_countWays_128 : decode cX12_countWays 128 = .ok (.getfield 68, 3) := by decide +kernel
theorem dX12_countWays_131 : decode cX12_countWays 131 = .ok (.iload 5, 2) := by decide +kernel
theorem dX12_countWays_133 : decode cX12_countWays 133 = .ok (.iaload, 1) := by decide +kernel
theorem dX12_countWays_134 : decode cX12_countWays 134 = .ok (.if_icmp .gt 22, 3) := by decide +kernel
theorem dX12_countWays_137 : decode cX12_countWays 137 = .ok (.aload_n 0, 1) := by decide +kernel
theorem dX12_countWays_138 : decode cX12_countWays 138 = .ok (.iload_n 1, 1) := by decide +kernel
theorem dX12_countWays_139 : decode cX12_countWays 139 = .ok (.bipush 12, 2) := by decide +kernel
theorem dX12_countWays_141 : decode cX12_countWays 141 = .ok (.iload 6, 2) := by decide +kernel
theorem dX12_countWays_143 : decode cX12_countWays 143 = .ok (.imul, 1) := by decide +kernel
theorem dX12_countWays_144 : decode cX12_countWays 144 = .ok (.iload 7, 2) := by decide +kernel
theorem dX12_countWays_146 : decode cX12_countWays 146 = .ok (.iadd, 1) := by decide +kernel
theorem dX12_countWays_147 : decode cX12_countWays 147 = .ok (.invokevirtual 305, 3) := by decide +kernel
theorem dX12_countWays_150 : decode cX12_countWays 150 = .ok (.iinc 7 1, 3) := by decide +kernel
theorem dX12_countWays_153 : decode cX12_countWays 153 = .ok (.goto (-28), 3) := by decide +kernel
theorem dX12_countWays_156 : decode cX12_countWays 156 = .ok (.iinc 6 1, 3) := by decide +kernel
theorem dX12_countWays_159 : decode cX12_countWays 159 = .ok (.goto (-54), 3) := by decide +kernel
theorem dX12_countWays_162 : decode cX12_countWays 162 = .ok (.iinc 2 1, 3) := by decide +kernel
theorem dX12_countWays_165 : decode cX12_countWays 165 = .ok (.goto (-135), 3) := by decide +kernel
theorem dX12_countWays_168 : decode cX12_countWays 168 = .ok (.return_, 1) := by decide +kernel
theorem dX12_addWays_0 : decode cX12_addWays 0 = .ok (.aload_n 0, 1) := by decide +kernel
theorem dX12_addWays_1 : decode cX12_addWays 1 = .ok (.getfield 114, 3) := by decide +kernel
theorem dX12_addWays_4 : decode cX12_addWays 4 = .ok (.iload_n 2, 1) := by decide +kernel
theorem dX12_addWays_5 : decode cX12_addWays 5 = .ok (.baload, 1) := by decide +kernel
theorem dX12_addWays_6 : decode cX12_addWays 6 = .ok (.ifCond .ne 24, 3) := by decide +kernel
theorem dX12_addWays_9 : decode cX12_addWays 9 = .ok (.aload_n 0, 1) := by decide +kernel
theorem dX12_addWays_10 : decode cX12_addWays 10 = .ok (.iload_n 1, 1) := by decide +kernel
theorem dX12_addWays_11 : decode cX12_addWays 11 = .ok (.iload_n 2, 1) := by decide +kernel
theorem dX12_addWays_12 : decode cX12_addWays 12 = .ok (.aload_n 0, 1) := by decide +kernel
theorem dX12_addWays_13 : decode cX12_addWays 13 = .ok (.getfield 80, 3) := by decide +kernel
theorem dX12_addWays_16 : decode cX12_addWays 16 = .ok (.iload_n 2, 1) := by decide +kernel
theorem dX12_addWays_17 : decode cX12_addWays 17 = .ok (.iaload, 1) := by decide +kernel
theorem dX12_addWays_18 : decode cX12_addWays 18 = .ok (.ifCond .ne 7, 3) := by decide +kernel
theorem dX12_addWays_21 : decode cX12_addWays 21 = .ok (.iconst 0, 1) := by decide +kernel
theorem dX12_addWays_22 : decode cX12_addWays 22 = .ok (.goto 4, 3) := by decide +kernel
theorem dX12_addWays_25 : decode cX12_addWays 25 = .ok (.iconst 1, 1) := by decide +kernel
theorem dX12_addWays_26 : decode cX12_addWays 26 = .ok (.invokevirtual 308, 3) := by decide +kernel
theorem dX12_addWays_29 : decode cX12_addWays 29 = .ok (.return_, 1) := by decide +kernel
theorem dX12_addWays_30 : decode cX12_addWays 30 = .ok (.iconst 0, 1) := by decide +kernel
theorem dX12_addWays_31 : decode cX12_addWays 31 = .ok (.istore_n 3, 1) := by decide +kernel
theorem dX12_addWays_32 : decode cX12_addWays 32 = .ok (.iload_n 3, 1) := by decide +kernel
theorem dX12_addWays_33 : decode cX12_addWays 33 = .ok (.sipush 288, 3) := by decide +kernel
theorem dX12_addWays_36 : decode cX12_addWays 36 = .ok (.if_icmp .ge 27, 3) := by decide +kernel
theorem dX12_addWays_39 : decode cX12_addWays 39 = .ok (.aload_n 0, 1) := by decide +kernel
theorem dX12_addWays_40 : decode cX12_addWays 40 = .ok (.iload_n 1, 1) := by decide +kernel
theorem dX12_addWays_41 : decode cX12_addWays 41 = .ok (.iload_n 3, 1) := by decide +kernel
theorem dX12_addWays_42 : decode cX12_addWays 42 = .ok (.aload_n 0, 1) := by decide +kernel
theorem dX12_addWays_43 : decode cX12_addWays 43 = .ok (.getfield 121, 3) := by decide +kernel
theorem dX12_addWays_46 : decode cX12_addWays 46 = .ok (.sipush 288, 3) := by decide +kernel
theorem dX12_addWays_49 : decode cX12_addWays 49 = .ok (.iload_n 2, 1) := by decide +kernel
theorem dX12_addWays_50 : decode cX12_addWays 50 = .ok (.imul, 1) := by decide +kernel
theorem dX12_addWays_51 : decode cX12_addWays 51 = .ok (.iload_n 3, 1) := by decide +kernel
theorem dX12_addWays_52 : decode cX12_addWays 52 = .ok (.iadd, 1) := by decide +kernel
theorem dX12_addWays_53 : decode cX12_addWays 53 = .ok (.iaload, 1) := by decide +kernel
theorem dX12_addWays_54 : decode cX12_addWays 54 = .ok (.invokevirtual 308, 3) := by decide +kernel
theorem dX12_addWays_57 : decode cX12_addWays 57 = .ok (.iinc 3 1, 3) := by decide +kernel
theorem dX12_addWays_60 : decode cX12_addWays 60 = .ok (.goto (-28), 3) := by decide +kernel
theorem dX12_addWays_63 : decode cX12_addWays 63 = .ok (.return_, 1) := by decide +kernel
theorem dX12_addWay_0 : decode cX12_addWay 0 = .ok (.aload_n 0, 1) := by decide +kernel
theorem dX12_addWay_1 : decode cX12_addWay 1 = .ok (.getfield 121, 3) := by decide +kernel
theorem dX12_addWay_4 : decode cX12_addWay 4 = .ok (.sipush 288, 3) := by decide +kernel
theorem dX12_addWay_7 : decode cX12_addWay 7 = .ok (.iload_n 1, 1) := by decide +kernel
theorem dX12_addWay_8 : decode cX12_addWay 8 = .ok (.imul, 1) := by decide +kernel
theorem dX12_addWay_9 : decode cX12_addWay 9 = .ok (.iload_n 2, 1) := by decide +kernel
theorem dX12_addWay_10 : decode cX12_addWay 10 = .ok (.iadd, 1) := by decide +kernel
theorem dX12_addWay_11 : decode cX12_addWay 11 = .ok (.iaload, 1) := by decide +kernel
theorem dX12_addWay_12 : decode cX12_addWay 12 = .ok (.iload_n 3, 1) := by decide +kernel
theorem dX12_addWay_13 : decode cX12_addWay 13 = .ok (.iadd, 1) := by decide +kernel
theorem dX12_addWay_14 : decode cX12_addWay 14 = .ok (.istore 4, 2) := by decide +kernel
theorem dX12_addWay_16 : decode cX12_addWay 16 = .ok (.aload_n 0, 1) := by decide +kernel
theorem dX12_addWay_17 : decode cX12_addWay 17 = .ok (.getfield 121, 3) := by decide +kernel
theorem dX12_addWay_20 : decode cX12_addWay 20 = .ok (.sipush 288, 3) := by decide +kernel
theorem dX12_addWay_23 : decode cX12_addWay 23 = .ok (.iload_n 1, 1) := by decide +kernel
theorem dX12_addWay_24 : decode cX12_addWay 24 = .ok (.imul, 1) := by decide +kernel
theorem dX12_addWay_25 : decode cX12_addWay 25 = .ok (.iload_n 2, 1) := by decide +kernel
theorem dX12_addWay_26 : decode cX12_addWay 26 = .ok (.iadd, 1) := by decide +kernel
theorem dX12_addWay_27 : decode cX12_addWay 27 = .ok (.iload 4, 2) := by decide +kernel
theorem dX12_addWay_29 : decode cX12_addWay 29 = .ok (.bipush 10, 2) := by decide +kernel
theorem dX12_addWay_31 : decode cX12_addWay 31 = .ok (.if_icmp .le 8, 3) := by decide +kernel
theorem dX12_addWay_34 : decode cX12_addWay 34 = .ok (.bipush 10, 2) := by decide +kernel
theorem dX12_addWay_36 : decode cX12_addWay 36 = .ok (.goto 5, 3) := by decide +kernel
theorem dX12_addWay_39 : decode cX12_addWay 39 = .ok (.iload 4, 2) := by decide +kernel
theorem dX12_addWay_41 : decode cX12_addWay 41 = .ok (.iastore, 1) := by decide +kernel
theorem dX12_addWay_42 : decode cX12_addWay 42 = .ok (.return_, 1) := by decide +kernel
theorem dX12_isAlike_0 : decode cX12_isAlike 0 = .ok (.aload_n 0, 1) := by decide +kernel
theorem dX12_isAlike_1 : decode cX12_isAlike 1 = .ok (.getfield 77, 3) := by decide +kernel
theorem dX12_isAlike_4 : decode cX12_isAlike 4 = .ok (.iload_n 1, 1) := by decide +kernel
theorem dX12_isAlike_5 : decode cX12_isAlike 5 = .ok (.iaload, 1) := by decide +kernel
theorem dX12_isAlike_6 : decode cX12_isAlike 6 = .ok (.aload_n 0, 1) := by decide +kernel
theorem dX12_isAlike_7 : decode cX12_isAlike 7 = .ok (.getfield 77, 3) := by decide +kernel
theorem dX12_isAlike_10 : decode cX12_isAlike 10 = .ok (.iload_n 2, 1) := by decide +kernel
theorem dX12_isAlike_11 : decode cX12_isAlike 11 = .ok (.iaload, 1) := by decide +kernel
theorem dX12_isAlike_12 : decode cX12_isAlike 12 = .ok (.if_icmp .eq 5, 3) := by decide +kernel
theorem dX12_isAlike_15 : decode cX12_isAlike 15 = .ok (.iconst 0, 1) := by decide +kernel
theorem dX12_isAlike_16 : decode cX12_isAlike 16 = .ok (.ireturn, 1) := by decide +kernel
theorem dX12_isAlike_17 : decode cX12_isAlike 17 = .ok (.iconst 1, 1) := by decide +kernel
theorem dX12_isAlike_18 : decode cX12_isAlike 18 = .ok (.istore_n 3, 1) := by decide +kernel
theorem dX12_isAlike_19 : decode cX12_isAlike 19 = .ok (.iconst 0, 1) := by decide +kernel
theorem dX12_isAlike_20 : decode cX12_isAlike 20 = .ok (.istore 4, 2) := by decide +kernel
theorem dX12_isAlike_22 : decode cX12_isAlike 22 = .ok (.iload 4, 2) := by decide +kernel
theorem dX12_isAlike_24 : decode cX12_isAlike 24 = .ok (.aload_n 0, 1) := by decide +kernel
theorem dX12_isAlike_25 : decode cX12_isAlike 25 = .ok (.getfield 77, 3) := by decide +kernel
theorem dX12_isAlike_28 : decode cX12_isAlike 28 = .ok (.iload_n 1, 1) := by decide +kernel
theorem dX12_isAlike_29 : decode cX12_isAlike 29 = .ok (.iaload, 1) := by decide +kernel
theorem dX12_isAlike_30 : decode cX12_isAlike 30 = .ok (.if_icmp .ge 218, 3) := by decide +kernel
theorem dX12_isAlike_33 : decode cX12_isAlike 33 = .ok (.iload_n 3, 1) := by decide +kernel
theorem dX12_isAlike_34 : decode cX12_isAlike 34 = .ok (.ifCond .eq 214, 3) := by decide +kernel
theorem dX12_isAlike_37 : decode cX12_isAlike 37 = .ok (.bipush 120, 2) := by decide +kernel
theorem dX12_isAlike_39 : decode cX12_isAlike 39 = .ok (.iload_n 1, 1) := by decide +kernel
theorem dX12_isAlike_40 : decode cX12_isAlike 40 = .ok (.imul, 1) := by decide +kernel
theorem dX12_isAlike_41 : decode cX12_isAlike 41 = .ok (.iload 4, 2) := by decide +kernel
theorem dX12_isAlike_43 : decode cX12_isAlike 43 = .ok (.iadd, 1) := by decide +kernel
theorem dX12_isAlike_44 : decode cX12_isAlike 44 = .ok (.istore 5, 2) := by decide +kernel
theorem dX12_isAlike_46 : decode cX12_isAlike 46 = .ok (.bipush 120, 2) := by decide +kernel
theorem dX12_isAlike_48 : decode cX12_isAlike 48 = .ok (.iload_n 2, 1) := by decide +kernel
theorem dX12_isAlike_49 : decode cX12_isAlike 49 = .ok (.imul, 1) := by decide +kernel
theorem dX12_isAlike_50 : decode cX12_isAlike 50 = .ok (.iload 4, 2) := by decide +kernel
theorem dX12_isAlike_52 : decode cX12_isAlike 52 = .ok (.iadd, 1) := by decide +kernel
theorem dX12_isAlike_53 : decode cX12_isAlike 53 = .ok (.istore 6, 2) := by decide +kernel
theorem dX12_isAlike_55 : decode cX12_isAlike 55 = .ok (.aload_n 0, 1) := by decide +kernel
theorem dX12_isAlike_56 : decode cX12_isAlike 56 = .ok (.getfield 65, 3) := by decide +kernel
theorem dX12_isAlike_59 : decode cX12_isAlike 59 = .ok (.iload 5, 2) := by decide +kernel
theorem dX12_isAlike_61 : decode cX12_isAlike 61 = .ok (.iaload, 1) := by decide +kernel
theorem dX12_isAlike_62 : decode cX12_isAlike 62 = .ok (.aload_n 0, 1) := by decide +kernel
theorem dX12_isAlike_63 : decode cX12_isAlike 63 = .ok (.getfield 65, 3) := by decide +kernel
theorem dX12_isAlike_66 : decode cX12_isAlike 66 = .ok (.iload 6, 2) := by decide +kernel
theorem dX12_isAlike_68 : decode cX12_isAlike 68 = .ok (.iaload, 1) := by decide +kernel
theorem dX12_isAlike_69 : decode cX12_isAlike 69 = .ok (.if_icmp .ne 24, 3) := by decide +kernel
theorem dX12_isAlike_72 : decode cX12_isAlike 72 = .ok (.aload_n 0, 1) := by decide +kernel
theorem dX12_isAlike_73 : decode cX12_isAlike 73 = .ok (.getfield 74, 3) := by decide +kernel
theorem dX12_isAlike_76 : decode cX12_isAlike 76 = .ok (.iload 5, 2) := by decide +kernel
theorem dX12_isAlike_78 : decode cX12_isAlike 78 = .ok (.iaload, 1) := by decide +kernel
theorem dX12_isAlike_79 : decode cX12_isAlike 79 = .ok (.aload_n 0, 1) := by decide +kernel
theorem dX12_isAlike_80 : decode cX12_isAlike 80 = .ok (.getfield 74, 3) := by decide +kernel
theorem dX12_isAlike_83 : decode cX12_isAlike 83 = .ok (.iload 6, 2) := by decide +kernel
theorem dX12_isAlike_85 : decode cX12_isAlike 85 = .ok (.iaload, 1) := by decide +kernel
theorem dX12_isAlike_86 : decode cX12_isAlike 86 = .ok (.if_icmp .ne 7, 3) := by decide +kernel
theorem dX12_isAlike_89 : decode cX12_isAlike 89 = .ok (.iconst 1, 1) := by decide +kernel
theorem dX12_isAlike_90 : decode cX12_isAlike 90 = .ok (.goto 4, 3) := by decide +kernel
theorem dX12_isAlike_93 : decode cX12_isAlike 93 = .ok (.iconst 0, 1) := by decide +kernel
theorem dX12_isAlike_94 : decode cX12_isAlike 94 = .ok (.istore_n 3, 1) := by decide +kernel
theorem dX12_isAlike_95 : decode cX12_isAlike 95 = .ok (.iload_n 3, 1) := by decide +kernel
theorem dX12_isAlike_96 : decode cX12_isAlike 96 = .ok (.ifCond .eq 119, 3) := by decide +kernel
theorem dX12_isAlike_99 : decode cX12_isAlike 99 = .ok (.aload_n 0, 1) := by decide +kernel
theorem dX12_isAlike_100 : decode cX12_isAlike 100 = .ok (.getfield 65, 3) := by decide +kernel
theorem dX12_isAlike_103 : decode cX12_isAlike 103 = .ok (.iload 5, 2) := by decide +kernel
theorem dX12_isAlike_105 : decode cX12_isAlike 105 = .ok (.iaload, 1) := by decide +kernel
theorem dX12_isAlike_106 : decode cX12_isAlike 106 = .ok (.iconst 3, 1) := by decide +kernel
theorem dX12_isAlike_107 : decode cX12_isAlike 107 = .ok (.if_icmp .ne 108, 3) := by decide +kernel
theorem dX12_isAlike_110 : decode cX12_isAlike 110 = .ok (.aload_n 0, 1) := by decide +kernel
theorem dX12_isAlike_111 : decode cX12_isAlike 111 = .ok (.getfield 74, 3) := by decide +kernel
theorem dX12_isAlike_114 : decode cX12_isAlike 114 = .ok (.iload 5, 2) := by decide +kernel
theorem dX12_isAlike_116 : decode cX12_isAlike 116 = .ok (.iaload, 1) := by decide +kernel
theorem dX12_isAlike_117 : decode cX12_isAlike 117 = .ok (.iconst 1, 1) := by decide +kernel
theorem dX12_isAlike_118 : decode cX12_isAlike 118 = .ok (.iand, 1) := by decide +kernel
theorem dX12_isAlike_119 : decode cX12_isAlike 119 = .ok (.iconst 1, 1) := by decide +kernel
theorem dX12_isAlike_120 : decode cX12_isAlike 120 = .ok (.if_icmp .ne 7, 3) := by decide +kernel
theorem dX12_isAlike_123 : decode cX12_isAlike 123 = .ok (.iconst 0, 1) := by decide +kernel
theorem dX12_isAlike_124 : decode cX12_isAlike 124 = .ok (.goto 12, 3) := by decide +kernel
theorem dX12_isAlike_127 : decode cX12_isAlike 127 = .ok (.iload_n 1, 1) := by decide +kernel
theorem dX12_isAlike_128 : decode cX12_isAlike 128 = .ok (.bipush 12, 2) := by decide +kernel
theorem dX12_isAlike_130 : decode cX12_isAlike 130 = .ok (.irem, 1) := by decide +kernel
theorem dX12_isAlike_131 : decode cX12_isAlike 131 = .ok (.iload_n 2, 1) := by decide +kernel
theorem dX12_isAlike_132 : decode cX12_isAlike 132 = .ok (.bipush 12, 2) := by decide +kernel
theorem dX12_isAlike_134 : decode cX12_isAlike 134 = .ok (.irem, 1) := by decide +kernel
theorem dX12_isAlike_135 : decode cX12_isAlike 135 = .ok (.isub, 1) := by decide +kernel
theorem dX12_isAlike_136 : decode cX12_isAlike 136 = .ok (.istore 7, 2) := by decide +kernel
theorem dX12_isAlike_138 : decode cX12_isAlike 138 = .ok (.aload_n 0, 1) := by decide +kernel
theorem dX12_isAlike_139 : decode cX12_isAlike 139 = .ok (.getfield 74, 3) := by decide +kernel
theorem dX12_isAlike_142 : decode cX12_isAlike 142 = .ok (.iload 5, 2) := by decide +kernel
theorem dX12_isAlike_144 : decode cX12_isAlike 144 = .ok (.iaload, 1) := by decide +kernel
theorem dX12_isAlike_145 : decode cX12_isAlike 145 = .ok (.iconst 2, 1) := by decide +kernel
theorem dX12_isAlike_146 : decode cX12_isAlike 146 = .ok (.iand, 1) := by decide +kernel
theorem dX12_isAlike_147 : decode cX12_isAlike 147 = .ok (.iconst 2, 1) := by decide +kernel
theorem dX12_isAlike_148 : decode cX12_isAlike 148 = .ok (.if_icmp .ne 7, 3) := by decide +kernel
theorem dX12_isAlike_151 : decode cX12_isAlike 151 = .ok (.iconst 0, 1) := by decide +kernel
theorem dX12_isAlike_152 : decode cX12_isAlike 152 = .ok (.goto 12, 3) := by decide +kernel
theorem dX12_isAlike_155 : decode cX12_isAlike 155 = .ok (.iload_n 1, 1) := by decide +kernel
theorem dX12_isAlike_156 : decode cX12_isAlike 156 = .ok (.bipush 12, 2) := by decide +kernel
theorem dX12_isAlike_158 : decode cX12_isAlike 158 = .ok (.idiv, 1) := by decide +kernel
theorem dX12_isAlike_159 : decode cX12_isAlike 159 = .ok (.iload_n 2, 1) := by decide +kernel
theorem dX12_isAlike_160 : decode cX12_isAlike 160 = .ok (.bipush 12, 2) := by decide +kernel
theorem dX12_isAlike_162 : decode cX12_isAlike 162 = .ok (.idiv, 1) := by decide +kernel
theorem dX12_isAlike_163 : decode cX12_isAlike 163 = .ok (.isub, 1) := by decide +kernel
theorem dX12_isAlike_164 : decode cX12_isAlike 164 = .ok (.istore 8, 2) := by decide +kernel
theorem dX12_isAlike_166 : decode cX12_isAlike 166 = .ok (.aload_n 0, 1) := by decide +kernel
theorem dX12_isAlike_167 : decode cX12_isAlike 167 = .ok (.getfield 68, 3) := by decide +kernel
theorem dX12_isAlike_170 : decode cX12_isAlike 170 = .ok (.iload 5, 2) := by decide +kernel
theorem dX12_isAlike_172 : decode cX12_isAlike 172 = .ok (.iaload, 1) := by decide +kernel
theorem dX12_isAlike_173 : decode cX12_isAlike 173 = .ok (.aload_n 0, 1) := by decide +kernel
theorem dX12_isAlike_174 : decode cX12_isAlike 174 = .ok (.getfield 68, 3) := by decide +kernel
theorem dX12_isAlike_177 : decode cX12_isAlike 177 = .ok (.iload 6, 2) := by decide +kernel
theorem dX12_isAlike_179 : decode cX12_isAlike 179 = .ok (.iaload, 1) := by decide +kernel
theorem dX12_isAlike_180 : decode cX12_isAlike 180 = .ok (.isub, 1) := by decide +kernel
theorem dX12_isAlike_181 : decode cX12_isAlike 181 = .ok (.iload 7, 2) := by decide +kernel
theorem dX12_isAlike_183 : decode cX12_isAlike 183 = .ok (.if_icmp .ne 27, 3) := by decide +kernel
theorem dX12_isAlike_186 : decode cX12_isAlike 186 = .ok (.aload_n 0, 1) := by decide +kernel
theorem dX12_isAlike_187 : decode cX12_isAlike 187 = .ok (.getfield 71, 3) := by decide +kernel
theorem dX12_isAlike_190 : decode cX12_isAlike 190 = .ok (.iload 5, 2) := by decide +kernel
theorem dX12_isAlike_192 : decode cX12_isAlike 192 = .ok (.iaload, 1) := by decide +kernel
theorem dX12_isAlike_193 : decode cX12_isAlike 193 = .ok (.aload_n 0, 1) := by decide +kernel
theorem dX12_isAlike_194 : decode cX12_isAlike 194 = .ok (.getfield 71, 3) := by decide +kernel
theorem dX12_isAlike_197 : decode cX12_isAlike 197 = .ok (.iload 6, 2) := by decide +kernel
theorem dX12_isAlike_199 : decode cX12_isAlike 199 = .ok (.iaload, 1) := by decide +kernel
theorem dX12_isAlike_200 : decode cX12_isAlike 200 = .ok (.isub, 1) := by decide +kernel
theorem dX12_isAlike_201 : decode cX12_isAlike 201 = .ok (.iload 8, 2) := by decide +kernel
theorem dX12_isAlike_203 : decode cX12_isAlike 203 = .ok (.if_icmp .ne 7, 3) := by decide +kernel
theorem dX12_isAlike_206 : decode cX12_isAlike 206 = .ok (.iconst 1, 1) := by decide +kernel
theorem dX12_isAlike_207 : decode cX12_isAlike 207 = .ok (.goto 4, 3) := by decide +kernel
theorem dX12_isAlike_210 : decode cX12_isAlike 210 = .ok (.iconst 0, 1) := by decide +kernel
theorem dX12_isAlike_211 : decode cX12_isAlike 211 = .ok (.istore_n 3, 1) := by decide +kernel
theorem dX12_isAlike_212 : decode cX12_isAlike 212 = .ok (.goto 30, 3) := by decide +kernel
theorem dX12_isAlike_215 : decode cX12_isAlike 215 = .ok (.iload_n 3, 1) := by decide +kernel
theorem dX12_isAlike_216 : decode cX12_isAlike 216 = .ok (.ifCond .eq 26, 3) := by decide +kernel
theorem dX12_isAlike_219 : decode cX12_isAlike 219 = .ok (.aload_n 0, 1) := by decide +kernel
theorem dX12_isAlike_220 : decode cX12_isAlike 220 = .ok (.getfield 68, 3) := by decide +kernel
theorem dX12_isAlike_223 : decode cX12_isAlike 223 = .ok (.iload 5, 2) := by decide +kernel
theorem dX12_isAlike_225 : decode cX12_isAlike 225 = .ok (.iaload, 1) := by decide +kernel
theorem dX12_isAlike_226 : decode cX12_isAlike 226 = .ok (.aload_n 0, 1) := by decide +kernel
theorem dX12_isAlike_227 : decode cX12_isAlike 227 = .ok (.getfield 68, 3) := by decide +kernel
theorem dX12_isAlike_230 : decode cX12_isAlike 230 = .ok (.iload 6, 2) := by decide +kernel
theorem dX12_isAlike_232 : decode cX12_isAlike 232 = .ok (.iaload, 1) := by decide +kernel
theorem dX12_isAlike_233 : decode cX12_isAlike 233 = .ok (.if_icmp .ne 7, 3) := by decide +kernel
theorem dX12_isAlike_236 : decode cX12_isAlike 236 = .ok (.iconst 1, 1) := by decide +kernel
theorem dX12_isAlike_237 : decode cX12_isAlike 237 = .ok (.goto 4, 3) := by decide +kernel
theorem dX12_isAlike_240 : decode cX12_isAlike 240 = .ok (.iconst 0, 1) := by decide +kernel
theorem dX12_isAlike_241 : decode cX12_isAlike 241 = .ok (.istore_n 3, 1) := by decide +kernel
theorem dX12_isAlike_242 : decode cX12_isAlike 242 = .ok (.iinc 4 1, 3) := by decide +kernel
theorem dX12_isAlike_245 : decode cX12_isAlike 245 = .ok (.goto (-223), 3) := by decide +kernel
theorem dX12_isAlike_248 : decode cX12_isAlike 248 = .ok (.iload_n 3, 1) := by decide +kernel
theorem dX12_isAlike_249 : decode cX12_isAlike 249 = .ok (.ireturn, 1) := by decide +kernel
theorem dX12_findFamilies_0 : decode cX12_findFamilies 0 = .ok (.iconst 0, 1) := by decide +kernel
theorem dX12_findFamilies_1 : decode cX12_findFamilies 1 = .ok (.istore_n 1, 1) := by decide +kernel
theorem dX12_findFamilies_2 : decode cX12_findFamilies 2 = .ok (.iload_n 1, 1) := by decide +kernel
theorem dX12_findFamilies_3 : decode cX12_findFamilies 3 = .ok (.sipush 288, 3) := by decide +kernel
theorem dX12_findFamilies_6 : decode cX12_findFamilies 6 = .ok (.if_icmp .ge 89, 3) := by decide +kernel
theorem dX12_findFamilies_9 : decode cX12_findFamilies 9 = .ok (.aload_n 0, 1) := by decide +kernel
theorem dX12_findFamilies_10 : decode cX12_findFamilies 10 = .ok (.getfield 117, 3) := by decide +kernel
theorem dX12_findFamilies_13 : decode cX12_findFamilies 13 = .ok (.iload_n 1, 1) := by decide +kernel
theorem dX12_findFamilies_14 : decode cX12_findFamilies 14 = .ok (.iconst (-1), 1) := by decide +kernel
theorem dX12_findFamilies_15 : decode cX12_findFamilies 15 = .ok (.iastore, 1) := by decide +kernel
theorem dX12_findFamilies_16 : decode cX12_findFamilies 16 = .ok (.iconst 0, 1) := by decide +kernel
theorem dX12_findFamilies_17 : decode cX12_findFamilies 17 = .ok (.istore_n 2, 1) := by decide +kernel
theorem dX12_findFamilies_18 : decode cX12_findFamilies 18 = .ok (.iload_n 2, 1) := by decide +kernel
theorem dX12_findFamilies_19 : decode cX12_findFamilies 19 = .ok (.iload_n 1, 1) := by decide +kernel
theorem dX12_findFamilies_20 : decode cX12_findFamilies 20 = .ok (.if_icmp .gt 69, 3) := by decide +kernel
theorem dX12_findFamilies_23 : decode cX12_findFamilies 23 = .ok (.aload_n 0, 1) := by decide +kernel
theorem dX12_findFamilies_24 : decode cX12_findFamilies 24 = .ok (.getfield 117, 3) := by decide +kernel
theorem dX12_findFamilies_27 : decode cX12_findFamilies 27 = .ok (.iload_n 1, 1) := by decide +kernel
theorem dX12_findFamilies_28 : decode cX12_findFamilies 28 = .ok (.iaload, 1) := by decide +kernel
theorem dX12_findFamilies_29 : decode cX12_findFamilies 29 = .ok (.ifCond .ge 60, 3) := by decide +kernel
theorem dX12_findFamilies_32 : decode cX12_findFamilies 32 = .ok (.aload_n 0, 1) := by decide +kernel
theorem dX12_findFamilies_33 : decode cX12_findFamilies 33 = .ok (.getfield 80, 3) := by decide +kernel
theorem dX12_findFamilies_36 : decode cX12_findFamilies 36 = .ok (.iload_n 1, 1) := by decide +kernel
theorem dX12_findFamilies_37 : decode cX12_findFamilies 37 = .ok (.iaload, 1) := by decide +kernel
theorem dX12_findFamilies_38 : decode cX12_findFamilies 38 = .ok (.iconst 2, 1) := by decide +kernel
theorem dX12_findFamilies_39 : decode cX12_findFamilies 39 = .ok (.if_icmp .ne 50, 3) := by decide +kernel
theorem dX12_findFamilies_42 : decode cX12_findFamilies 42 = .ok (.aload_n 0, 1) := by decide +kernel
theorem dX12_findFamilies_43 : decode cX12_findFamilies 43 = .ok (.getfield 80, 3) := by decide +kernel
theorem dX12_findFamilies_46 : decode cX12_findFamilies 46 = .ok (.iload_n 2, 1) := by decide +kernel
theorem dX12_findFamilies_47 : decode cX12_findFamilies 47 = .ok (.iaload, 1) := by decide +kernel
theorem dX12_findFamilies_48 : decode cX12_findFamilies 48 = .ok (.iconst 2, 1) := by decide +kernel
theorem dX12_findFamilies_49 : decode cX12_findFamilies 49 = .ok (.if_icmp .ne 34, 3) := by decide +kernel
theorem dX12_findFamilies_52 : decode cX12_findFamilies 52 = .ok (.iload_n 2, 1) := by decide +kernel
theorem dX12_findFamilies_53 : decode cX12_findFamilies 53 = .ok (.iload_n 1, 1) := by decide +kernel
theorem dX12_findFamilies_54 : decode cX12_findFamilies 54 = .ok (.if_icmp .eq 22, 3) := by decide +kernel
theorem dX12_findFamilies_57 : decode cX12_findFamilies 57 = .ok (.aload_n 0, 1) := by decide +kernel
theorem dX12_findFamilies_58 : decode cX12_findFamilies 58 = .ok (.getfield 117, 3) := by decide +kernel
theorem dX12_findFamilies_61 : decode cX12_findFamilies 61 = .ok (.iload_n 2, 1) := by decide +kernel
theorem dX12_findFamilies_62 : decode cX12_findFamilies 62 = .ok (.iaload, 1) := by decide +kernel
theorem dX12_findFamilies_63 : decode cX12_findFamilies 63 = .ok (.iload_n 2, 1) := by decide +kernel
theorem dX12_findFamilies_64 : decode cX12_findFamilies 64 = .ok (.if_icmp .ne 19, 3) := by decide +kernel
theorem dX12_findFamilies_67 : decode cX12_findFamilies 67 = .ok (.aload_n 0, 1) := by decide +kernel
theorem dX12_findFamilies_68 : decode cX12_findFamilies 68 = .ok (.iload_n 1, 1) := by decide +kernel
theorem dX12_findFamilies_69 : decode cX12_findFamilies 69 = .ok (.iload_n 2, 1) := by decide +kernel
theorem dX12_findFamilies_70 : decode cX12_findFamilies 70 = .ok (.invokevirtual 311, 3) := by decide +kernel
theorem dX12_findFamilies_73 : decode cX12_findFamilies 73 = .ok (.ifCond .eq 10, 3) := by decide +kernel
theorem dX12_findFamilies_76 : decode cX12_findFamilies 76 = .ok (.aload_n 0, 1) := by decide +kernel
theorem dX12_findFamilies_77 : decode cX12_findFamilies 77 = .ok (.getfield 117, 3) := by decide +kernel
theorem dX12_findFamilies_80 : decode cX12_findFamilies 80 = .ok (.iload_n 1, 1) := by decide +kernel
theorem dX12_findFamilies_81 : decode cX12_findFamilies 81 = .ok (.iload_n 2, 1) := by decide +kernel
theorem dX12_findFamilies_82 : decode cX12_findFamilies 82 = .ok (.iastore, 1) := by decide +kernel
theorem dX12_findFamilies_83 : decode cX12_findFamilies 83 = .ok (.iinc 2 1, 3) := by decide +kernel
theorem dX12_findFamilies_86 : decode cX12_findFamilies 86 = .ok (.goto (-68), 3) := by decide +kernel
theorem dX12_findFamilies_89 : decode cX12_findFamilies 89 = .ok (.iinc 1 1, 3) := by decide +kernel
theorem dX12_findFamilies_92 : decode cX12_findFamilies 92 = .ok (.goto (-90), 3) := by decide +kernel
theorem dX12_findFamilies_95 : decode cX12_findFamilies 95 = .ok (.return_, 1) := by decide +kernel
theorem dX12_finds_0 : decode cX12_finds 0 = .ok (.aload_n 0, 1) := by decide +kernel
theorem dX12_finds_1 : decode cX12_finds 1 = .ok (.getfield 314, 3) := by decide +kernel
theorem dX12_finds_4 : decode cX12_finds 4 = .ok (.sipush 300, 3) := by decide +kernel
theorem dX12_finds_7 : decode cX12_finds 7 = .ok (.if_icmp .ge 43, 3) := by decide +kernel
theorem dX12_finds_10 : decode cX12_finds 10 = .ok (.aload_n 0, 1) := by decide +kernel
theorem dX12_finds_11 : decode cX12_finds 11 = .ok (.getfield 130, 3) := by decide +kernel
theorem dX12_finds_14 : decode cX12_finds 14 = .ok (.iconst 3, 1) := by decide +kernel
theorem dX12_finds_15 : decode cX12_finds 15 = .ok (.aload_n 0, 1) := by decide +kernel
theorem dX12_finds_16 : decode cX12_finds 16 = .ok (.getfield 314, 3) := by decide +kernel
theorem dX12_finds_19 : decode cX12_finds 19 = .ok (.imul, 1) := by decide +kernel
theorem dX12_finds_20 : decode cX12_finds 20 = .ok (.iload_n 1, 1) := by decide +kernel
theorem dX12_finds_21 : decode cX12_finds 21 = .ok (.iastore, 1) := by decide +kernel
theorem dX12_finds_22 : decode cX12_finds 22 = .ok (.aload_n 0, 1) := by decide +kernel
theorem dX12_finds_23 : decode cX12_finds 23 = .ok (.getfield 130, 3) := by decide +kernel
theorem dX12_finds_26 : decode cX12_finds 26 = .ok (.iconst 3, 1) := by decide +kernel
theorem dX12_finds_27 : decode cX12_finds 27 = .ok (.aload_n 0, 1) := by decide +kernel
theorem dX12_finds_28 : decode cX12_finds 28 = .ok (.getfield 314, 3) := by decide +kernel
theorem dX12_finds_31 : decode cX12_finds 31 = .ok (.imul, 1) := by decide +kernel
theorem dX12_finds_32 : decode cX12_finds 32 = .ok (.iconst 1, 1) := by decide +kernel
theorem dX12_finds_33 : decode cX12_finds 33 = .ok (.iadd, 1) := by decide +kernel
theorem dX12_finds_34 : decode cX12_finds 34 = .ok (.iload_n 2, 1) := by decide +kernel
theorem dX12_finds_35 : decode cX12_finds 35 = .ok (.iastore, 1) := by decide +kernel
theorem dX12_finds_36 : decode cX12_finds 36 = .ok (.aload_n 0, 1) := by decide +kernel
theorem dX12_finds_37 : decode cX12_finds 37 = .ok (.getfield 130, 3) := by decide +kernel
theorem dX12_finds_40 : decode cX12_finds 40 = .ok (.iconst 3, 1) := by decide +kernel
theorem dX12_finds_41 : decode cX12_finds 41 = .ok (.aload_n 0, 1) := by decide +kernel
theorem dX12_finds_42 : decode cX12_finds 42 = .ok (.getfield 314, 3) := by decide +kernel
theorem dX12_finds_45 : decode cX12_finds 45 = .ok (.imul, 1) := by decide +kernel
theorem dX12_finds_46 : decode cX12_finds 46 = .ok (.iconst 2, 1) := by decide +kernel
theorem dX12_finds_47 : decode cX12_finds 47 = .ok (.iadd, 1) := by decide +kernel
theorem dX12_finds_48 : decode cX12_finds 48 = .ok (.iload_n 3, 1) := by decide +kernel
theorem dX12_finds_49 : decode cX12_finds 49 = .ok (.iastore, 1) := by decide +kernel
theorem dX12_finds_50 : decode cX12_finds 50 = .ok (.aload_n 0, 1) := by decide +kernel
theorem dX12_finds_51 : decode cX12_finds 51 = .ok (.dup, 1) := by decide +kernel
theorem dX12_finds_52 : decode cX12_finds 52 = .ok (.getfield 314, 3) := by decide +kernel
theorem dX12_finds_55 : decode cX12_finds 55 = .ok (.iconst 1, 1) := by decide +kernel
theorem dX12_finds_56 : decode cX12_finds 56 = .ok (.iadd, 1) := by decide +kernel
theorem dX12_finds_57 : decode cX12_finds 57 = .ok (.putfield 314, 3) := by decide +kernel
theorem dX12_finds_60 : decode cX12_finds 60 = .ok (.return_, 1) := by decide +kernel
theorem dX12_familyAt_0 : decode cX12_familyAt 0 = .ok (.iload_n 1, 1) := by decide +kernel
theorem dX12_familyAt_1 : decode cX12_familyAt 1 = .ok (.ifCond .lt 19, 3) := by decide +kernel
theorem dX12_familyAt_4 : decode cX12_familyAt 4 = .ok (.iload_n 1, 1) := by decide +kernel
theorem dX12_familyAt_5 : decode cX12_familyAt 5 = .ok (.bipush 11, 2) := by decide +kernel
theorem dX12_familyAt_7 : decode cX12_familyAt 7 = .ok (.if_icmp .gt 13, 3) := by decide +kernel
theorem dX12_familyAt_10 : decode cX12_familyAt 10 = .ok (.iload_n 2, 1) := by decide +kernel
theorem dX12_familyAt_11 : decode cX12_familyAt 11 = .ok (.ifCond .lt 9, 3) := by decide +kernel
theorem dX12_familyAt_14 : decode cX12_familyAt 14 = .ok (.iload_n 2, 1) := by decide +kernel
theorem dX12_familyAt_15 : decode cX12_familyAt 15 = .ok (.bipush 23, 2) := by decide +kernel
theorem dX12_familyAt_17 : decode cX12_familyAt 17 = .ok (.if_icmp .le 7, 3) := by decide +kernel
theorem dX12_familyAt_20 : decode cX12_familyAt 20 = .ok (.iconst (-1), 1) := by decide +kernel
theorem dX12_familyAt_21 : decode cX12_familyAt 21 = .ok (.goto 14, 3) := by decide +kernel
theorem dX12_familyAt_24 : decode cX12_familyAt 24 = .ok (.aload_n 0, 1) := by decide +kernel
theorem dX12_familyAt_25 : decode cX12_familyAt 25 = .ok (.getfield 117, 3) := by decide +kernel
theorem dX12_familyAt_28 : decode cX12_familyAt 28 = .ok (.bipush 12, 2) := by decide +kernel
theorem dX12_familyAt_30 : decode cX12_familyAt 30 = .ok (.iload_n 2, 1) := by decide +kernel
theorem dX12_familyAt_31 : decode cX12_familyAt 31 = .ok (.imul, 1) := by decide +kernel
theorem dX12_familyAt_32 : decode cX12_familyAt 32 = .ok (.iload_n 1, 1) := by decide +kernel
theorem dX12_familyAt_33 : decode cX12_familyAt 33 = .ok (.iadd, 1) := by decide +kernel
theorem dX12_familyAt_34 : decode cX12_familyAt 34 = .ok (.iaload, 1) := by decide +kernel
theorem dX12_familyAt_35 : decode cX12_familyAt 35 = .ok (.ireturn, 1) := by decide +kernel
theorem dX12_oddBy_0 : decode cX12_oddBy 0 = .ok (.aload_n 0, 1) := by decide +kernel
theorem dX12_oddBy_1 : decode cX12_oddBy 1 = .ok (.getfield 80, 3) := by decide +kernel
theorem dX12_oddBy_4 : decode cX12_oddBy 4 = .ok (.iload_n 1, 1) := by decide +kernel
theorem dX12_oddBy_5 : decode cX12_oddBy 5 = .ok (.iaload, 1) := by decide +kernel
theorem dX12_oddBy_6 : decode cX12_oddBy 6 = .ok (.ifCond .ne 5, 3) := by decide +kernel
theorem dX12_oddBy_9 : decode cX12_oddBy 9 = .ok (.iconst (-1), 1) := by decide +kernel
theorem dX12_oddBy_10 : decode cX12_oddBy 10 = .ok (.ireturn, 1) := by decide +kernel
theorem dX12_oddBy_11 : decode cX12_oddBy 11 = .ok (.iload_n 1, 1) := by decide +kernel
theorem dX12_oddBy_12 : decode cX12_oddBy 12 = .ok (.bipush 12, 2) := by decide +kernel
theorem dX12_oddBy_14 : decode cX12_oddBy 14 = .ok (.irem, 1) := by decide +kernel
theorem dX12_oddBy_15 : decode cX12_oddBy 15 = .ok (.istore_n 2, 1) := by decide +kernel
theorem dX12_oddBy_16 : decode cX12_oddBy 16 = .ok (.iload_n 1, 1) := by decide +kernel
theorem dX12_oddBy_17 : decode cX12_oddBy 17 = .ok (.bipush 12, 2) := by decide +kernel
theorem dX12_oddBy_19 : decode cX12_oddBy 19 = .ok (.idiv, 1) := by decide +kernel
theorem dX12_oddBy_20 : decode cX12_oddBy 20 = .ok (.istore_n 3, 1) := by decide +kernel
theorem dX12_oddBy_21 : decode cX12_oddBy 21 = .ok (.aload_n 0, 1) := by decide +kernel
theorem dX12_oddBy_22 : decode cX12_oddBy 22 = .ok (.iload_n 2, 1) := by decide +kernel
theorem dX12_oddBy_23 : decode cX12_oddBy 23 = .ok (.iconst 1, 1) := by decide +kernel
theorem dX12_oddBy_24 : decode cX12_oddBy 24 = .ok (.isub, 1) := by decide +kernel
theorem dX12_oddBy_25 : decode cX12_oddBy 25 = .ok (.iload_n 3, 1) := by decide +kernel
theorem dX12_oddBy_26 : decode cX12_oddBy 26 = .ok (.invokevirtual 317, 3) := by decide +kernel
theorem dX12_oddBy_29 : decode cX12_oddBy 29 = .ok (.istore 4, 2) := by decide +kernel
theorem dX12_oddBy_31 : decode cX12_oddBy 31 = .ok (.iload 4, 2) := by decide +kernel
theorem dX12_oddBy_33 : decode cX12_oddBy 33 = .ok (.ifCond .lt 31, 3) := by decide +kernel
theorem dX12_oddBy_36 : decode cX12_oddBy 36 = .ok (.iload 4, 2) := by decide +kernel
theorem dX12_oddBy_38 : decode cX12_oddBy 38 = .ok (.aload_n 0, 1) := by decide +kernel
theorem dX12_oddBy_39 : decode cX12_oddBy 39 = .ok (.iload_n 2, 1) := by decide +kernel
theorem dX12_oddBy_40 : decode cX12_oddBy 40 = .ok (.iconst 1, 1) := by decide +kernel
theorem dX12_oddBy_41 : decode cX12_oddBy 41 = .ok (.iadd, 1) := by decide +kernel
theorem dX12_oddBy_42 : decode cX12_oddBy 42 = .ok (.iload_n 3, 1) := by decide +kernel
theorem dX12_oddBy_43 : decode cX12_oddBy 43 = .ok (.invokevirtual 317, 3) := by decide +kernel
theorem dX12_oddBy_46 : decode cX12_oddBy 46 = .ok (.if_icmp .ne 18, 3) := by decide +kernel
theorem dX12_oddBy_49 : decode cX12_oddBy 49 = .ok (.iload 4, 2) := by decide +kernel
theorem dX12_oddBy_51 : decode cX12_oddBy 51 = .ok (.aload_n 0, 1) := by decide +kernel
theorem dX12_oddBy_52 : decode cX12_oddBy 52 = .ok (.getfield 117, 3) := by decide +kernel
theorem dX12_oddBy_55 : decode cX12_oddBy 55 = .ok (.iload_n 1, 1) := by decide +kernel
theorem dX12_oddBy_56 : decode cX12_oddBy 56 = .ok (.iaload, 1) := by decide +kernel
theorem dX12_oddBy_57 : decode cX12_oddBy 57 = .ok (.if_icmp .eq 7, 3) := by decide +kernel
theorem dX12_oddBy_60 : decode cX12_oddBy 60 = .ok (.iload_n 1, 1) := by decide +kernel
theorem dX12_oddBy_61 : decode cX12_oddBy 61 = .ok (.iconst 1, 1) := by decide +kernel
theorem dX12_oddBy_62 : decode cX12_oddBy 62 = .ok (.isub, 1) := by decide +kernel
theorem dX12_oddBy_63 : decode cX12_oddBy 63 = .ok (.ireturn, 1) := by decide +kernel
theorem dX12_oddBy_64 : decode cX12_oddBy 64 = .ok (.aload_n 0, 1) := by decide +kernel
theorem dX12_oddBy_65 : decode cX12_oddBy 65 = .ok (.iload_n 2, 1) := by decide +kernel
theorem dX12_oddBy_66 : decode cX12_oddBy 66 = .ok (.iload_n 3, 1) := by decide +kernel
theorem dX12_oddBy_67 : decode cX12_oddBy 67 = .ok (.iconst 1, 1) := by decide +kernel
theorem dX12_oddBy_68 : decode cX12_oddBy 68 = .ok (.isub, 1) := by decide +kernel
theorem dX12_oddBy_69 : decode cX12_oddBy 69 = .ok (.invokevirtual 317, 3) := by decide +kernel
theorem dX12_oddBy_72 : decode cX12_oddBy 72 = .ok (.istore 5, 2) := by decide +kernel
theorem dX12_oddBy_74 : decode cX12_oddBy 74 = .ok (.iload 5, 2) := by decide +kernel
theorem dX12_oddBy_76 : decode cX12_oddBy 76 = .ok (.ifCond .lt 34, 3) := by decide +kernel
theorem dX12_oddBy_79 : decode cX12_oddBy 79 = .ok (.iload 5, 2) := by decide +kernel
theorem dX12_oddBy_81 : decode cX12_oddBy 81 = .ok (.aload_n 0, 1) := by decide +kernel
theorem dX12_oddBy_82 : decode cX12_oddBy 82 = .ok (.iload_n 2, 1) := by decide +kernel
theorem dX12_oddBy_83 : decode cX12_oddBy 83 = .ok (.iload_n 3, 1) := by decide +kernel
theorem dX12_oddBy_84 : decode cX12_oddBy 84 = .ok (.iconst 1, 1) := by decide +kernel
theorem dX12_oddBy_85 : decode cX12_oddBy 85 = .ok (.iadd, 1) := by decide +kernel
theorem dX12_oddBy_86 : decode cX12_oddBy 86 = .ok (.invokevirtual 317, 3) := by decide +kernel
theorem dX12_oddBy_89 : decode cX12_oddBy 89 = .ok (.if_icmp .ne 21, 3) := by decide +kernel
theorem dX12_oddBy_92 : decode cX12_oddBy 92 = .ok (.iload 5, 2) := by decide +kernel
theorem dX12_oddBy_94 : decode cX12_oddBy 94 = .ok (.aload_n 0, 1) := by decide +kernel
theorem dX12_oddBy_95 : decode cX12_oddBy 95 = .ok (.getfield 117, 3) := by decide +kernel
theorem dX12_oddBy_98 : decode cX12_oddBy 98 = .ok (.iload_n 1, 1) := by decide +kernel
theorem dX12_oddBy_99 : decode cX12_oddBy 99 = .ok (.iaload, 1) := by decide +kernel
theorem dX12_oddBy_100 : decode cX12_oddBy 100 = .ok (.if_icmp .eq 10, 3) := by decide +kernel
theorem dX12_oddBy_103 : decode cX12_oddBy 103 = .ok (.iload_n 1, 1) := by decide +kernel
theorem dX12_oddBy_104 : decode cX12_oddBy 104 = .ok (.bipush 12, 2) := by decide +kernel
theorem dX12_oddBy_106 : decode cX12_oddBy 106 = .ok (.isub, 1) := by decide +kernel
theorem dX12_oddBy_107 : decode cX12_oddBy 107 = .ok (.goto 4, 3) := by decide +kernel
theorem dX12_oddBy_110 : decode cX12_oddBy 110 = .ok (.iconst (-1), 1) := by decide +kernel
theorem dX12_oddBy_111 : decode cX12_oddBy 111 = .ok (.ireturn, 1) := by decide +kernel
theorem dX12_shortBy_0 : decode cX12_shortBy 0 = .ok (.aload_n 0, 1) := by decide +kernel
theorem dX12_shortBy_1 : decode cX12_shortBy 1 = .ok (.getfield 68, 3) := by decide +kernel
theorem dX12_shortBy_4 : decode cX12_shortBy 4 = .ok (.iload_n 2, 1) := by decide +kernel
theorem dX12_shortBy_5 : decode cX12_shortBy 5 = .ok (.iconst 2, 1) := by decide +kernel
theorem dX12_shortBy_6 : decode cX12_shortBy 6 = .ok (.iadd, 1) := by decide +kernel
theorem dX12_shortBy_7 : decode cX12_shortBy 7 = .ok (.iaload, 1) := by decide +kernel
theorem dX12_shortBy_8 : decode cX12_shortBy 8 = .ok (.istore 4, 2) := by decide +kernel
theorem dX12_shortBy_10 : decode cX12_shortBy 10 = .ok (.aload_n 0, 1) := by decide +kernel
theorem dX12_shortBy_11 : decode cX12_shortBy 11 = .ok (.getfield 71, 3) := by decide +kernel
theorem dX12_shortBy_14 : decode cX12_shortBy 14 = .ok (.iload_n 2, 1) := by decide +kernel
theorem dX12_shortBy_15 : decode cX12_shortBy 15 = .ok (.iconst 2, 1) := by decide +kernel
theorem dX12_shortBy_16 : decode cX12_shortBy 16 = .ok (.iadd, 1) := by decide +kernel
theorem dX12_shortBy_17 : decode cX12_shortBy 17 = .ok (.iaload, 1) := by decide +kernel
theorem dX12_shortBy_18 : decode cX12_shortBy 18 = .ok (.istore 5, 2) := by decide +kernel
theorem dX12_shortBy_20 : decode cX12_shortBy 20 = .ok (.iload_n 3, 1) := by decide +kernel
theorem dX12_shortBy_21 : decode cX12_shortBy 21 = .ok (.ifCond .eq 17, 3) := by decide +kernel
theorem dX12_shortBy_24 : decode cX12_shortBy 24 = .ok (.aload_n 0, 1) := by decide +kernel
theorem dX12_shortBy_25 : decode cX12_shortBy 25 = .ok (.getfield 68, 3) := by decide +kernel
theorem dX12_shortBy_28 : decode cX12_shortBy 28 = .ok (.iload_n 2, 1) := by decide +kernel
theorem dX12_shortBy_29 : decode cX12_shortBy 29 = .ok (.iaload, 1) := by decide +kernel
theorem dX12_shortBy_30 : decode cX12_shortBy 30 = .ok (.iload 4, 2) := by decide +kernel
theorem dX12_shortBy_32 : decode cX12_shortBy 32 = .ok (.if_icmp .eq 19, 3) := by decide +kernel
theorem dX12_shortBy_35 : decode cX12_shortBy 35 = .ok (.goto 14, 3) := by decide +kernel
theorem dX12_shortBy_38 : decode cX12_shortBy 38 = .ok (.aload_n 0, 1) := by decide +kernel
theorem dX12_shortBy_39 : decode cX12_shortBy 39 = .ok (.getfield 71, 3) := by decide +kernel
theorem dX12_shortBy_42 : decode cX12_shortBy 42 = .ok (.iload_n 2, 1) := by decide +kernel
theorem dX12_shortBy_43 : decode cX12_shortBy 43 = .ok (.iaload, 1) := by decide +kernel
theorem dX12_shortBy_44 : decode cX12_shortBy 44 = .ok (.iload 5, 2) := by decide +kernel
theorem dX12_shortBy_46 : decode cX12_shortBy 46 = .ok (.if_icmp .eq 5, 3) := by decide +kernel
theorem dX12_shortBy_49 : decode cX12_shortBy 49 = .ok (.iconst (-1), 1) := by decide +kernel
theorem dX12_shortBy_50 : decode cX12_shortBy 50 = .ok (.ireturn, 1) := by decide +kernel
theorem dX12_shortBy_51 : decode cX12_shortBy 51 = .ok (.bipush 12, 2) := by decide +kernel
theorem dX12_shortBy_53 : decode cX12_shortBy 53 = .ok (.iload 5, 2) := by decide +kernel
theorem dX12_shortBy_55 : decode cX12_shortBy 55 = .ok (.imul, 1) := by decide +kernel
theorem dX12_shortBy_56 : decode cX12_shortBy 56 = .ok (.iload 4, 2) := by decide +kernel
theorem dX12_shortBy_58 : decode cX12_shortBy 58 = .ok (.iadd, 1) := by decide +kernel
theorem dX12_shortBy_59 : decode cX12_shortBy 59 = .ok (.istore 6, 2) := by decide +kernel
theorem dX12_shortBy_61 : decode cX12_shortBy 61 = .ok (.iload_n 3, 1) := by decide +kernel
theorem dX12_shortBy_62 : decode cX12_shortBy 62 = .ok (.ifCond .eq 13, 3) := by decide +kernel
theorem dX12_shortBy_65 : decode cX12_shortBy 65 = .ok (.iload 5, 2) := by decide +kernel
theorem dX12_shortBy_67 : decode cX12_shortBy 67 = .ok (.bipush 23, 2) := by decide +kernel
theorem dX12_shortBy_69 : decode cX12_shortBy 69 = .ok (.if_icmp .ne 15, 3) := by decide +kernel
theorem dX12_shortBy_72 : decode cX12_shortBy 72 = .ok (.goto 10, 3) := by decide +kernel
theorem dX12_shortBy_75 : decode cX12_shortBy 75 = .ok (.iload 4, 2) := by decide +kernel
theorem dX12_shortBy_77 : decode cX12_shortBy 77 = .ok (.bipush 11, 2) := by decide +kernel
theorem dX12_shortBy_79 : decode cX12_shortBy 79 = .ok (.if_icmp .ne 5, 3) := by decide +kernel
theorem dX12_shortBy_82 : decode cX12_shortBy 82 = .ok (.iconst (-1), 1) := by decide +kernel
theorem dX12_shortBy_83 : decode cX12_shortBy 83 = .ok (.ireturn, 1) := by decide +kernel
theorem dX12_shortBy_84 : decode cX12_shortBy 84 = .ok (.iload_n 3, 1) := by decide +kernel
theorem dX12_shortBy_85 : decode cX12_shortBy 85 = .ok (.ifCond .eq 11, 3) := by decide +kernel
theorem dX12_shortBy_88 : decode cX12_shortBy 88 = .ok (.iload 6, 2) := by decide +kernel
theorem dX12_shortBy_90 : decode cX12_shortBy 90 = .ok (.bipush 12, 2) := by decide +kernel
theorem dX12_shortBy_92 : decode cX12_shortBy 92 = .ok (.iadd, 1) := by decide +kernel
theorem dX12_shortBy_93 : decode cX12_shortBy 93 = .ok (.goto 7, 3) := by decide +kernel
theorem dX12_shortBy_96 : decode cX12_shortBy 96 = .ok (.iload 6, 2) := by decide +kernel
theorem dX12_shortBy_98 : decode cX12_shortBy 98 = .ok (.iconst 1, 1) := by decide +kernel
theorem dX12_shortBy_99 : decode cX12_shortBy 99 = .ok (.iadd, 1) := by decide +kernel
theorem dX12_shortBy_100 : decode cX12_shortBy 100 = .ok (.istore 7, 2) := by decide +kernel
theorem dX12_shortBy_102 : decode cX12_shortBy 102 = .ok (.iload 7, 2) := by decide +kernel
theorem dX12_shortBy_104 : decode cX12_shortBy 104 = .ok (.iload_n 1, 1) := by decide +kernel
theorem dX12_shortBy_105 : decode cX12_shortBy 105 = .ok (.if_icmp .eq 46, 3) := by decide +kernel
theorem dX12_shortBy_108 : decode cX12_shortBy 108 = .ok (.aload_n 0, 1) := by decide +kernel
theorem dX12_shortBy_109 : decode cX12_shortBy 109 = .ok (.getfield 80, 3) := by decide +kernel
theorem dX12_shortBy_112 : decode cX12_shortBy 112 = .ok (.iload 7, 2) := by decide +kernel
theorem dX12_shortBy_114 : decode cX12_shortBy 114 = .ok (.iaload, 1) := by decide +kernel
theorem dX12_shortBy_115 : decode cX12_shortBy 115 = .ok (.iconst 1, 1) := by decide +kernel
theorem dX12_shortBy_116 : decode cX12_shortBy 116 = .ok (.if_icmp .eq 31, 3) := by decide +kernel
theorem dX12_shortBy_119 : decode cX12_shortBy 119 = .ok (.aload_n 0, 1) := by decide +kernel
theorem dX12_shortBy_120 : decode cX12_shortBy 120 = .ok (.getfield 80, 3) := by decide +kernel
theorem dX12_shortBy_123 : decode cX12_shortBy 123 = .ok (.iload 7, 2) := by decide +kernel
theorem dX12_shortBy_125 : decode cX12_shortBy 125 = .ok (.iaload, 1) := by decide +kernel
theorem dX12_shortBy_126 : decode cX12_shortBy 126 = .ok (.iconst 2, 1) := by decide +kernel
theorem dX12_shortBy_127 : decode cX12_shortBy 127 = .ok (.if_icmp .ne 24, 3) := by decide +kernel
theorem dX12_shortBy_130 : decode cX12_shortBy 130 = .ok (.aload_n 0, 1) := by decide +kernel
theorem dX12_shortBy_131 : decode cX12_shortBy 131 = .ok (.getfield 117, 3) := by decide +kernel
theorem dX12_shortBy_134 : decode cX12_shortBy 134 = .ok (.iload 7, 2) := by decide +kernel
theorem dX12_shortBy_136 : decode cX12_shortBy 136 = .ok (.iaload, 1) := by decide +kernel
theorem dX12_shortBy_137 : decode cX12_shortBy 137 = .ok (.aload_n 0, 1) := by decide +kernel
theorem dX12_shortBy_138 : decode cX12_shortBy 138 = .ok (.getfield 117, 3) := by decide +kernel
theorem dX12_shortBy_141 : decode cX12_shortBy 141 = .ok (.iload 6, 2) := by decide +kernel
theorem dX12_shortBy_143 : decode cX12_shortBy 143 = .ok (.iaload, 1) := by decide +kernel
theorem dX12_shortBy_144 : decode cX12_shortBy 144 = .ok (.if_icmp .ne 7, 3) := by decide +kernel
theorem dX12_shortBy_147 : decode cX12_shortBy 147 = .ok (.iconst 1, 1) := by decide +kernel
theorem dX12_shortBy_148 : decode cX12_shortBy 148 = .ok (.goto 4, 3) := by decide +kernel
theorem dX12_shortBy_151 : decode cX12_shortBy 151 = .ok (.iconst 0, 1) := by decide +kernel
theorem dX12_shortBy_152 : decode cX12_shortBy 152 = .ok (.istore 8, 2) := by decide +kernel
theorem dX12_shortBy_154 : decode cX12_shortBy 154 = .ok (.iload 8, 2) := by decide +kernel
theorem dX12_shortBy_156 : decode cX12_shortBy 156 = .ok (.ifCond .eq 8, 3) := by decide +kernel
theorem dX12_shortBy_159 : decode cX12_shortBy 159 = .ok (.iload 7, 2) := by decide +kernel
theorem dX12_shortBy_161 : decode cX12_shortBy 161 = .ok (.goto 4, 3) := by decide +kernel
theorem dX12_shortBy_164 : decode cX12_shortBy 164 = .ok (.iconst (-1), 1) := by decide +kernel
theorem dX12_shortBy_165 : decode cX12_shortBy 165 = .ok (.ireturn, 1) := by decide +kernel
theorem dX12_findShort_0 : decode cX12_findShort 0 = .ok (.iconst 0, 1) := by decide +kernel
theorem dX12_findShort_1 : decode cX12_findShort 1 = .ok (.istore_n 2, 1) := by decide +kernel
theorem dX12_findShort_2 : decode cX12_findShort 2 = .ok (.iload_n 2, 1) := by decide +kernel
theorem dX12_findShort_3 : decode cX12_findShort 3 = .ok (.aload_n 0, 1) := by decide +kernel
theorem dX12_findShort_4 : decode cX12_findShort 4 = .ok (.getfield 77, 3) := by decide +kernel
theorem dX12_findShort_7 : decode cX12_findShort 7 = .ok (.iload_n 1, 1) := by decide +kernel
theorem dX12_findShort_8 : decode cX12_findShort 8 = .ok (.iaload, 1) := by decide +kernel
theorem dX12_findShort_9 : decode cX12_findShort 9 = .ok (.if_icmp .ge 74, 3) := by decide +kernel
theorem dX12_findShort_12 : decode cX12_findShort 12 = .ok (.bipush 120, 2) := by decide +kernel
theorem dX12_findShort_14 : decode cX12_findShort 14 = .ok (.iload_n 1, 1) := by decide +kernel
theorem dX12_findShort_15 : decode cX12_findShort 15 = .ok (.imul, 1) := by decide +kernel
theorem dX12_findShort_16 : decode cX12_findShort 16 = .ok (.iload_n 2, 1) := by decide +kernel
theorem dX12_findShort_17 : decode cX12_findShort 17 = .ok (.iadd, 1) := by decide +kernel
theorem dX12_findShort_18 : decode cX12_findShort 18 = .ok (.istore_n 3, 1) := by decide +kernel
theorem dX12_findShort_19 : decode cX12_findShort 19 = .ok (.aload_n 0, 1) := by decide +kernel
theorem dX12_findShort_20 : decode cX12_findShort 20 = .ok (.getfield 65, 3) := by decide +kernel
theorem dX12_findShort_23 : decode cX12_findShort 23 = .ok (.iload_n 3, 1) := by decide +kernel
theorem dX12_findShort_24 : decode cX12_findShort 24 = .ok (.iaload, 1) := by decide +kernel
theorem dX12_findShort_25 : decode cX12_findShort 25 = .ok (.iconst 2, 1) := by decide +kernel
theorem dX12_findShort_26 : decode cX12_findShort 26 = .ok (.if_icmp .ne 51, 3) := by decide +kernel
theorem dX12_findShort_29 : decode cX12_findShort 29 = .ok (.aload_n 0, 1) := by decide +kernel
theorem dX12_findShort_30 : decode cX12_findShort 30 = .ok (.iload_n 1, 1) := by decide +kernel
theorem dX12_findShort_31 : decode cX12_findShort 31 = .ok (.iload_n 3, 1) := by decide +kernel
theorem dX12_findShort_32 : decode cX12_findShort 32 = .ok (.iconst 2, 1) := by decide +kernel
theorem dX12_findShort_33 : decode cX12_findShort 33 = .ok (.iadd, 1) := by decide +kernel
theorem dX12_findShort_34 : decode cX12_findShort 34 = .ok (.iconst 1, 1) := by decide +kernel
theorem dX12_findShort_35 : decode cX12_findShort 35 = .ok (.invokevirtual 320, 3) := by decide +kernel
theorem dX12_findShort_38 : decode cX12_findShort 38 = .ok (.istore 4, 2) := by decide +kernel
theorem dX12_findShort_40 : decode cX12_findShort 40 = .ok (.iload 4, 2) := by decide +kernel
theorem dX12_findShort_42 : decode cX12_findShort 42 = .ok (.ifCond .lt 11, 3) := by decide +kernel
theorem dX12_findShort_45 : decode cX12_findShort 45 = .ok (.aload_n 0, 1) := by decide +kernel
theorem dX12_findShort_46 : decode cX12_findShort 46 = .ok (.iconst 3, 1) := by decide +kernel
theorem dX12_findShort_47 : decode cX12_findShort 47 = .ok (.iload_n 1, 1) := by decide +kernel
theorem dX12_findShort_48 : decode cX12_findShort 48 = .ok (.iload 4, 2) := by decide +kernel
theorem dX12_findShort_50 : decode cX12_findShort 50 = .ok (.invokevirtual 324, 3) := by decide +kernel
theorem dX12_findShort_53 : decode cX12_findShort 53 = .ok (.aload_n 0, 1) := by decide +kernel
theorem dX12_findShort_54 : decode cX12_findShort 54 = .ok (.iload_n 1, 1) := by decide +kernel
theorem dX12_findShort_55 : decode cX12_findShort 55 = .ok (.iload_n 3, 1) := by decide +kernel
theorem dX12_findShort_56 : decode cX12_findShort 56 = .ok (.iconst 2, 1) := by decide +kernel
theorem dX12_findShort_57 : decode cX12_findShort 57 = .ok (.iadd, 1) := by decide +kernel
theorem dX12_findShort_58 : decode cX12_findShort 58 = .ok (.iconst 0, 1) := by decide +kernel
theorem dX12_findShort_59 : decode cX12_findShort 59 = .ok (.invokevirtual 320, 3) := by decide +kernel
theorem dX12_findShort_62 : decode cX12_findShort 62 = .ok (.istore 5, 2) := by decide +kernel
theorem dX12_findShort_64 : decode cX12_findShort 64 = .ok (.iload 5, 2) := by decide +kernel
theorem dX12_findShort_66 : decode cX12_findShort 66 = .ok (.ifCond .lt 11, 3) := by decide +kernel
theorem dX12_findShort_69 : decode cX12_findShort 69 = .ok (.aload_n 0, 1) := by decide +kernel
theorem dX12_findShort_70 : decode cX12_findShort 70 = .ok (.iconst 3, 1) := by decide +kernel
theorem dX12_findShort_71 : decode cX12_findShort 71 = .ok (.iload_n 1, 1) := by decide +kernel
theorem dX12_findShort_72 : decode cX12_findShort 72 = .ok (.iload 5, 2) := by decide +kernel
theorem dX12_findShort_74 : decode cX12_findShort 74 = .ok (.invokevirtual 324, 3) := by decide +kernel
theorem dX12_findShort_77 : decode cX12_findShort 77 = .ok (.iinc 2 1, 3) := by decide +kernel
theorem dX12_findShort_80 : decode cX12_findShort 80 = .ok (.goto (-78), 3) := by decide +kernel
theorem dX12_findShort_83 : decode cX12_findShort 83 = .ok (.return_, 1) := by decide +kernel
theorem dX12_leastTwice_0 : decode cX12_leastTwice 0 = .ok (.iconst 0, 1) := by decide +kernel
theorem dX12_leastTwice_1 : decode cX12_leastTwice 1 = .ok (.istore_n 2, 1) := by decide +kernel
theorem dX12_leastTwice_2 : decode cX12_leastTwice 2 = .ok (.iload_n 2, 1) := by decide +kernel
theorem dX12_leastTwice_3 : decode cX12_leastTwice 3 = .ok (.sipush 288, 3) := by decide +kernel
theorem dX12_leastTwice_6 : decode cX12_leastTwice 6 = .ok (.if_icmp .ge 27, 3) := by decide +kernel
theorem dX12_leastTwice_9 : decode cX12_leastTwice 9 = .ok (.aload_n 0, 1) := by decide +kernel
theorem dX12_leastTwice_10 : decode cX12_leastTwice 10 = .ok (.getfield 121, 3) := by decide +kernel
theorem dX12_leastTwice_13 : decode cX12_leastTwice 13 = .ok (.sipush 288, 3) := by decide +kernel
theorem dX12_leastTwice_16 : decode cX12_leastTwice 16 = .ok (.iload_n 1, 1) := by decide +kernel
theorem dX12_leastTwice_17 : decode cX12_leastTwice 17 = .ok (.imul, 1) := by decide +kernel
theorem dX12_leastTwice_18 : decode cX12_leastTwice 18 = .ok (.iload_n 2, 1) := by decide +kernel
theorem dX12_leastTwice_19 : decode cX12_leastTwice 19 = .ok (.iadd, 1) := by decide +kernel
theorem dX12_leastTwice_20 : decode cX12_leastTwice 20 = .ok (.iaload, 1) := by decide +kernel
theorem dX12_leastTwice_21 : decode cX12_leastTwice 21 = .ok (.iconst 1, 1) := by decide +kernel
theorem dX12_leastTwice_22 : decode cX12_leastTwice 22 = .ok (.if_icmp .le 5, 3) := by decide +kernel
theorem dX12_leastTwice_25 : decode cX12_leastTwice 25 = .ok (.iload_n 2, 1) := by decide +kernel
theorem dX12_leastTwice_26 : decode cX12_leastTwice 26 = .ok (.ireturn, 1) := by decide +kernel
theorem dX12_leastTwice_27 : decode cX12_leastTwice 27 = .ok (.iinc 2 1, 3) := by decide +kernel
theorem dX12_leastTwice_30 : decode cX12_leastTwice 30 = .ok (.goto (-28), 3) := by decide +kernel
theorem dX12_leastTwice_33 : decode cX12_leastTwice 33 = .ok (.iconst (-1), 1) := by decide +kernel
theorem dX12_leastTwice_34 : decode cX12_leastTwice 34 = .ok (.ireturn, 1) := by decide +kernel
theorem dX12_readers_0 : decode cX12_readers 0 = .ok (.iconst 0, 1) := by decide +kernel
theorem dX12_readers_1 : decode cX12_readers 1 = .ok (.istore_n 2, 1) := by decide +kernel
theorem dX12_readers_2 : decode cX12_readers 2 = .ok (.iconst 0, 1) := by decide +kernel
theorem dX12_readers_3 : decode cX12_readers 3 = .ok (.istore_n 3, 1) := by decide +kernel
theorem dX12_readers_4 : decode cX12_readers 4 = .ok (.iload_n 3, 1) := by decide +kernel
theorem dX12_readers_5 : decode cX12_readers 5 = .ok (.sipush 288, 3) := by decide +kernel
theorem dX12_readers_8 : decode cX12_readers 8 = .ok (.if_icmp .ge 29, 3) := by decide +kernel
theorem dX12_readers_11 : decode cX12_readers 11 = .ok (.iload_n 2, 1) := by decide +kernel
theorem dX12_readers_12 : decode cX12_readers 12 = .ok (.aload_n 0, 1) := by decide +kernel
theorem dX12_readers_13 : decode cX12_readers 13 = .ok (.getfield 96, 3) := by decide +kernel
theorem dX12_readers_16 : decode cX12_readers 16 = .ok (.iload_n 3, 1) := by decide +kernel
theorem dX12_readers_17 : decode cX12_readers 17 = .ok (.iload_n 1, 1) := by decide +kernel
theorem dX12_readers_18 : decode cX12_readers 18 = .ok (.invokestatic 222, 3) := by decide +kernel
theorem dX12_readers_21 : decode cX12_readers 21 = .ok (.ifCond .eq 7, 3) := by decide +kernel
theorem dX12_readers_24 : decode cX12_readers 24 = .ok (.iconst 1, 1) := by decide +kernel
theorem dX12_readers_25 : decode cX12_readers 25 = .ok (.goto 4, 3) := by decide +kernel
theorem dX12_readers_28 : decode cX12_readers 28 = .ok (.iconst 0, 1) := by decide +kernel
theorem dX12_readers_29 : decode cX12_readers 29 = .ok (.iadd, 1) := by decide +kernel
theorem dX12_readers_30 : decode cX12_readers 30 = .ok (.istore_n 2, 1) := by decide +kernel
theorem dX12_readers_31 : decode cX12_readers 31 = .ok (.iinc 3 1, 3) := by decide +kernel
theorem dX12_readers_34 : decode cX12_readers 34 = .ok (.goto (-30), 3) := by decide +kernel
theorem dX12_readers_37 : decode cX12_readers 37 = .ok (.iload_n 2, 1) := by decide +kernel
theorem dX12_readers_38 : decode cX12_readers 38 = .ok (.ireturn, 1) := by decide +kernel
theorem dX12_check_0 : decode cX12_check 0 = .ok (.aload_n 0, 1) := by decide +kernel
theorem dX12_check_1 : decode cX12_check 1 = .ok (.iconst 0, 1) := by decide +kernel
theorem dX12_check_2 : decode cX12_check 2 = .ok (.putfield 1, 3) := by decide +kernel
theorem dX12_check_5 : decode cX12_check 5 = .ok (.aload_n 0, 1) := by decide +kernel
theorem dX12_check_6 : decode cX12_check 6 = .ok (.iconst 0, 1) := by decide +kernel
theorem dX12_check_7 : decode cX12_check 7 = .ok (.putfield 314, 3) := by decide +kernel
theorem dX12_check_10 : decode cX12_check 10 = .ok (.iconst 0, 1) := by decide +kernel
theorem dX12_check_11 : decode cX12_check 11 = .ok (.istore_n 1, 1) := by decide +kernel
theorem dX12_check_12 : decode cX12_check 12 = .ok (.iload_n 1, 1) := by decide +kernel
theorem dX12_check_13 : decode cX12_check 13 = .ok (.sipush 288, 3) := by decide +kernel
theorem dX12_check_16 : decode cX12_check 16 = .ok (.if_icmp .ge 133, 3) := by decide +kernel
theorem dX12_check_19 : decode cX12_check 19 = .ok (.aload_n 0, 1) := by decide +kernel
theorem dX12_check_20 : decode cX12_check 20 = .ok (.iload_n 1, 1) := by decide +kernel
theorem dX12_check_21 : decode cX12_check 21 = .ok (.invokevirtual 327, 3) := by decide +kernel
theorem dX12_check_24 : decode cX12_check 24 = .ok (.istore_n 2, 1) := by decide +kernel
theorem dX12_check_25 : decode cX12_check 25 = .ok (.iload_n 2, 1) := by decide +kernel
theorem dX12_check_26 : decode cX12_check 26 = .ok (.ifCond .lt 24, 3) := by decide +kernel
theorem dX12_check_29 : decode cX12_check 29 = .ok (.aload_n 0, 1) := by decide +kernel
theorem dX12_check_30 : decode cX12_check 30 = .ok (.aload_n 0, 1) := by decide +kernel
theorem dX12_check_31 : decode cX12_check 31 = .ok (.getfield 80, 3) := by decide +kernel
theorem dX12_check_34 : decode cX12_check 34 = .ok (.iload_n 1, 1) := by decide +kernel
theorem dX12_check_35 : decode cX12_check 35 = .ok (.iaload, 1) := by decide +kernel
theorem dX12_check_36 : decode cX12_check 36 = .ok (.iconst 2, 1) := by decide +kernel
theorem dX12_check_37 : decode cX12_check 37 = .ok (.if_icmp .ne 7, 3) := by decide +kernel
theorem dX12_check_40 : decode cX12_check 40 = .ok (.iconst 1, 1) := by decide +kernel
theorem dX12_check_41 : decode cX12_check 41 = .ok (.goto 4, 3) := by decide +kernel
theorem dX12_check_44 : decode cX12_check 44 = .ok (.iconst 2, 1) := by decide +kernel
theorem dX12_check_45 : decode cX12_check 45 = .ok (.iload_n 1, 1) := by decide +kernel
theorem dX12_check_46 : decode cX12_check 46 = .ok (.iload_n 2, 1) := by decide +kernel
theorem dX12_check_47 : decode cX12_check 47 = .ok (.invokevirtual 324, 3) := by decide +kernel
theorem dX12_check_50 : decode cX12_check 50 = .ok (.aload_n 0, 1) := by decide +kernel
theorem dX12_check_51 : decode cX12_check 51 = .ok (.getfield 80, 3) := by decide +kernel
theorem dX12_check_54 : decode cX12_check 54 = .ok (.iload_n 1, 1) := by decide +kernel
theorem dX12_check_55 : decode cX12_check 55 = .ok (.iaload, 1) := by decide +kernel
theorem dX12_check_56 : decode cX12_check 56 = .ok (.iconst 2, 1) := by decide +kernel
theorem dX12_check_57 : decode cX12_check 57 = .ok (.if_icmp .ne 8, 3) := by decide +kernel
theorem dX12_check_60 : decode cX12_check 60 = .ok (.aload_n 0, 1) := by decide +kernel
theorem dX12_check_61 : decode cX12_check 61 = .ok (.iload_n 1, 1) := by decide +kernel
theorem dX12_check_62 : decode cX12_check 62 = .ok (.invokevirtual 330, 3) := by decide +kernel
theorem dX12_check_65 : decode cX12_check 65 = .ok (.aload_n 0, 1) := by decide +kernel
theorem dX12_check_66 : decode cX12_check 66 = .ok (.getfield 114, 3) := by decide +kernel
theorem dX12_check_69 : decode cX12_check 69 = .ok (.iload_n 1, 1) := by decide +kernel
theorem dX12_check_70 : decode cX12_check 70 = .ok (.baload, 1) := by decide +kernel
theorem dX12_check_71 : decode cX12_check 71 = .ok (.ifCond .eq 22, 3) := by decide +kernel
theorem dX12_check_74 : decode cX12_check 74 = .ok (.aload_n 0, 1) := by decide +kernel
theorem dX12_check_75 : decode cX12_check 75 = .ok (.iload_n 1, 1) := by decide +kernel
theorem dX12_check_76 : decode cX12_check 76 = .ok (.invokevirtual 333, 3) := by decide +kernel
theorem dX12_check_79 : decode cX12_check 79 = .ok (.ifCond .lt 14, 3) := by decide +kernel
theorem dX12_check_82 : decode cX12_check 82 = .ok (.aload_n 0, 1) := by decide +kernel
theorem dX12_check_83 : decode cX12_check 83 = .ok (.iconst 4, 1) := by decide +kernel
theorem dX12_check_84 : decode cX12_check 84 = .ok (.iload_n 1, 1) := by decide +kernel
theorem dX12_check_85 : decode cX12_check 85 = .ok (.aload_n 0, 1) := by decide +kernel
theorem dX12_check_86 : decode cX12_check 86 = .ok (.iload_n 1, 1) := by decide +kernel
theorem dX12_check_87 : decode cX12_check 87 = .ok (.invokevirtual 333, 3) := by decide +kernel
theorem dX12_check_90 : decode cX12_check 90 = .ok (.invokevirtual 324, 3) := by decide +kernel
theorem dX12_check_93 : decode cX12_check 93 = .ok (.aload_n 0, 1) := by decide +kernel
theorem dX12_check_94 : decode cX12_check 94 = .ok (.getfield 80, 3) := by decide +kernel
theorem dX12_check_97 : decode cX12_check 97 = .ok (.iload_n 1, 1) := by decide +kernel
theorem dX12_check_98 : decode cX12_check 98 = .ok (.iaload, 1) := by decide +kernel
theorem dX12_check_99 : decode cX12_check 99 = .ok (.ifCond .eq 27, 3) := by decide +kernel
theorem dX12_check_102 : decode cX12_check 102 = .ok (.aload_n 0, 1) := by decide +kernel
theorem dX12_check_103 : decode cX12_check 103 = .ok (.iload_n 1, 1) := by decide +kernel
theorem dX12_check_104 : decode cX12_check 104 = .ok (.invokevirtual 336, 3) := by decide +kernel
theorem dX12_check_107 : decode cX12_check 107 = .ok (.ifCond .ne 19, 3) := by decide +kernel
theorem dX12_check_110 : decode cX12_check 110 = .ok (.aload_n 0, 1) := by decide +kernel
theorem dX12_check_111 : decode cX12_check 111 = .ok (.getfield 89, 3) := by decide +kernel
theorem dX12_check_114 : decode cX12_check 114 = .ok (.iload_n 1, 1) := by decide +kernel
theorem dX12_check_115 : decode cX12_check 115 = .ok (.baload, 1) := by decide +kernel
theorem dX12_check_116 : decode cX12_check 116 = .ok (.ifCond .ne 10, 3) := by decide +kernel
theorem dX12_check_119 : decode cX12_check 119 = .ok (.aload_n 0, 1) := by decide +kernel
theorem dX12_check_120 : decode cX12_check 120 = .ok (.iconst 5, 1) := by decide +kernel
theorem dX12_check_121 : decode cX12_check 121 = .ok (.iload_n 1, 1) := by decide +kernel
theorem dX12_check_122 : decode cX12_check 122 = .ok (.iconst (-1), 1) := by decide +kernel
theorem dX12_check_123 : decode cX12_check 123 = .ok (.invokevirtual 324, 3) := by decide +kernel
theorem dX12_check_126 : decode cX12_check 126 = .ok (.aload_n 0, 1) := by decide +kernel
theorem dX12_check_127 : decode cX12_check 127 = .ok (.getfield 111, 3) := by decide +kernel
theorem dX12_check_130 : decode cX12_check 130 = .ok (.iload_n 1, 1) := by decide +kernel
theorem dX12_check_131 : decode cX12_check 131 = .ok (.baload, 1) := by decide +kernel
theorem dX12_check_132 : decode cX12_check 132 = .ok (.ifCond .eq 11, 3) := by decide +kernel
theorem dX12_check_135 : decode cX12_check 135 = .ok (.aload_n 0, 1) := by decide +kernel
theorem dX12_check_136 : decode cX12_check 136 = .ok (.bipush 6, 2) := by decide +kernel
theorem dX12_check_138 : decode cX12_check 138 = .ok (.iload_n 1, 1) := by decide +kernel
theorem dX12_check_139 : decode cX12_check 139 = .ok (.iconst (-1), 1) := by decide +kernel
theorem dX12_check_140 : decode cX12_check 140 = .ok (.invokevirtual 324, 3) := by decide +kernel
theorem dX12_check_143 : decode cX12_check 143 = .ok (.iinc 1 1, 3) := by decide +kernel
theorem dX12_check_146 : decode cX12_check 146 = .ok (.goto (-134), 3) := by decide +kernel
theorem dX12_check_149 : decode cX12_check 149 = .ok (.aload_n 0, 1) := by decide +kernel
theorem dX12_check_150 : decode cX12_check 150 = .ok (.getfield 314, 3) := by decide +kernel
theorem dX12_check_153 : decode cX12_check 153 = .ok (.ireturn, 1) := by decide +kernel
theorem dX12_finding_0 : decode cX12_finding 0 = .ok (.aload_n 0, 1) := by decide +kernel
theorem dX12_finding_1 : decode cX12_finding 1 = .ok (.iconst 0, 1) := by decide +kernel
theorem dX12_finding_2 : decode cX12_finding 2 = .ok (.putfield 1, 3) := by decide +kernel
theorem dX12_finding_5 : decode cX12_finding 5 = .ok (.iload_n 1, 1) := by decide +kernel
theorem dX12_finding_6 : decode cX12_finding 6 = .ok (.ifCond .lt 27, 3) := by decide +kernel
theorem dX12_finding_9 : decode cX12_finding 9 = .ok (.iload_n 1, 1) := by decide +kernel
theorem dX12_finding_10 : decode cX12_finding 10 = .ok (.aload_n 0, 1) := by decide +kernel
theorem dX12_finding_11 : decode cX12_finding 11 = .ok (.getfield 314, 3) := by decide +kernel
theorem dX12_finding_14 : decode cX12_finding 14 = .ok (.if_icmp .ge 19, 3) := by decide +kernel
theorem dX12_finding_17 : decode cX12_finding 17 = .ok (.iload_n 1, 1) := by decide +kernel
theorem dX12_finding_18 : decode cX12_finding 18 = .ok (.sipush 300, 3) := by decide +kernel
theorem dX12_finding_21 : decode cX12_finding 21 = .ok (.if_icmp .ge 12, 3) := by decide +kernel
theorem dX12_finding_24 : decode cX12_finding 24 = .ok (.iload_n 2, 1) := by decide +kernel
theorem dX12_finding_25 : decode cX12_finding 25 = .ok (.ifCond .lt 8, 3) := by decide +kernel
theorem dX12_finding_28 : decode cX12_finding 28 = .ok (.iload_n 2, 1) := by decide +kernel
theorem dX12_finding_29 : decode cX12_finding 29 = .ok (.iconst 2, 1) := by decide +kernel
theorem dX12_finding_30 : decode cX12_finding 30 = .ok (.if_icmp .le 7, 3) := by decide +kernel
theorem dX12_finding_33 : decode cX12_finding 33 = .ok (.iconst (-1), 1) := by decide +kernel
theorem dX12_finding_34 : decode cX12_finding 34 = .ok (.goto 13, 3) := by decide +kernel
theorem dX12_finding_37 : decode cX12_finding 37 = .ok (.aload_n 0, 1) := by decide +kernel
theorem dX12_finding_38 : decode cX12_finding 38 = .ok (.getfield 130, 3) := by decide +kernel
theorem dX12_finding_41 : decode cX12_finding 41 = .ok (.iconst 3, 1) := by decide +kernel
theorem dX12_finding_42 : decode cX12_finding 42 = .ok (.iload_n 1, 1) := by decide +kernel
theorem dX12_finding_43 : decode cX12_finding 43 = .ok (.imul, 1) := by decide +kernel
theorem dX12_finding_44 : decode cX12_finding 44 = .ok (.iload_n 2, 1) := by decide +kernel
theorem dX12_finding_45 : decode cX12_finding 45 = .ok (.iadd, 1) := by decide +kernel
theorem dX12_finding_46 : decode cX12_finding 46 = .ok (.iaload, 1) := by decide +kernel
theorem dX12_finding_47 : decode cX12_finding 47 = .ok (.ireturn, 1) := by decide +kernel
theorem dX12_remembers_0 : decode cX12_remembers 0 = .ok (.iconst 0, 1) := by decide +kernel
theorem dX12_remembers_1 : decode cX12_remembers 1 = .ok (.istore_n 1, 1) := by decide +kernel
theorem dX12_remembers_2 : decode cX12_remembers 2 = .ok (.iload_n 1, 1) := by decide +kernel
theorem dX12_remembers_3 : decode cX12_remembers 3 = .ok (.sipush 288, 3) := by decide +kernel
theorem dX12_remembers_6 : decode cX12_remembers 6 = .ok (.if_icmp .ge 33, 3) := by decide +kernel
theorem dX12_remembers_9 : decode cX12_remembers 9 = .ok (.aload_n 0, 1) := by decide +kernel
theorem dX12_remembers_10 : decode cX12_remembers 10 = .ok (.getfield 133, 3) := by decide +kernel
theorem dX12_remembers_13 : decode cX12_remembers 13 = .ok (.iload_n 1, 1) := by decide +kernel
theorem dX12_remembers_14 : decode cX12_remembers 14 = .ok (.aload_n 0, 1) := by decide +kernel
theorem dX12_remembers_15 : decode cX12_remembers 15 = .ok (.getfield 102, 3) := by decide +kernel
theorem dX12_remembers_18 : decode cX12_remembers 18 = .ok (.iload_n 1, 1) := by decide +kernel
theorem dX12_remembers_19 : decode cX12_remembers 19 = .ok (.iaload, 1) := by decide +kernel
theorem dX12_remembers_20 : decode cX12_remembers 20 = .ok (.iastore, 1) := by decide +kernel
theorem dX12_remembers_21 : decode cX12_remembers 21 = .ok (.aload_n 0, 1) := by decide +kernel
theorem dX12_remembers_22 : decode cX12_remembers 22 = .ok (.getfield 136, 3) := by decide +kernel
theorem dX12_remembers_25 : decode cX12_remembers 25 = .ok (.iload_n 1, 1) := by decide +kernel
theorem dX12_remembers_26 : decode cX12_remembers 26 = .ok (.aload_n 0, 1) := by decide +kernel
theorem dX12_remembers_27 : decode cX12_remembers 27 = .ok (.getfield 105, 3) := by decide +kernel
theorem dX12_remembers_30 : decode cX12_remembers 30 = .ok (.iload_n 1, 1) := by decide +kernel
theorem dX12_remembers_31 : decode cX12_remembers 31 = .ok (.iaload, 1) := by decide +kernel
theorem dX12_remembers_32 : decode cX12_remembers 32 = .ok (.iastore, 1) := by decide +kernel
theorem dX12_remembers_33 : decode cX12_remembers 33 = .ok (.iinc 1 1, 3) := by decide +kernel
theorem dX12_remembers_36 : decode cX12_remembers 36 = .ok (.goto (-34), 3) := by decide +kernel
theorem dX12_remembers_39 : decode cX12_remembers 39 = .ok (.return_, 1) := by decide +kernel
theorem dX12_tells_0 : decode cX12_tells 0 = .ok (.aload_n 0, 1) := by decide +kernel
theorem dX12_tells_1 : decode cX12_tells 1 = .ok (.iconst 0, 1) := by decide +kernel
theorem dX12_tells_2 : decode cX12_tells 2 = .ok (.putfield 339, 3) := by decide +kernel
theorem dX12_tells_5 : decode cX12_tells 5 = .ok (.iconst 0, 1) := by decide +kernel
theorem dX12_tells_6 : decode cX12_tells 6 = .ok (.istore_n 1, 1) := by decide +kernel
theorem dX12_tells_7 : decode cX12_tells 7 = .ok (.iload_n 1, 1) := by decide +kernel
theorem dX12_tells_8 : decode cX12_tells 8 = .ok (.sipush 288, 3) := by decide +kernel
theorem dX12_tells_11 : decode cX12_tells 11 = .ok (.if_icmp .ge 137, 3) := by decide +kernel
theorem dX12_tells_14 : decode cX12_tells 14 = .ok (.aload_n 0, 1) := by decide +kernel
theorem dX12_tells_15 : decode cX12_tells 15 = .ok (.getfield 133, 3) := by decide +kernel
theorem dX12_tells_18 : decode cX12_tells 18 = .ok (.iload_n 1, 1) := by decide +kernel
theorem dX12_tells_19 : decode cX12_tells 19 = .ok (.iaload, 1) := by decide +kernel
theorem dX12_tells_20 : decode cX12_tells 20 = .ok (.aload_n 0, 1) := by decide +kernel
theorem dX12_tells_21 : decode cX12_tells 21 = .ok (.getfield 102, 3) := by decide +kernel
theorem dX12_tells_24 : decode cX12_tells 24 = .ok (.iload_n 1, 1) := by decide +kernel
theorem dX12_tells_25 : decode cX12_tells 25 = .ok (.iaload, 1) := by decide +kernel
theorem dX12_tells_26 : decode cX12_tells 26 = .ok (.if_icmp .ne 18, 3) := by decide +kernel
theorem dX12_tells_29 : decode cX12_tells 29 = .ok (.aload_n 0, 1) := by decide +kernel
theorem dX12_tells_30 : decode cX12_tells 30 = .ok (.getfield 136, 3) := by decide +kernel
theorem dX12_tells_33 : decode cX12_tells 33 = .ok (.iload_n 1, 1) := by decide +kernel
theorem dX12_tells_34 : decode cX12_tells 34 = .ok (.iaload, 1) := by decide +kernel
theorem dX12_tells_35 : decode cX12_tells 35 = .ok (.aload_n 0, 1) := by decide +kernel
theorem dX12_tells_36 : decode cX12_tells 36 = .ok (.getfield 105, 3) := by decide +kernel
theorem dX12_tells_39 : decode cX12_tells 39 = .ok (.iload_n 1, 1) := by decide +kernel
theorem dX12_tells_40 : decode cX12_tells 40 = .ok (.iaload, 1) := by decide +kernel
theorem dX12_tells_41 : decode cX12_tells 41 = .ok (.if_icmp .eq 101, 3) := by decide +kernel
theorem dX12_tells_44 : decode cX12_tells 44 = .ok (.aload_n 0, 1) := by decide +kernel
theorem dX12_tells_45 : decode cX12_tells 45 = .ok (.getfield 139, 3) := by decide +kernel
theorem dX12_tells_48 : decode cX12_tells 48 = .ok (.iconst 5, 1) := by decide +kernel
theorem dX12_tells_49 : decode cX12_tells 49 = .ok (.aload_n 0, 1) := by decide +kernel
theorem dX12_tells_50 : decode cX12_tells 50 = .ok (.getfield 339, 3) := by decide +kernel
theorem dX12_tells_53 : decode cX12_tells 53 = .ok (.imul, 1) := by decide +kernel
theorem dX12_tells_54 : decode cX12_tells 54 = .ok (.iload_n 1, 1) := by decide +kernel
theorem dX12_tells_55 : decode cX12_tells 55 = .ok (.iastore, 1) := by decide +kernel
theorem dX12_tells_56 : decode cX12_tells 56 = .ok (.aload_n 0, 1) := by decide +kernel
theorem dX12_tells_57 : decode cX12_tells 57 = .ok (.getfield 139, 3) := by decide +kernel
theorem dX12_tells_60 : decode cX12_tells 60 = .ok (.iconst 5, 1) := by decide +kernel
theorem dX12_tells_61 : decode cX12_tells 61 = .ok (.aload_n 0, 1) := by decide +kernel
theorem dX12_tells_62 : decode cX12_tells 62 = .ok (.getfield 339, 3) := by decide +kernel
theorem dX12_tells_65 : decode cX12_tells 65 = .ok (.imul, 1) := by decide +kernel
theorem dX12_tells_66 : decode cX12_tells 66 = .ok (.iconst 1, 1) := by decide +kernel
theorem dX12_tells_67 : decode cX12_tells 67 = .ok (.iadd, 1) := by decide +kernel
theorem dX12_tells_68 : decode cX12_tells 68 = .ok (.aload_n 0, 1) := by decide +kernel
theorem dX12_tells_69 : decode cX12_tells 69 = .ok (.getfield 133, 3) := by decide +kernel
theorem dX12_tells_72 : decode cX12_tells 72 = .ok (.iload_n 1, 1) := by decide +kernel
theorem dX12_tells_73 : decode cX12_tells 73 = .ok (.iaload, 1) := by decide +kernel
theorem dX12_tells_74 : decode cX12_tells 74 = .ok (.iastore, 1) := by decide +kernel
theorem dX12_tells_75 : decode cX12_tells 75 = .ok (.aload_n 0, 1) := by decide +kernel
theorem dX12_tells_76 : decode cX12_tells 76 = .ok (.getfield 139, 3) := by decide +kernel
theorem dX12_tells_79 : decode cX12_tells 79 = .ok (.iconst 5, 1) := by decide +kernel
theorem dX12_tells_80 : decode cX12_tells 80 = .ok (.aload_n 0, 1) := by decide +kernel
theorem dX12_tells_81 : decode cX12_tells 81 = .ok (.getfield 339, 3) := by decide +kernel
theorem dX12_tells_84 : decode cX12_tells 84 = .ok (.imul, 1) := by decide +kernel
theorem dX12_tells_85 : decode cX12_tells 85 = .ok (.iconst 2, 1) := by decide +kernel
theorem dX12_tells_86 : decode cX12_tells 86 = .ok (.iadd, 1) := by decide +kernel
theorem dX12_tells_87 : decode cX12_tells 87 = .ok (.aload_n 0, 1) := by decide +kernel
theorem dX12_tells_88 : decode cX12_tells 88 = .ok (.getfield 102, 3) := by decide +kernel
theorem dX12_tells_91 : decode cX12_tells 91 = .ok (.iload_n 1, 1) := by decide +kernel
theorem dX12_tells_92 : decode cX12_tells 92 = .ok (.iaload, 1) := by decide +kernel
theorem dX12_tells_93 : decode cX12_tells 93 = .ok (.iastore, 1) := by decide +kernel
theorem dX12_tells_94 : decode cX12_tells 94 = .ok (.aload_n 0, 1) := by decide +kernel
theorem dX12_tells_95 : decode cX12_tells 95 = .ok (.getfield 139, 3) := by decide +kernel
theorem dX12_tells_98 : decode cX12_tells 98 = .ok (.iconst 5, 1) := by decide +kernel
theorem dX12_tells_99 : decode cX12_tells 99 = .ok (.aload_n 0, 1) := by decide +kernel
theorem dX12_tells_100 : decode cX12_tells 100 = .ok (.getfield 339, 3) := by decide +kernel
theorem dX12_tells_103 : decode cX12_tells 103 = .ok (.imul, 1) := by decide +kernel
theorem dX12_tells_104 : decode cX12_tells 104 = .ok (.iconst 3, 1) := by decide +kernel
theorem dX12_tells_105 : decode cX12_tells 105 = .ok (.iadd, 1) := by decide +kernel
theorem dX12_tells_106 : decode cX12_tells 106 = .ok (.aload_n 0, 1) := by decide +kernel
theorem dX12_tells_107 : decode cX12_tells 107 = .ok (.getfield 136, 3) := by decide +kernel
theorem dX12_tells_110 : decode cX12_tells 110 = .ok (.iload_n 1, 1) := by decide +kernel
theorem dX12_tells_111 : decode cX12_tells 111 = .ok (.iaload, 1) := by decide +kernel
theorem dX12_tells_112 : decode cX12_tells 112 = .ok (.iastore, 1) := by decide +kernel
theorem dX12_tells_113 : decode cX12_tells 113 = .ok (.aload_n 0, 1) := by decide +kernel
theorem dX12_tells_114 : decode cX12_tells 114 = .ok (.getfield 139, 3) := by decide +kernel
theorem dX12_tells_117 : decode cX12_tells 117 = .ok (.iconst 5, 1) := by decide +kernel
theorem dX12_tells_118 : decode cX12_tells 118 = .ok (.aload_n 0, 1) := by decide +kernel
theorem dX12_tells_119 : decode cX12_tells 119 = .ok (.getfield 339, 3) := by decide +kernel
theorem dX12_tells_122 : decode cX12_tells 122 = .ok (.imul, 1) := by decide +kernel
theorem dX12_tells_123 : decode cX12_tells 123 = .ok (.iconst 4, 1) := by decide +kernel
theorem dX12_tells_124 : decode cX12_tells 124 = .ok (.iadd, 1) := by decide +kernel
theorem dX12_tells_125 : decode cX12_tells 125 = .ok (.aload_n 0, 1) := by decide +kernel
theorem dX12_tells_126 : decode cX12_tells 126 = .ok (.getfield 105, 3) := by decide +kernel
theorem dX12_tells_129 : decode cX12_tells 129 = .ok (.iload_n 1, 1) := by decide +kernel
theorem dX12_tells_130 : decode cX12_tells 130 = .ok (.iaload, 1) := by decide +kernel
theorem dX12_tells_131 : decode cX12_tells 131 = .ok (.iastore, 1) := by decide +kernel
theorem dX12_tells_132 : decode cX12_tells 132 = .ok (.aload_n 0, 1) := by decide +kernel
theorem dX12_tells_133 : decode cX12_tells 133 = .ok (.dup, 1) := by decide +kernel
theorem dX12_tells_134 : decode cX12_tells 134 = .ok (.getfield 339, 3) := by decide +kernel
theorem dX12_tells_137 : decode cX12_tells 137 = .ok (.iconst 1, 1) := by decide +kernel
theorem dX12_tells_138 : decode cX12_tells 138 = .ok (.iadd, 1) := by decide +kernel
theorem dX12_tells_139 : decode cX12_tells 139 = .ok (.putfield 339, 3) := by decide +kernel
theorem dX12_tells_142 : decode cX12_tells 142 = .ok (.iinc 1 1, 3) := by decide +kernel
theorem dX12_tells_145 : decode cX12_tells 145 = .ok (.goto (-138), 3) := by decide +kernel
theorem dX12_tells_148 : decode cX12_tells 148 = .ok (.aload_n 0, 1) := by decide +kernel
theorem dX12_tells_149 : decode cX12_tells 149 = .ok (.getfield 339, 3) := by decide +kernel
theorem dX12_tells_152 : decode cX12_tells 152 = .ok (.ireturn, 1) := by decide +kernel
theorem dX12_mend_0 : decode cX12_mend 0 = .ok (.aload_n 0, 1) := by decide +kernel
theorem dX12_mend_1 : decode cX12_mend 1 = .ok (.iconst 0, 1) := by decide +kernel
theorem dX12_mend_2 : decode cX12_mend 2 = .ok (.putfield 1, 3) := by decide +kernel
theorem dX12_mend_5 : decode cX12_mend 5 = .ok (.iload_n 1, 1) := by decide +kernel
theorem dX12_mend_6 : decode cX12_mend 6 = .ok (.invokestatic 198, 3) := by decide +kernel
theorem dX12_mend_9 : decode cX12_mend 9 = .ok (.ifCond .eq 11, 3) := by decide +kernel
theorem dX12_mend_12 : decode cX12_mend 12 = .ok (.aload_n 0, 1) := by decide +kernel
theorem dX12_mend_13 : decode cX12_mend 13 = .ok (.iload_n 1, 1) := by decide +kernel
theorem dX12_mend_14 : decode cX12_mend 14 = .ok (.invokevirtual 327, 3) := by decide +kernel
theorem dX12_mend_17 : decode cX12_mend 17 = .ok (.goto 4, 3) := by decide +kernel
theorem dX12_mend_20 : decode cX12_mend 20 = .ok (.iconst (-1), 1) := by decide +kernel
theorem dX12_mend_21 : decode cX12_mend 21 = .ok (.istore_n 2, 1) := by decide +kernel
theorem dX12_mend_22 : decode cX12_mend 22 = .ok (.iload_n 2, 1) := by decide +kernel
theorem dX12_mend_23 : decode cX12_mend 23 = .ok (.ifCond .lt 12, 3) := by decide +kernel
theorem dX12_mend_26 : decode cX12_mend 26 = .ok (.aload_n 0, 1) := by decide +kernel
theorem dX12_mend_27 : decode cX12_mend 27 = .ok (.iload_n 2, 1) := by decide +kernel
theorem dX12_mend_28 : decode cX12_mend 28 = .ok (.iload_n 1, 1) := by decide +kernel
theorem dX12_mend_29 : decode cX12_mend 29 = .ok (.invokevirtual 210, 3) := by decide +kernel
theorem dX12_mend_32 : decode cX12_mend 32 = .ok (.ifCond .ne 5, 3) := by decide +kernel
theorem dX12_mend_35 : decode cX12_mend 35 = .ok (.iconst (-1), 1) := by decide +kernel
theorem dX12_mend_36 : decode cX12_mend 36 = .ok (.ireturn, 1) := by decide +kernel
theorem dX12_mend_37 : decode cX12_mend 37 = .ok (.aload_n 0, 1) := by decide +kernel
theorem dX12_mend_38 : decode cX12_mend 38 = .ok (.invokevirtual 342, 3) := by decide +kernel
theorem dX12_mend_41 : decode cX12_mend 41 = .ok (.aload_n 0, 1) := by decide +kernel
theorem dX12_mend_42 : decode cX12_mend 42 = .ok (.iload_n 1, 1) := by decide +kernel
theorem dX12_mend_43 : decode cX12_mend 43 = .ok (.invokevirtual 207, 3) := by decide +kernel
theorem dX12_mend_46 : decode cX12_mend 46 = .ok (.aload_n 0, 1) := by decide +kernel
theorem dX12_mend_47 : decode cX12_mend 47 = .ok (.invokevirtual 345, 3) := by decide +kernel
theorem dX12_mend_50 : decode cX12_mend 50 = .ok (.ireturn, 1) := by decide +kernel
theorem dX12_sumAt_0 : decode cX12_sumAt 0 = .ok (.iconst 0, 1) := by decide +kernel
theorem dX12_sumAt_1 : decode cX12_sumAt 1 = .ok (.istore_n 3, 1) := by decide +kernel
theorem dX12_sumAt_2 : decode cX12_sumAt 2 = .ok (.iconst 0, 1) := by decide +kernel
theorem dX12_sumAt_3 : decode cX12_sumAt 3 = .ok (.istore 4, 2) := by decide +kernel
theorem dX12_sumAt_5 : decode cX12_sumAt 5 = .ok (.iload 4, 2) := by decide +kernel
theorem dX12_sumAt_7 : decode cX12_sumAt 7 = .ok (.aload_n 0, 1) := by decide +kernel
theorem dX12_sumAt_8 : decode cX12_sumAt 8 = .ok (.getfield 77, 3) := by decide +kernel
theorem dX12_sumAt_11 : decode cX12_sumAt 11 = .ok (.iload_n 1, 1) := by decide +kernel
theorem dX12_sumAt_12 : decode cX12_sumAt 12 = .ok (.iaload, 1) := by decide +kernel
theorem dX12_sumAt_13 : decode cX12_sumAt 13 = .ok (.if_icmp .ge 36, 3) := by decide +kernel
theorem dX12_sumAt_16 : decode cX12_sumAt 16 = .ok (.aload_n 0, 1) := by decide +kernel
theorem dX12_sumAt_17 : decode cX12_sumAt 17 = .ok (.getfield 65, 3) := by decide +kernel
theorem dX12_sumAt_20 : decode cX12_sumAt 20 = .ok (.bipush 120, 2) := by decide +kernel
theorem dX12_sumAt_22 : decode cX12_sumAt 22 = .ok (.iload_n 1, 1) := by decide +kernel
theorem dX12_sumAt_23 : decode cX12_sumAt 23 = .ok (.imul, 1) := by decide +kernel
theorem dX12_sumAt_24 : decode cX12_sumAt 24 = .ok (.iload 4, 2) := by decide +kernel
theorem dX12_sumAt_26 : decode cX12_sumAt 26 = .ok (.iadd, 1) := by decide +kernel
theorem dX12_sumAt_27 : decode cX12_sumAt 27 = .ok (.iaload, 1) := by decide +kernel
theorem dX12_sumAt_28 : decode cX12_sumAt 28 = .ok (.iconst 2, 1) := by decide +kernel
theorem dX12_sumAt_29 : decode cX12_sumAt 29 = .ok (.if_icmp .ne 14, 3) := by decide +kernel
theorem dX12_sumAt_32 : decode cX12_sumAt 32 = .ok (.iload_n 3, 1) := by decide +kernel
theorem dX12_sumAt_33 : decode cX12_sumAt 33 = .ok (.iload_n 2, 1) := by decide +kernel
theorem dX12_sumAt_34 : decode cX12_sumAt 34 = .ok (.if_icmp .ne 6, 3) := by decide +kernel
theorem dX12_sumAt_37 : decode cX12_sumAt 37 = .ok (.iload 4, 2) := by decide +kernel
theorem dX12_sumAt_39 : decode cX12_sumAt 39 = .ok (.ireturn, 1) := by decide +kernel
theorem dX12_sumAt_40 : decode cX12_sumAt 40 = .ok (.iinc 3 1, 3) := by decide +kernel
theorem dX12_sumAt_43 : decode cX12_sumAt 43 = .ok (.iinc 4 1, 3) := by decide +kernel
theorem dX12_sumAt_46 : decode cX12_sumAt 46 = .ok (.goto (-41), 3) := by decide +kernel
theorem dX12_sumAt_49 : decode cX12_sumAt 49 = .ok (.iconst (-1), 1) := by decide +kernel
theorem dX12_sumAt_50 : decode cX12_sumAt 50 = .ok (.ireturn, 1) := by decide +kernel
theorem dX12_stretch_0 : decode cX12_stretch 0 = .ok (.aload_n 0, 1) := by decide +kernel
theorem dX12_stretch_1 : decode cX12_stretch 1 = .ok (.iconst 0, 1) := by decide +kernel
theorem dX12_stretch_2 : decode cX12_stretch 2 = .ok (.putfield 1, 3) := by decide +kernel
theorem dX12_stretch_5 : decode cX12_stretch 5 = .ok (.iload_n 1, 1) := by decide +kernel
theorem dX12_stretch_6 : decode cX12_stretch 6 = .ok (.invokestatic 198, 3) := by decide +kernel
theorem dX12_stretch_9 : decode cX12_stretch 9 = .ok (.ifCond .eq 22, 3) := by decide +kernel
theorem dX12_stretch_12 : decode cX12_stretch 12 = .ok (.aload_n 0, 1) := by decide +kernel
theorem dX12_stretch_13 : decode cX12_stretch 13 = .ok (.getfield 80, 3) := by decide +kernel
theorem dX12_stretch_16 : decode cX12_stretch 16 = .ok (.iload_n 1, 1) := by decide +kernel
theorem dX12_stretch_17 : decode cX12_stretch 17 = .ok (.iaload, 1) := by decide +kernel
theorem dX12_stretch_18 : decode cX12_stretch 18 = .ok (.iconst 2, 1) := by decide +kernel
theorem dX12_stretch_19 : decode cX12_stretch 19 = .ok (.if_icmp .ne 12, 3) := by decide +kernel
theorem dX12_stretch_22 : decode cX12_stretch 22 = .ok (.aload_n 0, 1) := by decide +kernel
theorem dX12_stretch_23 : decode cX12_stretch 23 = .ok (.iload_n 1, 1) := by decide +kernel
theorem dX12_stretch_24 : decode cX12_stretch 24 = .ok (.iload_n 2, 1) := by decide +kernel
theorem dX12_stretch_25 : decode cX12_stretch 25 = .ok (.invokevirtual 348, 3) := by decide +kernel
theorem dX12_stretch_28 : decode cX12_stretch 28 = .ok (.goto 4, 3) := by decide +kernel
theorem dX12_stretch_31 : decode cX12_stretch 31 = .ok (.iconst (-1), 1) := by decide +kernel
theorem dX12_stretch_32 : decode cX12_stretch 32 = .ok (.istore_n 3, 1) := by decide +kernel
theorem dX12_stretch_33 : decode cX12_stretch 33 = .ok (.iload_n 3, 1) := by decide +kernel
theorem dX12_stretch_34 : decode cX12_stretch 34 = .ok (.ifCond .ge 5, 3) := by decide +kernel
theorem dX12_stretch_37 : decode cX12_stretch 37 = .ok (.iconst (-1), 1) := by decide +kernel
theorem dX12_stretch_38 : decode cX12_stretch 38 = .ok (.ireturn, 1) := by decide +kernel
theorem dX12_stretch_39 : decode cX12_stretch 39 = .ok (.aload_n 0, 1) := by decide +kernel
theorem dX12_stretch_40 : decode cX12_stretch 40 = .ok (.iload_n 1, 1) := by decide +kernel
theorem dX12_stretch_41 : decode cX12_stretch 41 = .ok (.bipush 120, 2) := by decide +kernel
theorem dX12_stretch_43 : decode cX12_stretch 43 = .ok (.iload_n 1, 1) := by decide +kernel
theorem dX12_stretch_44 : decode cX12_stretch 44 = .ok (.imul, 1) := by decide +kernel
theorem dX12_stretch_45 : decode cX12_stretch 45 = .ok (.iload_n 3, 1) := by decide +kernel
theorem dX12_stretch_46 : decode cX12_stretch 46 = .ok (.iadd, 1) := by decide +kernel
theorem dX12_stretch_47 : decode cX12_stretch 47 = .ok (.iconst 2, 1) := by decide +kernel
theorem dX12_stretch_48 : decode cX12_stretch 48 = .ok (.iadd, 1) := by decide +kernel
theorem dX12_stretch_49 : decode cX12_stretch 49 = .ok (.iconst 1, 1) := by decide +kernel
theorem dX12_stretch_50 : decode cX12_stretch 50 = .ok (.invokevirtual 320, 3) := by decide +kernel
theorem dX12_stretch_53 : decode cX12_stretch 53 = .ok (.ifCond .lt 7, 3) := by decide +kernel
theorem dX12_stretch_56 : decode cX12_stretch 56 = .ok (.iconst 1, 1) := by decide +kernel
theorem dX12_stretch_57 : decode cX12_stretch 57 = .ok (.goto 4, 3) := by decide +kernel
theorem dX12_stretch_60 : decode cX12_stretch 60 = .ok (.iconst 0, 1) := by decide +kernel
theorem dX12_stretch_61 : decode cX12_stretch 61 = .ok (.istore 4, 2) := by decide +kernel
theorem dX12_stretch_63 : decode cX12_stretch 63 = .ok (.iload 4, 2) := by decide +kernel
theorem dX12_stretch_65 : decode cX12_stretch 65 = .ok (.ifCond .ne 22, 3) := by decide +kernel
theorem dX12_stretch_68 : decode cX12_stretch 68 = .ok (.aload_n 0, 1) := by decide +kernel
theorem dX12_stretch_69 : decode cX12_stretch 69 = .ok (.iload_n 1, 1) := by decide +kernel
theorem dX12_stretch_70 : decode cX12_stretch 70 = .ok (.bipush 120, 2) := by decide +kernel
theorem dX12_stretch_72 : decode cX12_stretch 72 = .ok (.iload_n 1, 1) := by decide +kernel
theorem dX12_stretch_73 : decode cX12_stretch 73 = .ok (.imul, 1) := by decide +kernel
theorem dX12_stretch_74 : decode cX12_stretch 74 = .ok (.iload_n 3, 1) := by decide +kernel
theorem dX12_stretch_75 : decode cX12_stretch 75 = .ok (.iadd, 1) := by decide +kernel
theorem dX12_stretch_76 : decode cX12_stretch 76 = .ok (.iconst 2, 1) := by decide +kernel
theorem dX12_stretch_77 : decode cX12_stretch 77 = .ok (.iadd, 1) := by decide +kernel
theorem dX12_stretch_78 : decode cX12_stretch 78 = .ok (.iconst 0, 1) := by decide +kernel
theorem dX12_stretch_79 : decode cX12_stretch 79 = .ok (.invokevirtual 320, 3) := by decide +kernel
theorem dX12_stretch_82 : decode cX12_stretch 82 = .ok (.ifCond .ge 5, 3) := by decide +kernel
theorem dX12_stretch_85 : decode cX12_stretch 85 = .ok (.iconst (-1), 1) := by decide +kernel
theorem dX12_stretch_86 : decode cX12_stretch 86 = .ok (.ireturn, 1) := by decide +kernel
theorem dX12_stretch_87 : decode cX12_stretch 87 = .ok (.aload_n 0, 1) := by decide +kernel
theorem dX12_stretch_88 : decode cX12_stretch 88 = .ok (.iload_n 1, 1) := by decide +kernel
theorem dX12_stretch_89 : decode cX12_stretch 89 = .ok (.sipush 288, 3) := by decide +kernel
theorem dX12_stretch_92 : decode cX12_stretch 92 = .ok (.invokevirtual 191, 3) := by decide +kernel
theorem dX12_stretch_95 : decode cX12_stretch 95 = .ok (.aload_n 0, 1) := by decide +kernel
theorem dX12_stretch_96 : decode cX12_stretch 96 = .ok (.getfield 71, 3) := by decide +kernel
theorem dX12_stretch_99 : decode cX12_stretch 99 = .ok (.ldc 142, 2) := by decide +kernel
theorem dX12_stretch_101 : decode cX12_stretch 101 = .ok (.iload_n 3, 1) := by decide +kernel
theorem dX12_stretch_102 : decode cX12_stretch 102 = .ok (.iadd, 1) := by decide +kernel
theorem dX12_stretch_103 : decode cX12_stretch 103 = .ok (.iconst 4, 1) := by decide +kernel
theorem dX12_stretch_104 : decode cX12_stretch 104 = .ok (.iadd, 1) := by decide +kernel
theorem dX12_stretch_105 : decode cX12_stretch 105 = .ok (.dup2, 1) := by decide +kernel
theorem dX12_stretch_106 : decode cX12_stretch 106 = .ok (.iaload, 1) := by decide +kernel
theorem dX12_stretch_107 : decode cX12_stretch 107 = .ok (.iload 4, 2) := by decide +kernel
theorem dX12_stretch_109 : decode cX12_stretch 109 = .ok (.ifCond .eq 7, 3) := by decide +kernel
theorem dX12_stretch_112 : decode cX12_stretch 112 = .ok (.iconst 1, 1) := by decide +kernel
theorem dX12_stretch_113 : decode cX12_stretch 113 = .ok (.goto 4, 3) := by decide +kernel
theorem dX12_stretch_116 : decode cX12_stretch 116 = .ok (.iconst 0, 1) := by decide +kernel
theorem dX12_stretch_117 : decode cX12_stretch 117 = .ok (.iadd, 1) := by decide +kernel
theorem dX12_stretch_118 : decode cX12_stretch 118 = .ok (.iastore, 1) := by decide +kernel
theorem dX12_stretch_119 : decode cX12_stretch 119 = .ok (.aload_n 0, 1) := by decide +kernel
theorem dX12_stretch_120 : decode cX12_stretch 120 = .ok (.getfield 68, 3) := by decide +kernel
theorem dX12_stretch_123 : decode cX12_stretch 123 = .ok (.ldc 142, 2) := by decide +kernel
theorem dX12_stretch_125 : decode cX12_stretch 125 = .ok (.iload_n 3, 1) := by decide +kernel
theorem dX12_stretch_126 : decode cX12_stretch 126 = .ok (.iadd, 1) := by decide +kernel
theorem dX12_stretch_127 : decode cX12_stretch 127 = .ok (.iconst 4, 1) := by decide +kernel
theorem dX12_stretch_128 : decode cX12_stretch 128 = .ok (.iadd, 1) := by decide +kernel
theorem dX12_stretch_129 : decode cX12_stretch 129 = .ok (.dup2, 1) := by decide +kernel
theorem dX12_stretch_130 : decode cX12_stretch 130 = .ok (.iaload, 1) := by decide +kernel
theorem dX12_stretch_131 : decode cX12_stretch 131 = .ok (.iload 4, 2) := by decide +kernel
theorem dX12_stretch_133 : decode cX12_stretch 133 = .ok (.ifCond .eq 7, 3) := by decide +kernel
theorem dX12_stretch_136 : decode cX12_stretch 136 = .ok (.iconst 0, 1) := by decide +kernel
theorem dX12_stretch_137 : decode cX12_stretch 137 = .ok (.goto 4, 3) := by decide +kernel
theorem dX12_stretch_140 : decode cX12_stretch 140 = .ok (.iconst 1, 1) := by decide +kernel
theorem dX12_stretch_141 : decode cX12_stretch 141 = .ok (.iadd, 1) := by decide +kernel
theorem dX12_stretch_142 : decode cX12_stretch 142 = .ok (.iastore, 1) := by decide +kernel
theorem dX12_stretch_143 : decode cX12_stretch 143 = .ok (.aload_n 0, 1) := by decide +kernel
theorem dX12_stretch_144 : decode cX12_stretch 144 = .ok (.invokevirtual 342, 3) := by decide +kernel
theorem dX12_stretch_147 : decode cX12_stretch 147 = .ok (.aload_n 0, 1) := by decide +kernel
theorem dX12_stretch_148 : decode cX12_stretch 148 = .ok (.iload_n 1, 1) := by decide +kernel
theorem dX12_stretch_149 : decode cX12_stretch 149 = .ok (.invokevirtual 207, 3) := by decide +kernel
theorem dX12_stretch_152 : decode cX12_stretch 152 = .ok (.aload_n 0, 1) := by decide +kernel
theorem dX12_stretch_153 : decode cX12_stretch 153 = .ok (.invokevirtual 345, 3) := by decide +kernel
theorem dX12_stretch_156 : decode cX12_stretch 156 = .ok (.ireturn, 1) := by decide +kernel
theorem dX12_changed_0 : decode cX12_changed 0 = .ok (.aload_n 0, 1) := by decide +kernel
theorem dX12_changed_1 : decode cX12_changed 1 = .ok (.iconst 0, 1) := by decide +kernel
theorem dX12_changed_2 : decode cX12_changed 2 = .ok (.putfield 1, 3) := by decide +kernel
theorem dX12_changed_5 : decode cX12_changed 5 = .ok (.iload_n 1, 1) := by decide +kernel
theorem dX12_changed_6 : decode cX12_changed 6 = .ok (.ifCond .lt 20, 3) := by decide +kernel
theorem dX12_changed_9 : decode cX12_changed 9 = .ok (.iload_n 1, 1) := by decide +kernel
theorem dX12_changed_10 : decode cX12_changed 10 = .ok (.aload_n 0, 1) := by decide +kernel
theorem dX12_changed_11 : decode cX12_changed 11 = .ok (.getfield 339, 3) := by decide +kernel
theorem dX12_changed_14 : decode cX12_changed 14 = .ok (.if_icmp .ge 12, 3) := by decide +kernel
theorem dX12_changed_17 : decode cX12_changed 17 = .ok (.iload_n 2, 1) := by decide +kernel
theorem dX12_changed_18 : decode cX12_changed 18 = .ok (.ifCond .lt 8, 3) := by decide +kernel
theorem dX12_changed_21 : decode cX12_changed 21 = .ok (.iload_n 2, 1) := by decide +kernel
theorem dX12_changed_22 : decode cX12_changed 22 = .ok (.iconst 4, 1) := by decide +kernel
theorem dX12_changed_23 : decode cX12_changed 23 = .ok (.if_icmp .le 7, 3) := by decide +kernel
theorem dX12_changed_26 : decode cX12_changed 26 = .ok (.iconst (-1), 1) := by decide +kernel
theorem dX12_changed_27 : decode cX12_changed 27 = .ok (.goto 13, 3) := by decide +kernel
theorem dX12_changed_30 : decode cX12_changed 30 = .ok (.aload_n 0, 1) := by decide +kernel
theorem dX12_changed_31 : decode cX12_changed 31 = .ok (.getfield 139, 3) := by decide +kernel
theorem dX12_changed_34 : decode cX12_changed 34 = .ok (.iconst 5, 1) := by decide +kernel
theorem dX12_changed_35 : decode cX12_changed 35 = .ok (.iload_n 1, 1) := by decide +kernel
theorem dX12_changed_36 : decode cX12_changed 36 = .ok (.imul, 1) := by decide +kernel
theorem dX12_changed_37 : decode cX12_changed 37 = .ok (.iload_n 2, 1) := by decide +kernel
theorem dX12_changed_38 : decode cX12_changed 38 = .ok (.iadd, 1) := by decide +kernel
theorem dX12_changed_39 : decode cX12_changed 39 = .ok (.iaload, 1) := by decide +kernel
theorem dX12_changed_40 : decode cX12_changed 40 = .ok (.ireturn, 1) := by decide +kernel
theorem dX12_undo_0 : decode cX12_undo 0 = .ok (.aload_n 0, 1) := by decide +kernel
theorem dX12_undo_1 : decode cX12_undo 1 = .ok (.iconst 0, 1) := by decide +kernel
theorem dX12_undo_2 : decode cX12_undo 2 = .ok (.putfield 1, 3) := by decide +kernel
theorem dX12_undo_5 : decode cX12_undo 5 = .ok (.aload_n 0, 1) := by decide +kernel
theorem dX12_undo_6 : decode cX12_undo 6 = .ok (.getfield 188, 3) := by decide +kernel
theorem dX12_undo_9 : decode cX12_undo 9 = .ok (.ifCond .ne 5, 3) := by decide +kernel
theorem dX12_undo_12 : decode cX12_undo 12 = .ok (.iconst (-1), 1) := by decide +kernel
theorem dX12_undo_13 : decode cX12_undo 13 = .ok (.ireturn, 1) := by decide +kernel
theorem dX12_undo_14 : decode cX12_undo 14 = .ok (.aload_n 0, 1) := by decide +kernel
theorem dX12_undo_15 : decode cX12_undo 15 = .ok (.dup, 1) := by decide +kernel
theorem dX12_undo_16 : decode cX12_undo 16 = .ok (.getfield 188, 3) := by decide +kernel
theorem dX12_undo_19 : decode cX12_undo 19 = .ok (.iconst 1, 1) := by decide +kernel
theorem dX12_undo_20 : decode cX12_undo 20 = .ok (.isub, 1) := by decide +kernel
theorem dX12_undo_21 : decode cX12_undo 21 = .ok (.putfield 188, 3) := by decide +kernel
theorem dX12_undo_24 : decode cX12_undo 24 = .ok (.aload_n 0, 1) := by decide +kernel
theorem dX12_undo_25 : decode cX12_undo 25 = .ok (.invokevirtual 342, 3) := by decide +kernel
theorem dX12_undo_28 : decode cX12_undo 28 = .ok (.aload_n 0, 1) := by decide +kernel
theorem dX12_undo_29 : decode cX12_undo 29 = .ok (.sipush 289, 3) := by decide +kernel
theorem dX12_undo_32 : decode cX12_undo 32 = .ok (.aload_n 0, 1) := by decide +kernel
theorem dX12_undo_33 : decode cX12_undo 33 = .ok (.getfield 188, 3) := by decide +kernel
theorem dX12_undo_36 : decode cX12_undo 36 = .ok (.iadd, 1) := by decide +kernel
theorem dX12_undo_37 : decode cX12_undo 37 = .ok (.aload_n 0, 1) := by decide +kernel
