theorem dX9_settle_17 : decode cX9_settle 17 = .ok (.getfield 9, 3) := by decide +kernel
theorem dX9_settle_20 : decode cX9_settle 20 = .ok (.getfield 37, 3) := by decide +kernel
theorem dX9_settle_23 : decode cX9_settle 23 = .ok (.putfield 33, 3) := by decide +kernel
theorem dX9_settle_26 : decode cX9_settle 26 = .ok (.aload_n 0, 1) := by decide +kernel
theorem dX9_settle_27 : decode cX9_settle 27 = .ok (.getfield 15, 3) := by decide +kernel
theorem dX9_settle_30 : decode cX9_settle 30 = .ok (.invokevirtual 40, 3) := by decide +kernel
theorem dX9_settle_33 : decode cX9_settle 33 = .ok (.iconst 0, 1) := by decide +kernel
theorem dX9_settle_34 : decode cX9_settle 34 = .ok (.istore_n 1, 1) := by decide +kernel
theorem dX9_settle_35 : decode cX9_settle 35 = .ok (.iload_n 1, 1) := by decide +kernel
theorem dX9_settle_36 : decode cX9_settle 36 = .ok (.sipush 288, 3) := by decide +kernel
theorem dX9_settle_39 : decode cX9_settle 39 = .ok (.if_icmp .ge 65, 3) := by decide +kernel
theorem dX9_settle_42 : decode cX9_settle 42 = .ok (.aload_n 0, 1) := by decide +kernel
theorem dX9_settle_43 : decode cX9_settle 43 = .ok (.getfield 9, 3) := by decide +kernel
theorem dX9_settle_46 : decode cX9_settle 46 = .ok (.iload_n 1, 1) := by decide +kernel
theorem dX9_settle_47 : decode cX9_settle 47 = .ok (.invokevirtual 45, 3) := by decide +kernel
theorem dX9_settle_50 : decode cX9_settle 50 = .ok (.astore_n 2, 1) := by decide +kernel
theorem dX9_settle_51 : decode cX9_settle 51 = .ok (.aload_n 0, 1) := by decide +kernel
theorem dX9_settle_52 : decode cX9_settle 52 = .ok (.getfield 19, 3) := by decide +kernel
theorem dX9_settle_55 : decode cX9_settle 55 = .ok (.iload_n 1, 1) := by decide +kernel
theorem dX9_settle_56 : decode cX9_settle 56 = .ok (.iconst 3, 1) := by decide +kernel
theorem dX9_settle_57 : decode cX9_settle 57 = .ok (.imul, 1) := by decide +kernel
theorem dX9_settle_58 : decode cX9_settle 58 = .ok (.aload_n 2, 1) := by decide +kernel
theorem dX9_settle_59 : decode cX9_settle 59 = .ok (.getfield 49, 3) := by decide +kernel
theorem dX9_settle_62 : decode cX9_settle 62 = .ok (.iastore, 1) := by decide +kernel
theorem dX9_settle_63 : decode cX9_settle 63 = .ok (.aload_n 0, 1) := by decide +kernel
theorem dX9_settle_64 : decode cX9_settle 64 = .ok (.getfield 19, 3) := by decide +kernel
theorem dX9_settle_67 : decode cX9_settle 67 = .ok (.iload_n 1, 1) := by decide +kernel
theorem dX9_settle_68 : decode cX9_settle 68 = .ok (.iconst 3, 1) := by decide +kernel
theorem dX9_settle_69 : decode cX9_settle 69 = .ok (.imul, 1) := by decide +kernel
theorem dX9_settle_70 : decode cX9_settle 70 = .ok (.iconst 1, 1) := by decide +kernel
theorem dX9_settle_71 : decode cX9_settle 71 = .ok (.iadd, 1) := by decide +kernel
theorem dX9_settle_72 : decode cX9_settle 72 = .ok (.aload_n 2, 1) := by decide +kernel
theorem dX9_settle_73 : decode cX9_settle 73 = .ok (.getfield 54, 3) := by decide +kernel
theorem dX9_settle_76 : decode cX9_settle 76 = .ok (.iastore, 1) := by decide +kernel
theorem dX9_settle_77 : decode cX9_settle 77 = .ok (.aload_n 0, 1) := by decide +kernel
theorem dX9_settle_78 : decode cX9_settle 78 = .ok (.getfield 19, 3) := by decide +kernel
theorem dX9_settle_81 : decode cX9_settle 81 = .ok (.iload_n 1, 1) := by decide +kernel
theorem dX9_settle_82 : decode cX9_settle 82 = .ok (.iconst 3, 1) := by decide +kernel
theorem dX9_settle_83 : decode cX9_settle 83 = .ok (.imul, 1) := by decide +kernel
theorem dX9_settle_84 : decode cX9_settle 84 = .ok (.iconst 2, 1) := by decide +kernel
theorem dX9_settle_85 : decode cX9_settle 85 = .ok (.iadd, 1) := by decide +kernel
theorem dX9_settle_86 : decode cX9_settle 86 = .ok (.aload_n 2, 1) := by decide +kernel
theorem dX9_settle_87 : decode cX9_settle 87 = .ok (.getfield 57, 3) := by decide +kernel
theorem dX9_settle_90 : decode cX9_settle 90 = .ok (.iastore, 1) := by decide +kernel
theorem dX9_settle_91 : decode cX9_settle 91 = .ok (.aload_n 0, 1) := by decide +kernel
theorem dX9_settle_92 : decode cX9_settle 92 = .ok (.getfield 23, 3) := by decide +kernel
theorem dX9_settle_95 : decode cX9_settle 95 = .ok (.iload_n 1, 1) := by decide +kernel
theorem dX9_settle_96 : decode cX9_settle 96 = .ok (.iconst 0, 1) := by decide +kernel
theorem dX9_settle_97 : decode cX9_settle 97 = .ok (.bastore, 1) := by decide +kernel
theorem dX9_settle_98 : decode cX9_settle 98 = .ok (.iinc 1 1, 3) := by decide +kernel
theorem dX9_settle_101 : decode cX9_settle 101 = .ok (.goto (-66), 3) := by decide +kernel
theorem dX9_settle_104 : decode cX9_settle 104 = .ok (.iconst 0, 1) := by decide +kernel
theorem dX9_settle_105 : decode cX9_settle 105 = .ok (.istore_n 1, 1) := by decide +kernel
theorem dX9_settle_106 : decode cX9_settle 106 = .ok (.iload_n 1, 1) := by decide +kernel
theorem dX9_settle_107 : decode cX9_settle 107 = .ok (.aload_n 0, 1) := by decide +kernel
theorem dX9_settle_108 : decode cX9_settle 108 = .ok (.getfield 15, 3) := by decide +kernel
theorem dX9_settle_111 : decode cX9_settle 111 = .ok (.invokevirtual 60, 3) := by decide +kernel
theorem dX9_settle_114 : decode cX9_settle 114 = .ok (.if_icmp .ge 55, 3) := by decide +kernel
theorem dX9_settle_117 : decode cX9_settle 117 = .ok (.aload_n 0, 1) := by decide +kernel
theorem dX9_settle_118 : decode cX9_settle 118 = .ok (.getfield 15, 3) := by decide +kernel
theorem dX9_settle_121 : decode cX9_settle 121 = .ok (.iload_n 1, 1) := by decide +kernel
theorem dX9_settle_122 : decode cX9_settle 122 = .ok (.invokevirtual 64, 3) := by decide +kernel
theorem dX9_settle_125 : decode cX9_settle 125 = .ok (.istore_n 2, 1) := by decide +kernel
theorem dX9_settle_126 : decode cX9_settle 126 = .ok (.aload_n 0, 1) := by decide +kernel
theorem dX9_settle_127 : decode cX9_settle 127 = .ok (.getfield 9, 3) := by decide +kernel
theorem dX9_settle_130 : decode cX9_settle 130 = .ok (.iload_n 2, 1) := by decide +kernel
theorem dX9_settle_131 : decode cX9_settle 131 = .ok (.invokevirtual 68, 3) := by decide +kernel
theorem dX9_settle_134 : decode cX9_settle 134 = .ok (.astore_n 3, 1) := by decide +kernel
theorem dX9_settle_135 : decode cX9_settle 135 = .ok (.iload_n 2, 1) := by decide +kernel
theorem dX9_settle_136 : decode cX9_settle 136 = .ok (.invokestatic 72, 3) := by decide +kernel
theorem dX9_settle_139 : decode cX9_settle 139 = .ok (.ifCond .eq 24, 3) := by decide +kernel
theorem dX9_settle_142 : decode cX9_settle 142 = .ok (.aload_n 3, 1) := by decide +kernel
theorem dX9_settle_143 : decode cX9_settle 143 = .ok (.ifnull 20, 3) := by decide +kernel
theorem dX9_settle_146 : decode cX9_settle 146 = .ok (.aload_n 0, 1) := by decide +kernel
theorem dX9_settle_147 : decode cX9_settle 147 = .ok (.getfield 15, 3) := by decide +kernel
theorem dX9_settle_150 : decode cX9_settle 150 = .ok (.iload_n 2, 1) := by decide +kernel
theorem dX9_settle_151 : decode cX9_settle 151 = .ok (.invokevirtual 76, 3) := by decide +kernel
theorem dX9_settle_154 : decode cX9_settle 154 = .ok (.ifCond .ne 9, 3) := by decide +kernel
theorem dX9_settle_157 : decode cX9_settle 157 = .ok (.aload_n 0, 1) := by decide +kernel
theorem dX9_settle_158 : decode cX9_settle 158 = .ok (.iload_n 2, 1) := by decide +kernel
theorem dX9_settle_159 : decode cX9_settle 159 = .ok (.aload_n 3, 1) := by decide +kernel
theorem dX9_settle_160 : decode cX9_settle 160 = .ok (.invokevirtual 79, 3) := by decide +kernel
theorem dX9_settle_163 : decode cX9_settle 163 = .ok (.iinc 1 1, 3) := by decide +kernel
theorem dX9_settle_166 : decode cX9_settle 166 = .ok (.goto (-60), 3) := by decide +kernel
theorem dX9_settle_169 : decode cX9_settle 169 = .ok (.return_, 1) := by decide +kernel
theorem dX9_exponentAt_0 : decode cX9_exponentAt 0 = .ok (.iload_n 1, 1) := by decide +kernel
theorem dX9_exponentAt_1 : decode cX9_exponentAt 1 = .ok (.invokestatic 72, 3) := by decide +kernel
theorem dX9_exponentAt_4 : decode cX9_exponentAt 4 = .ok (.ifCond .eq 25, 3) := by decide +kernel
theorem dX9_exponentAt_7 : decode cX9_exponentAt 7 = .ok (.iload_n 2, 1) := by decide +kernel
theorem dX9_exponentAt_8 : decode cX9_exponentAt 8 = .ok (.ifCond .lt 21, 3) := by decide +kernel
theorem dX9_exponentAt_11 : decode cX9_exponentAt 11 = .ok (.iload_n 2, 1) := by decide +kernel
theorem dX9_exponentAt_12 : decode cX9_exponentAt 12 = .ok (.iconst 3, 1) := by decide +kernel
theorem dX9_exponentAt_13 : decode cX9_exponentAt 13 = .ok (.if_icmp .ge 16, 3) := by decide +kernel
theorem dX9_exponentAt_16 : decode cX9_exponentAt 16 = .ok (.aload_n 0, 1) := by decide +kernel
theorem dX9_exponentAt_17 : decode cX9_exponentAt 17 = .ok (.getfield 19, 3) := by decide +kernel
theorem dX9_exponentAt_20 : decode cX9_exponentAt 20 = .ok (.iload_n 1, 1) := by decide +kernel
theorem dX9_exponentAt_21 : decode cX9_exponentAt 21 = .ok (.iconst 3, 1) := by decide +kernel
theorem dX9_exponentAt_22 : decode cX9_exponentAt 22 = .ok (.imul, 1) := by decide +kernel
theorem dX9_exponentAt_23 : decode cX9_exponentAt 23 = .ok (.iload_n 2, 1) := by decide +kernel
theorem dX9_exponentAt_24 : decode cX9_exponentAt 24 = .ok (.iadd, 1) := by decide +kernel
theorem dX9_exponentAt_25 : decode cX9_exponentAt 25 = .ok (.iaload, 1) := by decide +kernel
theorem dX9_exponentAt_26 : decode cX9_exponentAt 26 = .ok (.goto 4, 3) := by decide +kernel
theorem dX9_exponentAt_29 : decode cX9_exponentAt 29 = .ok (.iconst 0, 1) := by decide +kernel
theorem dX9_exponentAt_30 : decode cX9_exponentAt 30 = .ok (.ireturn, 1) := by decide +kernel
theorem dX9_clashesAt_0 : decode cX9_clashesAt 0 = .ok (.iload_n 1, 1) := by decide +kernel
theorem dX9_clashesAt_1 : decode cX9_clashesAt 1 = .ok (.invokestatic 72, 3) := by decide +kernel
theorem dX9_clashesAt_4 : decode cX9_clashesAt 4 = .ok (.ifCond .eq 16, 3) := by decide +kernel
theorem dX9_clashesAt_7 : decode cX9_clashesAt 7 = .ok (.aload_n 0, 1) := by decide +kernel
theorem dX9_clashesAt_8 : decode cX9_clashesAt 8 = .ok (.getfield 23, 3) := by decide +kernel
theorem dX9_clashesAt_11 : decode cX9_clashesAt 11 = .ok (.iload_n 1, 1) := by decide +kernel
theorem dX9_clashesAt_12 : decode cX9_clashesAt 12 = .ok (.baload, 1) := by decide +kernel
theorem dX9_clashesAt_13 : decode cX9_clashesAt 13 = .ok (.ifCond .eq 7, 3) := by decide +kernel
theorem dX9_clashesAt_16 : decode cX9_clashesAt 16 = .ok (.iconst 1, 1) := by decide +kernel
theorem dX9_clashesAt_17 : decode cX9_clashesAt 17 = .ok (.goto 4, 3) := by decide +kernel
theorem dX9_clashesAt_20 : decode cX9_clashesAt 20 = .ok (.iconst 0, 1) := by decide +kernel
theorem dX9_clashesAt_21 : decode cX9_clashesAt 21 = .ok (.ireturn, 1) := by decide +kernel
theorem dX9_workOut_0 : decode cX9_workOut 0 = .ok (.aload_n 0, 1) := by decide +kernel
theorem dX9_workOut_1 : decode cX9_workOut 1 = .ok (.iconst 0, 1) := by decide +kernel
theorem dX9_workOut_2 : decode cX9_workOut 2 = .ok (.putfield 83, 3) := by decide +kernel
theorem dX9_workOut_5 : decode cX9_workOut 5 = .ok (.aload_n 0, 1) := by decide +kernel
theorem dX9_workOut_6 : decode cX9_workOut 6 = .ok (.iconst 0, 1) := by decide +kernel
theorem dX9_workOut_7 : decode cX9_workOut 7 = .ok (.putfield 87, 3) := by decide +kernel
theorem dX9_workOut_10 : decode cX9_workOut 10 = .ok (.iconst 0, 1) := by decide +kernel
theorem dX9_workOut_11 : decode cX9_workOut 11 = .ok (.istore_n 3, 1) := by decide +kernel
theorem dX9_workOut_12 : decode cX9_workOut 12 = .ok (.iload_n 3, 1) := by decide +kernel
theorem dX9_workOut_13 : decode cX9_workOut 13 = .ok (.aload_n 2, 1) := by decide +kernel
theorem dX9_workOut_14 : decode cX9_workOut 14 = .ok (.invokevirtual 90, 3) := by decide +kernel
theorem dX9_workOut_17 : decode cX9_workOut 17 = .ok (.if_icmp .ge 69, 3) := by decide +kernel
theorem dX9_workOut_20 : decode cX9_workOut 20 = .ok (.aload_n 2, 1) := by decide +kernel
theorem dX9_workOut_21 : decode cX9_workOut 21 = .ok (.iload_n 3, 1) := by decide +kernel
theorem dX9_workOut_22 : decode cX9_workOut 22 = .ok (.invokevirtual 95, 3) := by decide +kernel
theorem dX9_workOut_25 : decode cX9_workOut 25 = .ok (.istore 4, 2) := by decide +kernel
theorem dX9_workOut_27 : decode cX9_workOut 27 = .ok (.iload 4, 2) := by decide +kernel
theorem dX9_workOut_29 : decode cX9_workOut 29 = .ok (.ifCond .ne 11, 3) := by decide +kernel
theorem dX9_workOut_32 : decode cX9_workOut 32 = .ok (.aload_n 0, 1) := by decide +kernel
theorem dX9_workOut_33 : decode cX9_workOut 33 = .ok (.iconst (-1), 1) := by decide +kernel
theorem dX9_workOut_34 : decode cX9_workOut 34 = .ok (.invokevirtual 98, 3) := by decide +kernel
theorem dX9_workOut_37 : decode cX9_workOut 37 = .ok (.goto 43, 3) := by decide +kernel
theorem dX9_workOut_40 : decode cX9_workOut 40 = .ok (.aload_n 2, 1) := by decide +kernel
theorem dX9_workOut_41 : decode cX9_workOut 41 = .ok (.iload_n 3, 1) := by decide +kernel
theorem dX9_workOut_42 : decode cX9_workOut 42 = .ok (.invokevirtual 102, 3) := by decide +kernel
theorem dX9_workOut_45 : decode cX9_workOut 45 = .ok (.ifCond .eq 17, 3) := by decide +kernel
theorem dX9_workOut_48 : decode cX9_workOut 48 = .ok (.aload_n 0, 1) := by decide +kernel
theorem dX9_workOut_49 : decode cX9_workOut 49 = .ok (.aload_n 0, 1) := by decide +kernel
theorem dX9_workOut_50 : decode cX9_workOut 50 = .ok (.iload_n 1, 1) := by decide +kernel
theorem dX9_workOut_51 : decode cX9_workOut 51 = .ok (.aload_n 2, 1) := by decide +kernel
theorem dX9_workOut_52 : decode cX9_workOut 52 = .ok (.iload_n 3, 1) := by decide +kernel
theorem dX9_workOut_53 : decode cX9_workOut 53 = .ok (.invokevirtual 105, 3) := by decide +kernel
theorem dX9_workOut_56 : decode cX9_workOut 56 = .ok (.invokevirtual 98, 3) := by decide +kernel
theorem dX9_workOut_59 : decode cX9_workOut 59 = .ok (.goto 21, 3) := by decide +kernel
theorem dX9_workOut_62 : decode cX9_workOut 62 = .ok (.iload 4, 2) := by decide +kernel
theorem dX9_workOut_64 : decode cX9_workOut 64 = .ok (.iconst 4, 1) := by decide +kernel
theorem dX9_workOut_65 : decode cX9_workOut 65 = .ok (.if_icmp .eq 15, 3) := by decide +kernel
theorem dX9_workOut_68 : decode cX9_workOut 68 = .ok (.iload 4, 2) := by decide +kernel
theorem dX9_workOut_70 : decode cX9_workOut 70 = .ok (.iconst 3, 1) := by decide +kernel
theorem dX9_workOut_71 : decode cX9_workOut 71 = .ok (.if_icmp .eq 9, 3) := by decide +kernel
theorem dX9_workOut_74 : decode cX9_workOut 74 = .ok (.aload_n 0, 1) := by decide +kernel
theorem dX9_workOut_75 : decode cX9_workOut 75 = .ok (.iload 4, 2) := by decide +kernel
theorem dX9_workOut_77 : decode cX9_workOut 77 = .ok (.invokevirtual 109, 3) := by decide +kernel
theorem dX9_workOut_80 : decode cX9_workOut 80 = .ok (.iinc 3 1, 3) := by decide +kernel
theorem dX9_workOut_83 : decode cX9_workOut 83 = .ok (.goto (-71), 3) := by decide +kernel
theorem dX9_workOut_86 : decode cX9_workOut 86 = .ok (.iconst 0, 1) := by decide +kernel
theorem dX9_workOut_87 : decode cX9_workOut 87 = .ok (.istore_n 3, 1) := by decide +kernel
theorem dX9_workOut_88 : decode cX9_workOut 88 = .ok (.iload_n 3, 1) := by decide +kernel
theorem dX9_workOut_89 : decode cX9_workOut 89 = .ok (.iconst 3, 1) := by decide +kernel
theorem dX9_workOut_90 : decode cX9_workOut 90 = .ok (.if_icmp .ge 37, 3) := by decide +kernel
theorem dX9_workOut_93 : decode cX9_workOut 93 = .ok (.aload_n 0, 1) := by decide +kernel
theorem dX9_workOut_94 : decode cX9_workOut 94 = .ok (.getfield 19, 3) := by decide +kernel
theorem dX9_workOut_97 : decode cX9_workOut 97 = .ok (.iload_n 1, 1) := by decide +kernel
theorem dX9_workOut_98 : decode cX9_workOut 98 = .ok (.iconst 3, 1) := by decide +kernel
theorem dX9_workOut_99 : decode cX9_workOut 99 = .ok (.imul, 1) := by decide +kernel
theorem dX9_workOut_100 : decode cX9_workOut 100 = .ok (.iload_n 3, 1) := by decide +kernel
theorem dX9_workOut_101 : decode cX9_workOut 101 = .ok (.iadd, 1) := by decide +kernel
theorem dX9_workOut_102 : decode cX9_workOut 102 = .ok (.aload_n 0, 1) := by decide +kernel
theorem dX9_workOut_103 : decode cX9_workOut 103 = .ok (.getfield 87, 3) := by decide +kernel
theorem dX9_workOut_106 : decode cX9_workOut 106 = .ok (.iconst 1, 1) := by decide +kernel
theorem dX9_workOut_107 : decode cX9_workOut 107 = .ok (.if_icmp .ne 12, 3) := by decide +kernel
theorem dX9_workOut_110 : decode cX9_workOut 110 = .ok (.aload_n 0, 1) := by decide +kernel
theorem dX9_workOut_111 : decode cX9_workOut 111 = .ok (.getfield 30, 3) := by decide +kernel
theorem dX9_workOut_114 : decode cX9_workOut 114 = .ok (.iload_n 3, 1) := by decide +kernel
theorem dX9_workOut_115 : decode cX9_workOut 115 = .ok (.iaload, 1) := by decide +kernel
theorem dX9_workOut_116 : decode cX9_workOut 116 = .ok (.goto 4, 3) := by decide +kernel
theorem dX9_workOut_119 : decode cX9_workOut 119 = .ok (.iconst 0, 1) := by decide +kernel
theorem dX9_workOut_120 : decode cX9_workOut 120 = .ok (.iastore, 1) := by decide +kernel
theorem dX9_workOut_121 : decode cX9_workOut 121 = .ok (.iinc 3 1, 3) := by decide +kernel
theorem dX9_workOut_124 : decode cX9_workOut 124 = .ok (.goto (-36), 3) := by decide +kernel
theorem dX9_workOut_127 : decode cX9_workOut 127 = .ok (.aload_n 0, 1) := by decide +kernel
theorem dX9_workOut_128 : decode cX9_workOut 128 = .ok (.getfield 23, 3) := by decide +kernel
theorem dX9_workOut_131 : decode cX9_workOut 131 = .ok (.iload_n 1, 1) := by decide +kernel
theorem dX9_workOut_132 : decode cX9_workOut 132 = .ok (.aload_n 0, 1) := by decide +kernel
theorem dX9_workOut_133 : decode cX9_workOut 133 = .ok (.getfield 83, 3) := by decide +kernel
theorem dX9_workOut_136 : decode cX9_workOut 136 = .ok (.bastore, 1) := by decide +kernel
theorem dX9_workOut_137 : decode cX9_workOut 137 = .ok (.return_, 1) := by decide +kernel
theorem dX9_firstFilled_0 : decode cX9_firstFilled 0 = .ok (.iconst (-1), 1) := by decide +kernel
theorem dX9_firstFilled_1 : decode cX9_firstFilled 1 = .ok (.istore 4, 2) := by decide +kernel
theorem dX9_firstFilled_3 : decode cX9_firstFilled 3 = .ok (.aload_n 2, 1) := by decide +kernel
theorem dX9_firstFilled_4 : decode cX9_firstFilled 4 = .ok (.iload_n 3, 1) := by decide +kernel
theorem dX9_firstFilled_5 : decode cX9_firstFilled 5 = .ok (.iload_n 1, 1) := by decide +kernel
theorem dX9_firstFilled_6 : decode cX9_firstFilled 6 = .ok (.aload_n 0, 1) := by decide +kernel
theorem dX9_firstFilled_7 : decode cX9_firstFilled 7 = .ok (.getfield 27, 3) := by decide +kernel
theorem dX9_firstFilled_10 : decode cX9_firstFilled 10 = .ok (.invokevirtual 112, 3) := by decide +kernel
theorem dX9_firstFilled_13 : decode cX9_firstFilled 13 = .ok (.istore 5, 2) := by decide +kernel
theorem dX9_firstFilled_15 : decode cX9_firstFilled 15 = .ok (.iconst 0, 1) := by decide +kernel
theorem dX9_firstFilled_16 : decode cX9_firstFilled 16 = .ok (.istore 6, 2) := by decide +kernel
theorem dX9_firstFilled_18 : decode cX9_firstFilled 18 = .ok (.iload 6, 2) := by decide +kernel
theorem dX9_firstFilled_20 : decode cX9_firstFilled 20 = .ok (.iload 5, 2) := by decide +kernel
theorem dX9_firstFilled_22 : decode cX9_firstFilled 22 = .ok (.if_icmp .ge 73, 3) := by decide +kernel
theorem dX9_firstFilled_25 : decode cX9_firstFilled 25 = .ok (.iload 6, 2) := by decide +kernel
theorem dX9_firstFilled_27 : decode cX9_firstFilled 27 = .ok (.sipush 288, 3) := by decide +kernel
theorem dX9_firstFilled_30 : decode cX9_firstFilled 30 = .ok (.if_icmp .ge 65, 3) := by decide +kernel
theorem dX9_firstFilled_33 : decode cX9_firstFilled 33 = .ok (.aload_n 0, 1) := by decide +kernel
theorem dX9_firstFilled_34 : decode cX9_firstFilled 34 = .ok (.getfield 9, 3) := by decide +kernel
theorem dX9_firstFilled_37 : decode cX9_firstFilled 37 = .ok (.aload_n 0, 1) := by decide +kernel
theorem dX9_firstFilled_38 : decode cX9_firstFilled 38 = .ok (.getfield 27, 3) := by decide +kernel
theorem dX9_firstFilled_41 : decode cX9_firstFilled 41 = .ok (.iload 6, 2) := by decide +kernel
theorem dX9_firstFilled_43 : decode cX9_firstFilled 43 = .ok (.iaload, 1) := by decide +kernel
theorem dX9_firstFilled_44 : decode cX9_firstFilled 44 = .ok (.invokevirtual 116, 3) := by decide +kernel
theorem dX9_firstFilled_47 : decode cX9_firstFilled 47 = .ok (.ifCond .eq 42, 3) := by decide +kernel
theorem dX9_firstFilled_50 : decode cX9_firstFilled 50 = .ok (.iload 4, 2) := by decide +kernel
theorem dX9_firstFilled_52 : decode cX9_firstFilled 52 = .ok (.iconst (-1), 1) := by decide +kernel
theorem dX9_firstFilled_53 : decode cX9_firstFilled 53 = .ok (.if_icmp .ne 15, 3) := by decide +kernel
theorem dX9_firstFilled_56 : decode cX9_firstFilled 56 = .ok (.aload_n 0, 1) := by decide +kernel
theorem dX9_firstFilled_57 : decode cX9_firstFilled 57 = .ok (.getfield 27, 3) := by decide +kernel
theorem dX9_firstFilled_60 : decode cX9_firstFilled 60 = .ok (.iload 6, 2) := by decide +kernel
theorem dX9_firstFilled_62 : decode cX9_firstFilled 62 = .ok (.iaload, 1) := by decide +kernel
theorem dX9_firstFilled_63 : decode cX9_firstFilled 63 = .ok (.istore 4, 2) := by decide +kernel
theorem dX9_firstFilled_65 : decode cX9_firstFilled 65 = .ok (.goto 24, 3) := by decide +kernel
theorem dX9_firstFilled_68 : decode cX9_firstFilled 68 = .ok (.aload_n 0, 1) := by decide +kernel
theorem dX9_firstFilled_69 : decode cX9_firstFilled 69 = .ok (.iload 4, 2) := by decide +kernel
theorem dX9_firstFilled_71 : decode cX9_firstFilled 71 = .ok (.aload_n 0, 1) := by decide +kernel
theorem dX9_firstFilled_72 : decode cX9_firstFilled 72 = .ok (.getfield 27, 3) := by decide +kernel
theorem dX9_firstFilled_75 : decode cX9_firstFilled 75 = .ok (.iload 6, 2) := by decide +kernel
theorem dX9_firstFilled_77 : decode cX9_firstFilled 77 = .ok (.iaload, 1) := by decide +kernel
theorem dX9_firstFilled_78 : decode cX9_firstFilled 78 = .ok (.invokevirtual 119, 3) := by decide +kernel
theorem dX9_firstFilled_81 : decode cX9_firstFilled 81 = .ok (.ifCond .ne 8, 3) := by decide +kernel
theorem dX9_firstFilled_84 : decode cX9_firstFilled 84 = .ok (.aload_n 0, 1) := by decide +kernel
theorem dX9_firstFilled_85 : decode cX9_firstFilled 85 = .ok (.iconst 1, 1) := by decide +kernel
theorem dX9_firstFilled_86 : decode cX9_firstFilled 86 = .ok (.putfield 83, 3) := by decide +kernel
theorem dX9_firstFilled_89 : decode cX9_firstFilled 89 = .ok (.iinc 6 1, 3) := by decide +kernel
theorem dX9_firstFilled_92 : decode cX9_firstFilled 92 = .ok (.goto (-74), 3) := by decide +kernel
theorem dX9_firstFilled_95 : decode cX9_firstFilled 95 = .ok (.iload 4, 2) := by decide +kernel
theorem dX9_firstFilled_97 : decode cX9_firstFilled 97 = .ok (.ireturn, 1) := by decide +kernel
theorem dX9_areSame_0 : decode cX9_areSame 0 = .ok (.iconst 0, 1) := by decide +kernel
theorem dX9_areSame_1 : decode cX9_areSame 1 = .ok (.istore_n 3, 1) := by decide +kernel
theorem dX9_areSame_2 : decode cX9_areSame 2 = .ok (.iload_n 3, 1) := by decide +kernel
theorem dX9_areSame_3 : decode cX9_areSame 3 = .ok (.iconst 3, 1) := by decide +kernel
theorem dX9_areSame_4 : decode cX9_areSame 4 = .ok (.if_icmp .ge 26, 3) := by decide +kernel
theorem dX9_areSame_7 : decode cX9_areSame 7 = .ok (.aload_n 0, 1) := by decide +kernel
theorem dX9_areSame_8 : decode cX9_areSame 8 = .ok (.iload_n 1, 1) := by decide +kernel
theorem dX9_areSame_9 : decode cX9_areSame 9 = .ok (.iload_n 3, 1) := by decide +kernel
theorem dX9_areSame_10 : decode cX9_areSame 10 = .ok (.invokevirtual 123, 3) := by decide +kernel
theorem dX9_areSame_13 : decode cX9_areSame 13 = .ok (.aload_n 0, 1) := by decide +kernel
theorem dX9_areSame_14 : decode cX9_areSame 14 = .ok (.iload_n 2, 1) := by decide +kernel
theorem dX9_areSame_15 : decode cX9_areSame 15 = .ok (.iload_n 3, 1) := by decide +kernel
theorem dX9_areSame_16 : decode cX9_areSame 16 = .ok (.invokevirtual 123, 3) := by decide +kernel
theorem dX9_areSame_19 : decode cX9_areSame 19 = .ok (.if_icmp .eq 5, 3) := by decide +kernel
theorem dX9_areSame_22 : decode cX9_areSame 22 = .ok (.iconst 0, 1) := by decide +kernel
theorem dX9_areSame_23 : decode cX9_areSame 23 = .ok (.ireturn, 1) := by decide +kernel
theorem dX9_areSame_24 : decode cX9_areSame 24 = .ok (.iinc 3 1, 3) := by decide +kernel
theorem dX9_areSame_27 : decode cX9_areSame 27 = .ok (.goto (-25), 3) := by decide +kernel
theorem dX9_areSame_30 : decode cX9_areSame 30 = .ok (.iconst 1, 1) := by decide +kernel
theorem dX9_areSame_31 : decode cX9_areSame 31 = .ok (.ireturn, 1) := by decide +kernel
theorem dX9_pushUnitOf_0 : decode cX9_pushUnitOf 0 = .ok (.aload_n 0, 1) := by decide +kernel
theorem dX9_pushUnitOf_1 : decode cX9_pushUnitOf 1 = .ok (.getfield 87, 3) := by decide +kernel
theorem dX9_pushUnitOf_4 : decode cX9_pushUnitOf 4 = .ok (.bipush 32, 2) := by decide +kernel
theorem dX9_pushUnitOf_6 : decode cX9_pushUnitOf 6 = .ok (.if_icmp .ge 45, 3) := by decide +kernel
theorem dX9_pushUnitOf_9 : decode cX9_pushUnitOf 9 = .ok (.iconst 0, 1) := by decide +kernel
theorem dX9_pushUnitOf_10 : decode cX9_pushUnitOf 10 = .ok (.istore_n 2, 1) := by decide +kernel
theorem dX9_pushUnitOf_11 : decode cX9_pushUnitOf 11 = .ok (.iload_n 2, 1) := by decide +kernel
theorem dX9_pushUnitOf_12 : decode cX9_pushUnitOf 12 = .ok (.iconst 3, 1) := by decide +kernel
theorem dX9_pushUnitOf_13 : decode cX9_pushUnitOf 13 = .ok (.if_icmp .ge 28, 3) := by decide +kernel
theorem dX9_pushUnitOf_16 : decode cX9_pushUnitOf 16 = .ok (.aload_n 0, 1) := by decide +kernel
theorem dX9_pushUnitOf_17 : decode cX9_pushUnitOf 17 = .ok (.getfield 30, 3) := by decide +kernel
theorem dX9_pushUnitOf_20 : decode cX9_pushUnitOf 20 = .ok (.aload_n 0, 1) := by decide +kernel
theorem dX9_pushUnitOf_21 : decode cX9_pushUnitOf 21 = .ok (.getfield 87, 3) := by decide +kernel
theorem dX9_pushUnitOf_24 : decode cX9_pushUnitOf 24 = .ok (.iconst 3, 1) := by decide +kernel
theorem dX9_pushUnitOf_25 : decode cX9_pushUnitOf 25 = .ok (.imul, 1) := by decide +kernel
theorem dX9_pushUnitOf_26 : decode cX9_pushUnitOf 26 = .ok (.iload_n 2, 1) := by decide +kernel
theorem dX9_pushUnitOf_27 : decode cX9_pushUnitOf 27 = .ok (.iadd, 1) := by decide +kernel
theorem dX9_pushUnitOf_28 : decode cX9_pushUnitOf 28 = .ok (.aload_n 0, 1) := by decide +kernel
theorem dX9_pushUnitOf_29 : decode cX9_pushUnitOf 29 = .ok (.iload_n 1, 1) := by decide +kernel
theorem dX9_pushUnitOf_30 : decode cX9_pushUnitOf 30 = .ok (.iload_n 2, 1) := by decide +kernel
theorem dX9_pushUnitOf_31 : decode cX9_pushUnitOf 31 = .ok (.invokevirtual 123, 3) := by decide +kernel
theorem dX9_pushUnitOf_34 : decode cX9_pushUnitOf 34 = .ok (.iastore, 1) := by decide +kernel
theorem dX9_pushUnitOf_35 : decode cX9_pushUnitOf 35 = .ok (.iinc 2 1, 3) := by decide +kernel
theorem dX9_pushUnitOf_38 : decode cX9_pushUnitOf 38 = .ok (.goto (-27), 3) := by decide +kernel
theorem dX9_pushUnitOf_41 : decode cX9_pushUnitOf 41 = .ok (.aload_n 0, 1) := by decide +kernel
theorem dX9_pushUnitOf_42 : decode cX9_pushUnitOf 42 = .ok (.dup, 1) := by decide +kernel
theorem dX9_pushUnitOf_43 : decode cX9_pushUnitOf 43 = .ok (.getfield 87, 3) := by decide +kernel
theorem dX9_pushUnitOf_46 : decode cX9_pushUnitOf 46 = .ok (.iconst 1, 1) := by decide +kernel
theorem dX9_pushUnitOf_47 : decode cX9_pushUnitOf 47 = .ok (.iadd, 1) := by decide +kernel
theorem dX9_pushUnitOf_48 : decode cX9_pushUnitOf 48 = .ok (.putfield 87, 3) := by decide +kernel
theorem dX9_pushUnitOf_51 : decode cX9_pushUnitOf 51 = .ok (.return_, 1) := by decide +kernel
theorem dX9_join_0 : decode cX9_join 0 = .ok (.aload_n 0, 1) := by decide +kernel
theorem dX9_join_1 : decode cX9_join 1 = .ok (.getfield 87, 3) := by decide +kernel
theorem dX9_join_4 : decode cX9_join 4 = .ok (.iconst 2, 1) := by decide +kernel
theorem dX9_join_5 : decode cX9_join 5 = .ok (.if_icmp .ge 4, 3) := by decide +kernel
theorem dX9_join_8 : decode cX9_join 8 = .ok (.return_, 1) := by decide +kernel
theorem dX9_join_9 : decode cX9_join 9 = .ok (.aload_n 0, 1) := by decide +kernel
theorem dX9_join_10 : decode cX9_join 10 = .ok (.dup, 1) := by decide +kernel
theorem dX9_join_11 : decode cX9_join 11 = .ok (.getfield 87, 3) := by decide +kernel
theorem dX9_join_14 : decode cX9_join 14 = .ok (.iconst 1, 1) := by decide +kernel
theorem dX9_join_15 : decode cX9_join 15 = .ok (.isub, 1) := by decide +kernel
theorem dX9_join_16 : decode cX9_join 16 = .ok (.putfield 87, 3) := by decide +kernel
theorem dX9_join_19 : decode cX9_join 19 = .ok (.iconst 0, 1) := by decide +kernel
theorem dX9_join_20 : decode cX9_join 20 = .ok (.istore_n 2, 1) := by decide +kernel
theorem dX9_join_21 : decode cX9_join 21 = .ok (.iload_n 2, 1) := by decide +kernel
theorem dX9_join_22 : decode cX9_join 22 = .ok (.iconst 3, 1) := by decide +kernel
theorem dX9_join_23 : decode cX9_join 23 = .ok (.if_icmp .ge 101, 3) := by decide +kernel
theorem dX9_join_26 : decode cX9_join 26 = .ok (.aload_n 0, 1) := by decide +kernel
theorem dX9_join_27 : decode cX9_join 27 = .ok (.getfield 87, 3) := by decide +kernel
theorem dX9_join_30 : decode cX9_join 30 = .ok (.iconst 1, 1) := by decide +kernel
theorem dX9_join_31 : decode cX9_join 31 = .ok (.isub, 1) := by decide +kernel
theorem dX9_join_32 : decode cX9_join 32 = .ok (.iconst 3, 1) := by decide +kernel
theorem dX9_join_33 : decode cX9_join 33 = .ok (.imul, 1) := by decide +kernel
theorem dX9_join_34 : decode cX9_join 34 = .ok (.iload_n 2, 1) := by decide +kernel
theorem dX9_join_35 : decode cX9_join 35 = .ok (.iadd, 1) := by decide +kernel
theorem dX9_join_36 : decode cX9_join 36 = .ok (.istore_n 3, 1) := by decide +kernel
theorem dX9_join_37 : decode cX9_join 37 = .ok (.aload_n 0, 1) := by decide +kernel
theorem dX9_join_38 : decode cX9_join 38 = .ok (.getfield 87, 3) := by decide +kernel
theorem dX9_join_41 : decode cX9_join 41 = .ok (.iconst 3, 1) := by decide +kernel
theorem dX9_join_42 : decode cX9_join 42 = .ok (.imul, 1) := by decide +kernel
theorem dX9_join_43 : decode cX9_join 43 = .ok (.iload_n 2, 1) := by decide +kernel
theorem dX9_join_44 : decode cX9_join 44 = .ok (.iadd, 1) := by decide +kernel
theorem dX9_join_45 : decode cX9_join 45 = .ok (.istore 4, 2) := by decide +kernel
theorem dX9_join_47 : decode cX9_join 47 = .ok (.iload_n 1, 1) := by decide +kernel
theorem dX9_join_48 : decode cX9_join 48 = .ok (.bipush 7, 2) := by decide +kernel
theorem dX9_join_50 : decode cX9_join 50 = .ok (.if_icmp .ne 22, 3) := by decide +kernel
theorem dX9_join_53 : decode cX9_join 53 = .ok (.aload_n 0, 1) := by decide +kernel
theorem dX9_join_54 : decode cX9_join 54 = .ok (.getfield 30, 3) := by decide +kernel
theorem dX9_join_57 : decode cX9_join 57 = .ok (.iload_n 3, 1) := by decide +kernel
theorem dX9_join_58 : decode cX9_join 58 = .ok (.dup2, 1) := by decide +kernel
theorem dX9_join_59 : decode cX9_join 59 = .ok (.iaload, 1) := by decide +kernel
theorem dX9_join_60 : decode cX9_join 60 = .ok (.aload_n 0, 1) := by decide +kernel
theorem dX9_join_61 : decode cX9_join 61 = .ok (.getfield 30, 3) := by decide +kernel
theorem dX9_join_64 : decode cX9_join 64 = .ok (.iload 4, 2) := by decide +kernel
theorem dX9_join_66 : decode cX9_join 66 = .ok (.iaload, 1) := by decide +kernel
theorem dX9_join_67 : decode cX9_join 67 = .ok (.iadd, 1) := by decide +kernel
theorem dX9_join_68 : decode cX9_join 68 = .ok (.iastore, 1) := by decide +kernel
theorem dX9_join_69 : decode cX9_join 69 = .ok (.goto 49, 3) := by decide +kernel
theorem dX9_join_72 : decode cX9_join 72 = .ok (.iload_n 1, 1) := by decide +kernel
theorem dX9_join_73 : decode cX9_join 73 = .ok (.bipush 8, 2) := by decide +kernel
theorem dX9_join_75 : decode cX9_join 75 = .ok (.if_icmp .ne 22, 3) := by decide +kernel
theorem dX9_join_78 : decode cX9_join 78 = .ok (.aload_n 0, 1) := by decide +kernel
theorem dX9_join_79 : decode cX9_join 79 = .ok (.getfield 30, 3) := by decide +kernel
theorem dX9_join_82 : decode cX9_join 82 = .ok (.iload_n 3, 1) := by decide +kernel
theorem dX9_join_83 : decode cX9_join 83 = .ok (.dup2, 1) := by decide +kernel
theorem dX9_join_84 : decode cX9_join 84 = .ok (.iaload, 1) := by decide +kernel
theorem dX9_join_85 : decode cX9_join 85 = .ok (.aload_n 0, 1) := by decide +kernel
theorem dX9_join_86 : decode cX9_join 86 = .ok (.getfield 30, 3) := by decide +kernel
theorem dX9_join_89 : decode cX9_join 89 = .ok (.iload 4, 2) := by decide +kernel
theorem dX9_join_91 : decode cX9_join 91 = .ok (.iaload, 1) := by decide +kernel
theorem dX9_join_92 : decode cX9_join 92 = .ok (.isub, 1) := by decide +kernel
theorem dX9_join_93 : decode cX9_join 93 = .ok (.iastore, 1) := by decide +kernel
theorem dX9_join_94 : decode cX9_join 94 = .ok (.goto 24, 3) := by decide +kernel
theorem dX9_join_97 : decode cX9_join 97 = .ok (.aload_n 0, 1) := by decide +kernel
theorem dX9_join_98 : decode cX9_join 98 = .ok (.getfield 30, 3) := by decide +kernel
theorem dX9_join_101 : decode cX9_join 101 = .ok (.iload_n 3, 1) := by decide +kernel
theorem dX9_join_102 : decode cX9_join 102 = .ok (.iaload, 1) := by decide +kernel
theorem dX9_join_103 : decode cX9_join 103 = .ok (.aload_n 0, 1) := by decide +kernel
theorem dX9_join_104 : decode cX9_join 104 = .ok (.getfield 30, 3) := by decide +kernel
theorem dX9_join_107 : decode cX9_join 107 = .ok (.iload 4, 2) := by decide +kernel
theorem dX9_join_109 : decode cX9_join 109 = .ok (.iaload, 1) := by decide +kernel
theorem dX9_join_110 : decode cX9_join 110 = .ok (.if_icmp .eq 8, 3) := by decide +kernel
theorem dX9_join_113 : decode cX9_join 113 = .ok (.aload_n 0, 1) := by decide +kernel
theorem dX9_join_114 : decode cX9_join 114 = .ok (.iconst 1, 1) := by decide +kernel
theorem dX9_join_115 : decode cX9_join 115 = .ok (.putfield 83, 3) := by decide +kernel
theorem dX9_join_118 : decode cX9_join 118 = .ok (.iinc 2 1, 3) := by decide +kernel
theorem dX9_join_121 : decode cX9_join 121 = .ok (.goto (-100), 3) := by decide +kernel
theorem dX9_join_124 : decode cX9_join 124 = .ok (.return_, 1) := by decide +kernel
theorem dX10_init_0 : decode cX10_init 0 = .ok (.aload_n 0, 1) := by decide +kernel
theorem dX10_init_1 : decode cX10_init 1 = .ok (.invokespecial 3, 3) := by decide +kernel
theorem dX10_init_4 : decode cX10_init 4 = .ok (.aload_n 0, 1) := by decide +kernel
theorem dX10_init_5 : decode cX10_init 5 = .ok (.aload_n 1, 1) := by decide +kernel
theorem dX10_init_6 : decode cX10_init 6 = .ok (.putfield 9, 3) := by decide +kernel
theorem dX10_init_9 : decode cX10_init 9 = .ok (.aload_n 0, 1) := by decide +kernel
theorem dX10_init_10 : decode cX10_init 10 = .ok (.aload_n 2, 1) := by decide +kernel
theorem dX10_init_11 : decode cX10_init 11 = .ok (.putfield 15, 3) := by decide +kernel
theorem dX10_init_14 : decode cX10_init 14 = .ok (.aload_n 0, 1) := by decide +kernel
theorem dX10_init_15 : decode cX10_init 15 = .ok (.sipush 288, 3) := by decide +kernel
theorem dX10_init_18 : decode cX10_init 18 = .ok (.newarray .int, 2) := by decide +kernel
theorem dX10_init_20 : decode cX10_init 20 = .ok (.putfield 19, 3) := by decide +kernel
theorem dX10_init_23 : decode cX10_init 23 = .ok (.aload_n 0, 1) := by decide +kernel
theorem dX10_init_24 : decode cX10_init 24 = .ok (.sipush 288, 3) := by decide +kernel
theorem dX10_init_27 : decode cX10_init 27 = .ok (.newarray .int, 2) := by decide +kernel
theorem dX10_init_29 : decode cX10_init 29 = .ok (.putfield 23, 3) := by decide +kernel
theorem dX10_init_32 : decode cX10_init 32 = .ok (.aload_n 0, 1) := by decide +kernel
theorem dX10_init_33 : decode cX10_init 33 = .ok (.sipush 288, 3) := by decide +kernel
theorem dX10_init_36 : decode cX10_init 36 = .ok (.newarray .int, 2) := by decide +kernel
theorem dX10_init_38 : decode cX10_init 38 = .ok (.putfield 26, 3) := by decide +kernel
theorem dX10_init_41 : decode cX10_init 41 = .ok (.aload_n 0, 1) := by decide +kernel
theorem dX10_init_42 : decode cX10_init 42 = .ok (.bipush 32, 2) := by decide +kernel
theorem dX10_init_44 : decode cX10_init 44 = .ok (.newarray .int, 2) := by decide +kernel
theorem dX10_init_46 : decode cX10_init 46 = .ok (.putfield 29, 3) := by decide +kernel
theorem dX10_init_49 : decode cX10_init 49 = .ok (.aload_n 0, 1) := by decide +kernel
theorem dX10_init_50 : decode cX10_init 50 = .ok (.iconst (-1), 1) := by decide +kernel
theorem dX10_init_51 : decode cX10_init 51 = .ok (.putfield 32, 3) := by decide +kernel
theorem dX10_init_54 : decode cX10_init 54 = .ok (.return_, 1) := by decide +kernel
theorem dX10_settle_0 : decode cX10_settle 0 = .ok (.aload_n 0, 1) := by decide +kernel
theorem dX10_settle_1 : decode cX10_settle 1 = .ok (.getfield 32, 3) := by decide +kernel
theorem dX10_settle_4 : decode cX10_settle 4 = .ok (.aload_n 0, 1) := by decide +kernel
theorem dX10_settle_5 : decode cX10_settle 5 = .ok (.getfield 9, 3) := by decide +kernel
theorem dX10_settle_8 : decode cX10_settle 8 = .ok (.getfield 36, 3) := by decide +kernel
theorem dX10_settle_11 : decode cX10_settle 11 = .ok (.if_icmp .ne 4, 3) := by decide +kernel
theorem dX10_settle_14 : decode cX10_settle 14 = .ok (.return_, 1) := by decide +kernel
theorem dX10_settle_15 : decode cX10_settle 15 = .ok (.aload_n 0, 1) := by decide +kernel
theorem dX10_settle_16 : decode cX10_settle 16 = .ok (.aload_n 0, 1) := by decide +kernel
theorem dX10_settle_17 : decode cX10_settle 17 = .ok (.getfield 9, 3) := by decide +kernel
theorem dX10_settle_20 : decode cX10_settle 20 = .ok (.getfield 36, 3) := by decide +kernel
theorem dX10_settle_23 : decode cX10_settle 23 = .ok (.putfield 32, 3) := by decide +kernel
theorem dX10_settle_26 : decode cX10_settle 26 = .ok (.aload_n 0, 1) := by decide +kernel
theorem dX10_settle_27 : decode cX10_settle 27 = .ok (.getfield 15, 3) := by decide +kernel
theorem dX10_settle_30 : decode cX10_settle 30 = .ok (.invokevirtual 39, 3) := by decide +kernel
theorem dX10_settle_33 : decode cX10_settle 33 = .ok (.iconst 0, 1) := by decide +kernel
theorem dX10_settle_34 : decode cX10_settle 34 = .ok (.istore_n 1, 1) := by decide +kernel
theorem dX10_settle_35 : decode cX10_settle 35 = .ok (.iload_n 1, 1) := by decide +kernel
theorem dX10_settle_36 : decode cX10_settle 36 = .ok (.sipush 288, 3) := by decide +kernel
theorem dX10_settle_39 : decode cX10_settle 39 = .ok (.if_icmp .ge 33, 3) := by decide +kernel
theorem dX10_settle_42 : decode cX10_settle 42 = .ok (.aload_n 0, 1) := by decide +kernel
theorem dX10_settle_43 : decode cX10_settle 43 = .ok (.getfield 19, 3) := by decide +kernel
theorem dX10_settle_46 : decode cX10_settle 46 = .ok (.iload_n 1, 1) := by decide +kernel
theorem dX10_settle_47 : decode cX10_settle 47 = .ok (.aload_n 0, 1) := by decide +kernel
theorem dX10_settle_48 : decode cX10_settle 48 = .ok (.getfield 9, 3) := by decide +kernel
theorem dX10_settle_51 : decode cX10_settle 51 = .ok (.iload_n 1, 1) := by decide +kernel
theorem dX10_settle_52 : decode cX10_settle 52 = .ok (.invokevirtual 44, 3) := by decide +kernel
theorem dX10_settle_55 : decode cX10_settle 55 = .ok (.getfield 48, 3) := by decide +kernel
theorem dX10_settle_58 : decode cX10_settle 58 = .ok (.iastore, 1) := by decide +kernel
theorem dX10_settle_59 : decode cX10_settle 59 = .ok (.aload_n 0, 1) := by decide +kernel
theorem dX10_settle_60 : decode cX10_settle 60 = .ok (.getfield 23, 3) := by decide +kernel
theorem dX10_settle_63 : decode cX10_settle 63 = .ok (.iload_n 1, 1) := by decide +kernel
theorem dX10_settle_64 : decode cX10_settle 64 = .ok (.iconst 0, 1) := by decide +kernel
theorem dX10_settle_65 : decode cX10_settle 65 = .ok (.iastore, 1) := by decide +kernel
theorem dX10_settle_66 : decode cX10_settle 66 = .ok (.iinc 1 1, 3) := by decide +kernel
theorem dX10_settle_69 : decode cX10_settle 69 = .ok (.goto (-34), 3) := by decide +kernel
theorem dX10_settle_72 : decode cX10_settle 72 = .ok (.iconst 0, 1) := by decide +kernel
theorem dX10_settle_73 : decode cX10_settle 73 = .ok (.istore_n 1, 1) := by decide +kernel
theorem dX10_settle_74 : decode cX10_settle 74 = .ok (.iload_n 1, 1) := by decide +kernel
theorem dX10_settle_75 : decode cX10_settle 75 = .ok (.aload_n 0, 1) := by decide +kernel
theorem dX10_settle_76 : decode cX10_settle 76 = .ok (.getfield 15, 3) := by decide +kernel
theorem dX10_settle_79 : decode cX10_settle 79 = .ok (.invokevirtual 53, 3) := by decide +kernel
theorem dX10_settle_82 : decode cX10_settle 82 = .ok (.if_icmp .ge 44, 3) := by decide +kernel
theorem dX10_settle_85 : decode cX10_settle 85 = .ok (.aload_n 0, 1) := by decide +kernel
theorem dX10_settle_86 : decode cX10_settle 86 = .ok (.getfield 15, 3) := by decide +kernel
theorem dX10_settle_89 : decode cX10_settle 89 = .ok (.iload_n 1, 1) := by decide +kernel
theorem dX10_settle_90 : decode cX10_settle 90 = .ok (.invokevirtual 57, 3) := by decide +kernel
theorem dX10_settle_93 : decode cX10_settle 93 = .ok (.istore_n 2, 1) := by decide +kernel
theorem dX10_settle_94 : decode cX10_settle 94 = .ok (.aload_n 0, 1) := by decide +kernel
theorem dX10_settle_95 : decode cX10_settle 95 = .ok (.getfield 9, 3) := by decide +kernel
theorem dX10_settle_98 : decode cX10_settle 98 = .ok (.iload_n 2, 1) := by decide +kernel
theorem dX10_settle_99 : decode cX10_settle 99 = .ok (.invokevirtual 61, 3) := by decide +kernel
theorem dX10_settle_102 : decode cX10_settle 102 = .ok (.astore_n 3, 1) := by decide +kernel
theorem dX10_settle_103 : decode cX10_settle 103 = .ok (.iload_n 2, 1) := by decide +kernel
theorem dX10_settle_104 : decode cX10_settle 104 = .ok (.invokestatic 65, 3) := by decide +kernel
theorem dX10_settle_107 : decode cX10_settle 107 = .ok (.ifCond .eq 13, 3) := by decide +kernel
theorem dX10_settle_110 : decode cX10_settle 110 = .ok (.aload_n 3, 1) := by decide +kernel
theorem dX10_settle_111 : decode cX10_settle 111 = .ok (.ifnull 9, 3) := by decide +kernel
theorem dX10_settle_114 : decode cX10_settle 114 = .ok (.aload_n 0, 1) := by decide +kernel
theorem dX10_settle_115 : decode cX10_settle 115 = .ok (.iload_n 2, 1) := by decide +kernel
theorem dX10_settle_116 : decode cX10_settle 116 = .ok (.aload_n 3, 1) := by decide +kernel
theorem dX10_settle_117 : decode cX10_settle 117 = .ok (.invokevirtual 69, 3) := by decide +kernel
theorem dX10_settle_120 : decode cX10_settle 120 = .ok (.iinc 1 1, 3) := by decide +kernel
theorem dX10_settle_123 : decode cX10_settle 123 = .ok (.goto (-49), 3) := by decide +kernel
theorem dX10_settle_126 : decode cX10_settle 126 = .ok (.return_, 1) := by decide +kernel
theorem dX10_valueAt_0 : decode cX10_valueAt 0 = .ok (.iload_n 1, 1) := by decide +kernel
theorem dX10_valueAt_1 : decode cX10_valueAt 1 = .ok (.invokestatic 65, 3) := by decide +kernel
theorem dX10_valueAt_4 : decode cX10_valueAt 4 = .ok (.ifCond .eq 12, 3) := by decide +kernel
theorem dX10_valueAt_7 : decode cX10_valueAt 7 = .ok (.aload_n 0, 1) := by decide +kernel
theorem dX10_valueAt_8 : decode cX10_valueAt 8 = .ok (.getfield 19, 3) := by decide +kernel
theorem dX10_valueAt_11 : decode cX10_valueAt 11 = .ok (.iload_n 1, 1) := by decide +kernel
theorem dX10_valueAt_12 : decode cX10_valueAt 12 = .ok (.iaload, 1) := by decide +kernel
theorem dX10_valueAt_13 : decode cX10_valueAt 13 = .ok (.goto 4, 3) := by decide +kernel
theorem dX10_valueAt_16 : decode cX10_valueAt 16 = .ok (.iconst 0, 1) := by decide +kernel
theorem dX10_valueAt_17 : decode cX10_valueAt 17 = .ok (.ireturn, 1) := by decide +kernel
theorem dX10_errorAt_0 : decode cX10_errorAt 0 = .ok (.iload_n 1, 1) := by decide +kernel
theorem dX10_errorAt_1 : decode cX10_errorAt 1 = .ok (.invokestatic 65, 3) := by decide +kernel
theorem dX10_errorAt_4 : decode cX10_errorAt 4 = .ok (.ifCond .eq 12, 3) := by decide +kernel
theorem dX10_errorAt_7 : decode cX10_errorAt 7 = .ok (.aload_n 0, 1) := by decide +kernel
theorem dX10_errorAt_8 : decode cX10_errorAt 8 = .ok (.getfield 23, 3) := by decide +kernel
theorem dX10_errorAt_11 : decode cX10_errorAt 11 = .ok (.iload_n 1, 1) := by decide +kernel
theorem dX10_errorAt_12 : decode cX10_errorAt 12 = .ok (.iaload, 1) := by decide +kernel
theorem dX10_errorAt_13 : decode cX10_errorAt 13 = .ok (.goto 4, 3) := by decide +kernel
theorem dX10_errorAt_16 : decode cX10_errorAt 16 = .ok (.iconst 0, 1) := by decide +kernel
theorem dX10_errorAt_17 : decode cX10_errorAt 17 = .ok (.ireturn, 1) := by decide +kernel
theorem dX10_errors_0 : decode cX10_errors 0 = .ok (.iconst 0, 1) := by decide +kernel
theorem dX10_errors_1 : decode cX10_errors 1 = .ok (.istore_n 1, 1) := by decide +kernel
theorem dX10_errors_2 : decode cX10_errors 2 = .ok (.iconst 0, 1) := by decide +kernel
theorem dX10_errors_3 : decode cX10_errors 3 = .ok (.istore_n 2, 1) := by decide +kernel
theorem dX10_errors_4 : decode cX10_errors 4 = .ok (.iload_n 2, 1) := by decide +kernel
theorem dX10_errors_5 : decode cX10_errors 5 = .ok (.sipush 288, 3) := by decide +kernel
theorem dX10_errors_8 : decode cX10_errors 8 = .ok (.if_icmp .ge 21, 3) := by decide +kernel
theorem dX10_errors_11 : decode cX10_errors 11 = .ok (.aload_n 0, 1) := by decide +kernel
theorem dX10_errors_12 : decode cX10_errors 12 = .ok (.getfield 23, 3) := by decide +kernel
theorem dX10_errors_15 : decode cX10_errors 15 = .ok (.iload_n 2, 1) := by decide +kernel
theorem dX10_errors_16 : decode cX10_errors 16 = .ok (.iaload, 1) := by decide +kernel
theorem dX10_errors_17 : decode cX10_errors 17 = .ok (.ifCond .eq 6, 3) := by decide +kernel
theorem dX10_errors_20 : decode cX10_errors 20 = .ok (.iinc 1 1, 3) := by decide +kernel
theorem dX10_errors_23 : decode cX10_errors 23 = .ok (.iinc 2 1, 3) := by decide +kernel
theorem dX10_errors_26 : decode cX10_errors 26 = .ok (.goto (-22), 3) := by decide +kernel
theorem dX10_errors_29 : decode cX10_errors 29 = .ok (.iload_n 1, 1) := by decide +kernel
theorem dX10_errors_30 : decode cX10_errors 30 = .ok (.ireturn, 1) := by decide +kernel
theorem dX10_workOut_0 : decode cX10_workOut 0 = .ok (.aload_n 0, 1) := by decide +kernel
theorem dX10_workOut_1 : decode cX10_workOut 1 = .ok (.aload_n 0, 1) := by decide +kernel
theorem dX10_workOut_2 : decode cX10_workOut 2 = .ok (.getfield 15, 3) := by decide +kernel
theorem dX10_workOut_5 : decode cX10_workOut 5 = .ok (.iload_n 1, 1) := by decide +kernel
theorem dX10_workOut_6 : decode cX10_workOut 6 = .ok (.invokevirtual 73, 3) := by decide +kernel
theorem dX10_workOut_9 : decode cX10_workOut 9 = .ok (.ifCond .eq 7, 3) := by decide +kernel
theorem dX10_workOut_12 : decode cX10_workOut 12 = .ok (.iconst 2, 1) := by decide +kernel
theorem dX10_workOut_13 : decode cX10_workOut 13 = .ok (.goto 4, 3) := by decide +kernel
theorem dX10_workOut_16 : decode cX10_workOut 16 = .ok (.iconst 0, 1) := by decide +kernel
theorem dX10_workOut_17 : decode cX10_workOut 17 = .ok (.putfield 76, 3) := by decide +kernel
theorem dX10_workOut_20 : decode cX10_workOut 20 = .ok (.aload_n 0, 1) := by decide +kernel
theorem dX10_workOut_21 : decode cX10_workOut 21 = .ok (.iconst 0, 1) := by decide +kernel
theorem dX10_workOut_22 : decode cX10_workOut 22 = .ok (.putfield 79, 3) := by decide +kernel
theorem dX10_workOut_25 : decode cX10_workOut 25 = .ok (.iconst 0, 1) := by decide +kernel
theorem dX10_workOut_26 : decode cX10_workOut 26 = .ok (.istore_n 3, 1) := by decide +kernel
theorem dX10_workOut_27 : decode cX10_workOut 27 = .ok (.iload_n 3, 1) := by decide +kernel
theorem dX10_workOut_28 : decode cX10_workOut 28 = .ok (.aload_n 2, 1) := by decide +kernel
theorem dX10_workOut_29 : decode cX10_workOut 29 = .ok (.invokevirtual 82, 3) := by decide +kernel
theorem dX10_workOut_32 : decode cX10_workOut 32 = .ok (.if_icmp .ge 92, 3) := by decide +kernel
theorem dX10_workOut_35 : decode cX10_workOut 35 = .ok (.aload_n 0, 1) := by decide +kernel
theorem dX10_workOut_36 : decode cX10_workOut 36 = .ok (.getfield 76, 3) := by decide +kernel
theorem dX10_workOut_39 : decode cX10_workOut 39 = .ok (.ifCond .ne 85, 3) := by decide +kernel
theorem dX10_workOut_42 : decode cX10_workOut 42 = .ok (.aload_n 2, 1) := by decide +kernel
theorem dX10_workOut_43 : decode cX10_workOut 43 = .ok (.iload_n 3, 1) := by decide +kernel
theorem dX10_workOut_44 : decode cX10_workOut 44 = .ok (.invokevirtual 87, 3) := by decide +kernel
theorem dX10_workOut_47 : decode cX10_workOut 47 = .ok (.istore 4, 2) := by decide +kernel
theorem dX10_workOut_49 : decode cX10_workOut 49 = .ok (.iload 4, 2) := by decide +kernel
theorem dX10_workOut_51 : decode cX10_workOut 51 = .ok (.ifCond .ne 15, 3) := by decide +kernel
theorem dX10_workOut_54 : decode cX10_workOut 54 = .ok (.aload_n 0, 1) := by decide +kernel
theorem dX10_workOut_55 : decode cX10_workOut 55 = .ok (.aload_n 2, 1) := by decide +kernel
theorem dX10_workOut_56 : decode cX10_workOut 56 = .ok (.iload_n 3, 1) := by decide +kernel
theorem dX10_workOut_57 : decode cX10_workOut 57 = .ok (.invokevirtual 90, 3) := by decide +kernel
theorem dX10_workOut_60 : decode cX10_workOut 60 = .ok (.invokevirtual 93, 3) := by decide +kernel
theorem dX10_workOut_63 : decode cX10_workOut 63 = .ok (.goto 55, 3) := by decide +kernel
theorem dX10_workOut_66 : decode cX10_workOut 66 = .ok (.aload_n 2, 1) := by decide +kernel
theorem dX10_workOut_67 : decode cX10_workOut 67 = .ok (.iload_n 3, 1) := by decide +kernel
theorem dX10_workOut_68 : decode cX10_workOut 68 = .ok (.invokevirtual 97, 3) := by decide +kernel
theorem dX10_workOut_71 : decode cX10_workOut 71 = .ok (.ifCond .eq 17, 3) := by decide +kernel
theorem dX10_workOut_74 : decode cX10_workOut 74 = .ok (.aload_n 0, 1) := by decide +kernel
theorem dX10_workOut_75 : decode cX10_workOut 75 = .ok (.aload_n 0, 1) := by decide +kernel
theorem dX10_workOut_76 : decode cX10_workOut 76 = .ok (.iload_n 1, 1) := by decide +kernel
theorem dX10_workOut_77 : decode cX10_workOut 77 = .ok (.aload_n 2, 1) := by decide +kernel
theorem dX10_workOut_78 : decode cX10_workOut 78 = .ok (.iload_n 3, 1) := by decide +kernel
theorem dX10_workOut_79 : decode cX10_workOut 79 = .ok (.invokevirtual 100, 3) := by decide +kernel
theorem dX10_workOut_82 : decode cX10_workOut 82 = .ok (.invokevirtual 93, 3) := by decide +kernel
theorem dX10_workOut_85 : decode cX10_workOut 85 = .ok (.goto 33, 3) := by decide +kernel
theorem dX10_workOut_88 : decode cX10_workOut 88 = .ok (.iload 4, 2) := by decide +kernel
theorem dX10_workOut_90 : decode cX10_workOut 90 = .ok (.iconst 4, 1) := by decide +kernel
theorem dX10_workOut_91 : decode cX10_workOut 91 = .ok (.if_icmp .ne 15, 3) := by decide +kernel
theorem dX10_workOut_94 : decode cX10_workOut 94 = .ok (.aload_n 0, 1) := by decide +kernel
theorem dX10_workOut_95 : decode cX10_workOut 95 = .ok (.aload_n 0, 1) := by decide +kernel
theorem dX10_workOut_96 : decode cX10_workOut 96 = .ok (.invokevirtual 104, 3) := by decide +kernel
theorem dX10_workOut_99 : decode cX10_workOut 99 = .ok (.ineg, 1) := by decide +kernel
theorem dX10_workOut_100 : decode cX10_workOut 100 = .ok (.invokevirtual 93, 3) := by decide +kernel
theorem dX10_workOut_103 : decode cX10_workOut 103 = .ok (.goto 15, 3) := by decide +kernel
theorem dX10_workOut_106 : decode cX10_workOut 106 = .ok (.iload 4, 2) := by decide +kernel
theorem dX10_workOut_108 : decode cX10_workOut 108 = .ok (.iconst 3, 1) := by decide +kernel
theorem dX10_workOut_109 : decode cX10_workOut 109 = .ok (.if_icmp .eq 9, 3) := by decide +kernel
theorem dX10_workOut_112 : decode cX10_workOut 112 = .ok (.aload_n 0, 1) := by decide +kernel
theorem dX10_workOut_113 : decode cX10_workOut 113 = .ok (.iload 4, 2) := by decide +kernel
theorem dX10_workOut_115 : decode cX10_workOut 115 = .ok (.invokevirtual 107, 3) := by decide +kernel
theorem dX10_workOut_118 : decode cX10_workOut 118 = .ok (.iinc 3 1, 3) := by decide +kernel
theorem dX10_workOut_121 : decode cX10_workOut 121 = .ok (.goto (-94), 3) := by decide +kernel
theorem dX10_workOut_124 : decode cX10_workOut 124 = .ok (.aload_n 0, 1) := by decide +kernel
theorem dX10_workOut_125 : decode cX10_workOut 125 = .ok (.getfield 19, 3) := by decide +kernel
theorem dX10_workOut_128 : decode cX10_workOut 128 = .ok (.iload_n 1, 1) := by decide +kernel
theorem dX10_workOut_129 : decode cX10_workOut 129 = .ok (.aload_n 0, 1) := by decide +kernel
theorem dX10_workOut_130 : decode cX10_workOut 130 = .ok (.getfield 76, 3) := by decide +kernel
theorem dX10_workOut_133 : decode cX10_workOut 133 = .ok (.ifCond .ne 10, 3) := by decide +kernel
theorem dX10_workOut_136 : decode cX10_workOut 136 = .ok (.aload_n 0, 1) := by decide +kernel
theorem dX10_workOut_137 : decode cX10_workOut 137 = .ok (.invokevirtual 104, 3) := by decide +kernel
theorem dX10_workOut_140 : decode cX10_workOut 140 = .ok (.goto 4, 3) := by decide +kernel
theorem dX10_workOut_143 : decode cX10_workOut 143 = .ok (.iconst 0, 1) := by decide +kernel
theorem dX10_workOut_144 : decode cX10_workOut 144 = .ok (.iastore, 1) := by decide +kernel
theorem dX10_workOut_145 : decode cX10_workOut 145 = .ok (.aload_n 0, 1) := by decide +kernel
theorem dX10_workOut_146 : decode cX10_workOut 146 = .ok (.getfield 23, 3) := by decide +kernel
theorem dX10_workOut_149 : decode cX10_workOut 149 = .ok (.iload_n 1, 1) := by decide +kernel
theorem dX10_workOut_150 : decode cX10_workOut 150 = .ok (.aload_n 0, 1) := by decide +kernel
theorem dX10_workOut_151 : decode cX10_workOut 151 = .ok (.getfield 76, 3) := by decide +kernel
theorem dX10_workOut_154 : decode cX10_workOut 154 = .ok (.iastore, 1) := by decide +kernel
theorem dX10_workOut_155 : decode cX10_workOut 155 = .ok (.return_, 1) := by decide +kernel
theorem dX10_spanSum_0 : decode cX10_spanSum 0 = .ok (.iconst 0, 1) := by decide +kernel
theorem dX10_spanSum_1 : decode cX10_spanSum 1 = .ok (.istore 4, 2) := by decide +kernel
theorem dX10_spanSum_3 : decode cX10_spanSum 3 = .ok (.aload_n 2, 1) := by decide +kernel
theorem dX10_spanSum_4 : decode cX10_spanSum 4 = .ok (.iload_n 3, 1) := by decide +kernel
theorem dX10_spanSum_5 : decode cX10_spanSum 5 = .ok (.iload_n 1, 1) := by decide +kernel
theorem dX10_spanSum_6 : decode cX10_spanSum 6 = .ok (.aload_n 0, 1) := by decide +kernel
theorem dX10_spanSum_7 : decode cX10_spanSum 7 = .ok (.getfield 26, 3) := by decide +kernel
theorem dX10_spanSum_10 : decode cX10_spanSum 10 = .ok (.invokevirtual 110, 3) := by decide +kernel
theorem dX10_spanSum_13 : decode cX10_spanSum 13 = .ok (.istore 5, 2) := by decide +kernel
theorem dX10_spanSum_15 : decode cX10_spanSum 15 = .ok (.iconst 0, 1) := by decide +kernel
theorem dX10_spanSum_16 : decode cX10_spanSum 16 = .ok (.istore 6, 2) := by decide +kernel
theorem dX10_spanSum_18 : decode cX10_spanSum 18 = .ok (.iload 6, 2) := by decide +kernel
theorem dX10_spanSum_20 : decode cX10_spanSum 20 = .ok (.iload 5, 2) := by decide +kernel
theorem dX10_spanSum_22 : decode cX10_spanSum 22 = .ok (.if_icmp .ge 55, 3) := by decide +kernel
theorem dX10_spanSum_25 : decode cX10_spanSum 25 = .ok (.iload 6, 2) := by decide +kernel
theorem dX10_spanSum_27 : decode cX10_spanSum 27 = .ok (.sipush 288, 3) := by decide +kernel
theorem dX10_spanSum_30 : decode cX10_spanSum 30 = .ok (.if_icmp .ge 47, 3) := by decide +kernel
theorem dX10_spanSum_33 : decode cX10_spanSum 33 = .ok (.aload_n 0, 1) := by decide +kernel
theorem dX10_spanSum_34 : decode cX10_spanSum 34 = .ok (.getfield 76, 3) := by decide +kernel
theorem dX10_spanSum_37 : decode cX10_spanSum 37 = .ok (.ifCond .ne 40, 3) := by decide +kernel
theorem dX10_spanSum_40 : decode cX10_spanSum 40 = .ok (.aload_n 0, 1) := by decide +kernel
theorem dX10_spanSum_41 : decode cX10_spanSum 41 = .ok (.aload_n 0, 1) := by decide +kernel
theorem dX10_spanSum_42 : decode cX10_spanSum 42 = .ok (.aload_n 0, 1) := by decide +kernel
theorem dX10_spanSum_43 : decode cX10_spanSum 43 = .ok (.getfield 26, 3) := by decide +kernel
theorem dX10_spanSum_46 : decode cX10_spanSum 46 = .ok (.iload 6, 2) := by decide +kernel
theorem dX10_spanSum_48 : decode cX10_spanSum 48 = .ok (.iaload, 1) := by decide +kernel
theorem dX10_spanSum_49 : decode cX10_spanSum 49 = .ok (.invokevirtual 114, 3) := by decide +kernel
theorem dX10_spanSum_52 : decode cX10_spanSum 52 = .ok (.putfield 76, 3) := by decide +kernel
theorem dX10_spanSum_55 : decode cX10_spanSum 55 = .ok (.iload 4, 2) := by decide +kernel
theorem dX10_spanSum_57 : decode cX10_spanSum 57 = .ok (.aload_n 0, 1) := by decide +kernel
theorem dX10_spanSum_58 : decode cX10_spanSum 58 = .ok (.aload_n 0, 1) := by decide +kernel
theorem dX10_spanSum_59 : decode cX10_spanSum 59 = .ok (.getfield 26, 3) := by decide +kernel
theorem dX10_spanSum_62 : decode cX10_spanSum 62 = .ok (.iload 6, 2) := by decide +kernel
theorem dX10_spanSum_64 : decode cX10_spanSum 64 = .ok (.iaload, 1) := by decide +kernel
theorem dX10_spanSum_65 : decode cX10_spanSum 65 = .ok (.invokevirtual 117, 3) := by decide +kernel
theorem dX10_spanSum_68 : decode cX10_spanSum 68 = .ok (.iadd, 1) := by decide +kernel
theorem dX10_spanSum_69 : decode cX10_spanSum 69 = .ok (.istore 4, 2) := by decide +kernel
theorem dX10_spanSum_71 : decode cX10_spanSum 71 = .ok (.iinc 6 1, 3) := by decide +kernel
theorem dX10_spanSum_74 : decode cX10_spanSum 74 = .ok (.goto (-56), 3) := by decide +kernel
theorem dX10_spanSum_77 : decode cX10_spanSum 77 = .ok (.iload 4, 2) := by decide +kernel
theorem dX10_spanSum_79 : decode cX10_spanSum 79 = .ok (.ireturn, 1) := by decide +kernel
theorem dX10_join_0 : decode cX10_join 0 = .ok (.aload_n 0, 1) := by decide +kernel
theorem dX10_join_1 : decode cX10_join 1 = .ok (.invokevirtual 104, 3) := by decide +kernel
theorem dX10_join_4 : decode cX10_join 4 = .ok (.istore_n 2, 1) := by decide +kernel
theorem dX10_join_5 : decode cX10_join 5 = .ok (.aload_n 0, 1) := by decide +kernel
theorem dX10_join_6 : decode cX10_join 6 = .ok (.invokevirtual 104, 3) := by decide +kernel
theorem dX10_join_9 : decode cX10_join 9 = .ok (.istore_n 3, 1) := by decide +kernel
theorem dX10_join_10 : decode cX10_join 10 = .ok (.iload_n 1, 1) := by decide +kernel
theorem dX10_join_11 : decode cX10_join 11 = .ok (.tableswitch 55 5 7 #[25, 35, 45], 25) := by decide +kernel
theorem dX10_join_36 : decode cX10_join 36 = .ok (.aload_n 0, 1) := by decide +kernel
theorem dX10_join_37 : decode cX10_join 37 = .ok (.iload_n 3, 1) := by decide +kernel
theorem dX10_join_38 : decode cX10_join 38 = .ok (.iload_n 2, 1) := by decide +kernel
theorem dX10_join_39 : decode cX10_join 39 = .ok (.iadd, 1) := by decide +kernel
theorem dX10_join_40 : decode cX10_join 40 = .ok (.invokevirtual 93, 3) := by decide +kernel
theorem dX10_join_43 : decode cX10_join 43 = .ok (.goto 33, 3) := by decide +kernel
theorem dX10_join_46 : decode cX10_join 46 = .ok (.aload_n 0, 1) := by decide +kernel
theorem dX10_join_47 : decode cX10_join 47 = .ok (.iload_n 3, 1) := by decide +kernel
theorem dX10_join_48 : decode cX10_join 48 = .ok (.iload_n 2, 1) := by decide +kernel
theorem dX10_join_49 : decode cX10_join 49 = .ok (.isub, 1) := by decide +kernel
theorem dX10_join_50 : decode cX10_join 50 = .ok (.invokevirtual 93, 3) := by decide +kernel
theorem dX10_join_53 : decode cX10_join 53 = .ok (.goto 23, 3) := by decide +kernel
theorem dX10_join_56 : decode cX10_join 56 = .ok (.aload_n 0, 1) := by decide +kernel
theorem dX10_join_57 : decode cX10_join 57 = .ok (.iload_n 3, 1) := by decide +kernel
theorem dX10_join_58 : decode cX10_join 58 = .ok (.iload_n 2, 1) := by decide +kernel
theorem dX10_join_59 : decode cX10_join 59 = .ok (.imul, 1) := by decide +kernel
theorem dX10_join_60 : decode cX10_join 60 = .ok (.invokevirtual 93, 3) := by decide +kernel
theorem dX10_join_63 : decode cX10_join 63 = .ok (.goto 13, 3) := by decide +kernel
theorem dX10_join_66 : decode cX10_join 66 = .ok (.aload_n 0, 1) := by decide +kernel
theorem dX10_join_67 : decode cX10_join 67 = .ok (.aload_n 0, 1) := by decide +kernel
theorem dX10_join_68 : decode cX10_join 68 = .ok (.iload_n 3, 1) := by decide +kernel
theorem dX10_join_69 : decode cX10_join 69 = .ok (.iload_n 2, 1) := by decide +kernel
theorem dX10_join_70 : decode cX10_join 70 = .ok (.invokevirtual 120, 3) := by decide +kernel
theorem dX10_join_73 : decode cX10_join 73 = .ok (.invokevirtual 93, 3) := by decide +kernel
theorem dX10_join_76 : decode cX10_join 76 = .ok (.return_, 1) := by decide +kernel
theorem dX10_quotient_0 : decode cX10_quotient 0 = .ok (.iload_n 2, 1) := by decide +kernel
theorem dX10_quotient_1 : decode cX10_quotient 1 = .ok (.ifCond .ne 10, 3) := by decide +kernel
theorem dX10_quotient_4 : decode cX10_quotient 4 = .ok (.aload_n 0, 1) := by decide +kernel
theorem dX10_quotient_5 : decode cX10_quotient 5 = .ok (.iconst 1, 1) := by decide +kernel
theorem dX10_quotient_6 : decode cX10_quotient 6 = .ok (.putfield 76, 3) := by decide +kernel
theorem dX10_quotient_9 : decode cX10_quotient 9 = .ok (.iconst 0, 1) := by decide +kernel
theorem dX10_quotient_10 : decode cX10_quotient 10 = .ok (.ireturn, 1) := by decide +kernel
theorem dX10_quotient_11 : decode cX10_quotient 11 = .ok (.iload_n 1, 1) := by decide +kernel
theorem dX10_quotient_12 : decode cX10_quotient 12 = .ok (.iload_n 2, 1) := by decide +kernel
theorem dX10_quotient_13 : decode cX10_quotient 13 = .ok (.idiv, 1) := by decide +kernel
theorem dX10_quotient_14 : decode cX10_quotient 14 = .ok (.ireturn, 1) := by decide +kernel
theorem dX10_push_0 : decode cX10_push 0 = .ok (.aload_n 0, 1) := by decide +kernel
theorem dX10_push_1 : decode cX10_push 1 = .ok (.getfield 79, 3) := by decide +kernel
theorem dX10_push_4 : decode cX10_push 4 = .ok (.bipush 32, 2) := by decide +kernel
theorem dX10_push_6 : decode cX10_push 6 = .ok (.if_icmp .ge 23, 3) := by decide +kernel
theorem dX10_push_9 : decode cX10_push 9 = .ok (.aload_n 0, 1) := by decide +kernel
theorem dX10_push_10 : decode cX10_push 10 = .ok (.getfield 29, 3) := by decide +kernel
theorem dX10_push_13 : decode cX10_push 13 = .ok (.aload_n 0, 1) := by decide +kernel
theorem dX10_push_14 : decode cX10_push 14 = .ok (.getfield 79, 3) := by decide +kernel
theorem dX10_push_17 : decode cX10_push 17 = .ok (.iload_n 1, 1) := by decide +kernel
theorem dX10_push_18 : decode cX10_push 18 = .ok (.iastore, 1) := by decide +kernel
theorem dX10_push_19 : decode cX10_push 19 = .ok (.aload_n 0, 1) := by decide +kernel
theorem dX10_push_20 : decode cX10_push 20 = .ok (.dup, 1) := by decide +kernel
theorem dX10_push_21 : decode cX10_push 21 = .ok (.getfield 79, 3) := by decide +kernel
theorem dX10_push_24 : decode cX10_push 24 = .ok (.iconst 1, 1) := by decide +kernel
theorem dX10_push_25 : decode cX10_push 25 = .ok (.iadd, 1) := by decide +kernel
theorem dX10_push_26 : decode cX10_push 26 = .ok (.putfield 79, 3) := by decide +kernel
theorem dX10_push_29 : decode cX10_push 29 = .ok (.return_, 1) := by decide +kernel
theorem dX10_pop_0 : decode cX10_pop 0 = .ok (.aload_n 0, 1) := by decide +kernel
theorem dX10_pop_1 : decode cX10_pop 1 = .ok (.getfield 79, 3) := by decide +kernel
theorem dX10_pop_4 : decode cX10_pop 4 = .ok (.ifCond .gt 5, 3) := by decide +kernel
theorem dX10_pop_7 : decode cX10_pop 7 = .ok (.iconst 0, 1) := by decide +kernel
theorem dX10_pop_8 : decode cX10_pop 8 = .ok (.ireturn, 1) := by decide +kernel
theorem dX10_pop_9 : decode cX10_pop 9 = .ok (.aload_n 0, 1) := by decide +kernel
theorem dX10_pop_10 : decode cX10_pop 10 = .ok (.dup, 1) := by decide +kernel
theorem dX10_pop_11 : decode cX10_pop 11 = .ok (.getfield 79, 3) := by decide +kernel
theorem dX10_pop_14 : decode cX10_pop 14 = .ok (.iconst 1, 1) := by decide +kernel
theorem dX10_pop_15 : decode cX10_pop 15 = .ok (.isub, 1) := by decide +kernel
theorem dX10_pop_16 : decode cX10_pop 16 = .ok (.putfield 79, 3) := by decide +kernel
theorem dX10_pop_19 : decode cX10_pop 19 = .ok (.aload_n 0, 1) := by decide +kernel
theorem dX10_pop_20 : decode cX10_pop 20 = .ok (.getfield 29, 3) := by decide +kernel
theorem dX10_pop_23 : decode cX10_pop 23 = .ok (.aload_n 0, 1) := by decide +kernel
theorem dX10_pop_24 : decode cX10_pop 24 = .ok (.getfield 79, 3) := by decide +kernel
theorem dX10_pop_27 : decode cX10_pop 27 = .ok (.iaload, 1) := by decide +kernel
theorem dX10_pop_28 : decode cX10_pop 28 = .ok (.ireturn, 1) := by decide +kernel
theorem dX11_init_0 : decode cX11_init 0 = .ok (.aload_n 0, 1) := by decide +kernel
theorem dX11_init_1 : decode cX11_init 1 = .ok (.invokespecial 3, 3) := by decide +kernel
theorem dX11_init_4 : decode cX11_init 4 = .ok (.aload_n 0, 1) := by decide +kernel
theorem dX11_init_5 : decode cX11_init 5 = .ok (.new 9, 3) := by decide +kernel
theorem dX11_init_8 : decode cX11_init 8 = .ok (.dup, 1) := by decide +kernel
theorem dX11_init_9 : decode cX11_init 9 = .ok (.invokespecial 11, 3) := by decide +kernel
theorem dX11_init_12 : decode cX11_init 12 = .ok (.putfield 12, 3) := by decide +kernel
theorem dX11_init_15 : decode cX11_init 15 = .ok (.aload_n 0, 1) := by decide +kernel
theorem dX11_init_16 : decode cX11_init 16 = .ok (.new 16, 3) := by decide +kernel
theorem dX11_init_19 : decode cX11_init 19 = .ok (.dup, 1) := by decide +kernel
theorem dX11_init_20 : decode cX11_init 20 = .ok (.invokespecial 18, 3) := by decide +kernel
theorem dX11_init_23 : decode cX11_init 23 = .ok (.putfield 19, 3) := by decide +kernel
theorem dX11_init_26 : decode cX11_init 26 = .ok (.aload_n 0, 1) := by decide +kernel
theorem dX11_init_27 : decode cX11_init 27 = .ok (.new 23, 3) := by decide +kernel
theorem dX11_init_30 : decode cX11_init 30 = .ok (.dup, 1) := by decide +kernel
theorem dX11_init_31 : decode cX11_init 31 = .ok (.aload_n 0, 1) := by decide +kernel
theorem dX11_init_32 : decode cX11_init 32 = .ok (.getfield 19, 3) := by decide +kernel
theorem dX11_init_35 : decode cX11_init 35 = .ok (.invokespecial 25, 3) := by decide +kernel
theorem dX11_init_38 : decode cX11_init 38 = .ok (.putfield 28, 3) := by decide +kernel
theorem dX11_init_41 : decode cX11_init 41 = .ok (.aload_n 0, 1) := by decide +kernel
theorem dX11_init_42 : decode cX11_init 42 = .ok (.new 32, 3) := by decide +kernel
theorem dX11_init_45 : decode cX11_init 45 = .ok (.dup, 1) := by decide +kernel
theorem dX11_init_46 : decode cX11_init 46 = .ok (.aload_n 0, 1) := by decide +kernel
theorem dX11_init_47 : decode cX11_init 47 = .ok (.getfield 19, 3) := by decide +kernel
theorem dX11_init_50 : decode cX11_init 50 = .ok (.aload_n 0, 1) := by decide +kernel
theorem dX11_init_51 : decode cX11_init 51 = .ok (.getfield 28, 3) := by decide +kernel
theorem dX11_init_54 : decode cX11_init 54 = .ok (.invokespecial 34, 3) := by decide +kernel
theorem dX11_init_57 : decode cX11_init 57 = .ok (.putfield 37, 3) := by decide +kernel
theorem dX11_init_60 : decode cX11_init 60 = .ok (.aload_n 0, 1) := by decide +kernel
theorem dX11_init_61 : decode cX11_init 61 = .ok (.new 41, 3) := by decide +kernel
theorem dX11_init_64 : decode cX11_init 64 = .ok (.dup, 1) := by decide +kernel
theorem dX11_init_65 : decode cX11_init 65 = .ok (.aload_n 0, 1) := by decide +kernel
theorem dX11_init_66 : decode cX11_init 66 = .ok (.getfield 19, 3) := by decide +kernel
theorem dX11_init_69 : decode cX11_init 69 = .ok (.invokespecial 43, 3) := by decide +kernel
theorem dX11_init_72 : decode cX11_init 72 = .ok (.putfield 44, 3) := by decide +kernel
theorem dX11_init_75 : decode cX11_init 75 = .ok (.aload_n 0, 1) := by decide +kernel
theorem dX11_init_76 : decode cX11_init 76 = .ok (.new 48, 3) := by decide +kernel
theorem dX11_init_79 : decode cX11_init 79 = .ok (.dup, 1) := by decide +kernel
theorem dX11_init_80 : decode cX11_init 80 = .ok (.aload_n 0, 1) := by decide +kernel
theorem dX11_init_81 : decode cX11_init 81 = .ok (.getfield 19, 3) := by decide +kernel
theorem dX11_init_84 : decode cX11_init 84 = .ok (.aload_n 0, 1) := by decide +kernel
theorem dX11_init_85 : decode cX11_init 85 = .ok (.getfield 28, 3) := by decide +kernel
theorem dX11_init_88 : decode cX11_init 88 = .ok (.invokespecial 50, 3) := by decide +kernel
theorem dX11_init_91 : decode cX11_init 91 = .ok (.putfield 51, 3) := by decide +kernel
theorem dX11_init_94 : decode cX11_init 94 = .ok (.aload_n 0, 1) := by decide +kernel
theorem dX11_init_95 : decode cX11_init 95 = .ok (.new 55, 3) := by decide +kernel
theorem dX11_init_98 : decode cX11_init 98 = .ok (.dup, 1) := by decide +kernel
theorem dX11_init_99 : decode cX11_init 99 = .ok (.aload_n 0, 1) := by decide +kernel
theorem dX11_init_100 : decode cX11_init 100 = .ok (.getfield 19, 3) := by decide +kernel
theorem dX11_init_103 : decode cX11_init 103 = .ok (.aload_n 0, 1) := by decide +kernel
theorem dX11_init_104 : decode cX11_init 104 = .ok (.getfield 28, 3) := by decide +kernel
theorem dX11_init_107 : decode cX11_init 107 = .ok (.invokespecial 57, 3) := by decide +kernel
theorem dX11_init_110 : decode cX11_init 110 = .ok (.putfield 58, 3) := by decide +kernel
theorem dX11_init_113 : decode cX11_init 113 = .ok (.aload_n 0, 1) := by decide +kernel
theorem dX11_init_114 : decode cX11_init 114 = .ok (.new 62, 3) := by decide +kernel
theorem dX11_init_117 : decode cX11_init 117 = .ok (.dup, 1) := by decide +kernel
theorem dX11_init_118 : decode cX11_init 118 = .ok (.aload_n 0, 1) := by decide +kernel
theorem dX11_init_119 : decode cX11_init 119 = .ok (.getfield 19, 3) := by decide +kernel
theorem dX11_init_122 : decode cX11_init 122 = .ok (.aload_n 0, 1) := by decide +kernel
theorem dX11_init_123 : decode cX11_init 123 = .ok (.getfield 28, 3) := by decide +kernel
theorem dX11_init_126 : decode cX11_init 126 = .ok (.aload_n 0, 1) := by decide +kernel
theorem dX11_init_127 : decode cX11_init 127 = .ok (.getfield 44, 3) := by decide +kernel
theorem dX11_init_130 : decode cX11_init 130 = .ok (.aload_n 0, 1) := by decide +kernel
theorem dX11_init_131 : decode cX11_init 131 = .ok (.getfield 51, 3) := by decide +kernel
theorem dX11_init_134 : decode cX11_init 134 = .ok (.aload_n 0, 1) := by decide +kernel
theorem dX11_init_135 : decode cX11_init 135 = .ok (.getfield 58, 3) := by decide +kernel
theorem dX11_init_138 : decode cX11_init 138 = .ok (.invokespecial 64, 3) := by decide +kernel
theorem dX11_init_141 : decode cX11_init 141 = .ok (.putfield 67, 3) := by decide +kernel
theorem dX11_init_144 : decode cX11_init 144 = .ok (.aload_n 0, 1) := by decide +kernel
theorem dX11_init_145 : decode cX11_init 145 = .ok (.new 71, 3) := by decide +kernel
theorem dX11_init_148 : decode cX11_init 148 = .ok (.dup, 1) := by decide +kernel
theorem dX11_init_149 : decode cX11_init 149 = .ok (.aload_n 0, 1) := by decide +kernel
theorem dX11_init_150 : decode cX11_init 150 = .ok (.getfield 37, 3) := by decide +kernel
theorem dX11_init_153 : decode cX11_init 153 = .ok (.invokespecial 73, 3) := by decide +kernel
theorem dX11_init_156 : decode cX11_init 156 = .ok (.putfield 76, 3) := by decide +kernel
theorem dX11_init_159 : decode cX11_init 159 = .ok (.return_, 1) := by decide +kernel
theorem dX11_feed_0 : decode cX11_feed 0 = .ok (.aload_n 0, 1) := by decide +kernel
theorem dX11_feed_1 : decode cX11_feed 1 = .ok (.getfield 12, 3) := by decide +kernel
theorem dX11_feed_4 : decode cX11_feed 4 = .ok (.lload_n 1, 1) := by decide +kernel
theorem dX11_feed_5 : decode cX11_feed 5 = .ok (.invokevirtual 80, 3) := by decide +kernel
theorem dX11_feed_8 : decode cX11_feed 8 = .ok (.aload_n 0, 1) := by decide +kernel
theorem dX11_feed_9 : decode cX11_feed 9 = .ok (.getfield 12, 3) := by decide +kernel
theorem dX11_feed_12 : decode cX11_feed 12 = .ok (.lload_n 3, 1) := by decide +kernel
theorem dX11_feed_13 : decode cX11_feed 13 = .ok (.invokevirtual 80, 3) := by decide +kernel
theorem dX11_feed_16 : decode cX11_feed 16 = .ok (.aload_n 0, 1) := by decide +kernel
theorem dX11_feed_17 : decode cX11_feed 17 = .ok (.getfield 12, 3) := by decide +kernel
theorem dX11_feed_20 : decode cX11_feed 20 = .ok (.lload 5, 2) := by decide +kernel
theorem dX11_feed_22 : decode cX11_feed 22 = .ok (.invokevirtual 80, 3) := by decide +kernel
theorem dX11_feed_25 : decode cX11_feed 25 = .ok (.aload_n 0, 1) := by decide +kernel
theorem dX11_feed_26 : decode cX11_feed 26 = .ok (.getfield 12, 3) := by decide +kernel
theorem dX11_feed_29 : decode cX11_feed 29 = .ok (.getfield 84, 3) := by decide +kernel
theorem dX11_feed_32 : decode cX11_feed 32 = .ok (.ireturn, 1) := by decide +kernel
theorem dX11_formula_0 : decode cX11_formula 0 = .ok (.iload_n 1, 1) := by decide +kernel
theorem dX11_formula_1 : decode cX11_formula 1 = .ok (.invokestatic 88, 3) := by decide +kernel
theorem dX11_formula_4 : decode cX11_formula 4 = .ok (.ifCond .ne 13, 3) := by decide +kernel
theorem dX11_formula_7 : decode cX11_formula 7 = .ok (.aload_n 0, 1) := by decide +kernel
theorem dX11_formula_8 : decode cX11_formula 8 = .ok (.getfield 12, 3) := by decide +kernel
theorem dX11_formula_11 : decode cX11_formula 11 = .ok (.iconst 0, 1) := by decide +kernel
theorem dX11_formula_12 : decode cX11_formula 12 = .ok (.putfield 84, 3) := by decide +kernel
theorem dX11_formula_15 : decode cX11_formula 15 = .ok (.iconst (-1), 1) := by decide +kernel
theorem dX11_formula_16 : decode cX11_formula 16 = .ok (.ireturn, 1) := by decide +kernel
theorem dX11_formula_17 : decode cX11_formula 17 = .ok (.aload_n 0, 1) := by decide +kernel
theorem dX11_formula_18 : decode cX11_formula 18 = .ok (.getfield 12, 3) := by decide +kernel
theorem dX11_formula_21 : decode cX11_formula 21 = .ok (.iload_n 1, 1) := by decide +kernel
theorem dX11_formula_22 : decode cX11_formula 22 = .ok (.invokevirtual 92, 3) := by decide +kernel
theorem dX11_formula_25 : decode cX11_formula 25 = .ok (.astore_n 2, 1) := by decide +kernel
theorem dX11_formula_26 : decode cX11_formula 26 = .ok (.aload_n 0, 1) := by decide +kernel
theorem dX11_formula_27 : decode cX11_formula 27 = .ok (.getfield 12, 3) := by decide +kernel
theorem dX11_formula_30 : decode cX11_formula 30 = .ok (.iconst 0, 1) := by decide +kernel
theorem dX11_formula_31 : decode cX11_formula 31 = .ok (.putfield 84, 3) := by decide +kernel
theorem dX11_formula_34 : decode cX11_formula 34 = .ok (.aload_n 2, 1) := by decide +kernel
theorem dX11_formula_35 : decode cX11_formula 35 = .ok (.ifnonnull 11, 3) := by decide +kernel
theorem dX11_formula_38 : decode cX11_formula 38 = .ok (.aload_n 0, 1) := by decide +kernel
theorem dX11_formula_39 : decode cX11_formula 39 = .ok (.getfield 12, 3) := by decide +kernel
theorem dX11_formula_42 : decode cX11_formula 42 = .ok (.getfield 96, 3) := by decide +kernel
theorem dX11_formula_45 : decode cX11_formula 45 = .ok (.ireturn, 1) := by decide +kernel
theorem dX11_formula_46 : decode cX11_formula 46 = .ok (.aload_n 0, 1) := by decide +kernel
theorem dX11_formula_47 : decode cX11_formula 47 = .ok (.getfield 19, 3) := by decide +kernel
theorem dX11_formula_50 : decode cX11_formula 50 = .ok (.iload_n 1, 1) := by decide +kernel
theorem dX11_formula_51 : decode cX11_formula 51 = .ok (.new 99, 3) := by decide +kernel
theorem dX11_formula_54 : decode cX11_formula 54 = .ok (.dup, 1) := by decide +kernel
theorem dX11_formula_55 : decode cX11_formula 55 = .ok (.iconst 2, 1) := by decide +kernel
theorem dX11_formula_56 : decode cX11_formula 56 = .ok (.iconst 0, 1) := by decide +kernel
theorem dX11_formula_57 : decode cX11_formula 57 = .ok (.aload_n 2, 1) := by decide +kernel
theorem dX11_formula_58 : decode cX11_formula 58 = .ok (.invokespecial 101, 3) := by decide +kernel
theorem dX11_formula_61 : decode cX11_formula 61 = .ok (.invokevirtual 104, 3) := by decide +kernel
theorem dX11_formula_64 : decode cX11_formula 64 = .ok (.iconst 0, 1) := by decide +kernel
theorem dX11_formula_65 : decode cX11_formula 65 = .ok (.ireturn, 1) := by decide +kernel
theorem dX11_number_0 : decode cX11_number 0 = .ok (.iload_n 1, 1) := by decide +kernel
theorem dX11_number_1 : decode cX11_number 1 = .ok (.invokestatic 88, 3) := by decide +kernel
theorem dX11_number_4 : decode cX11_number 4 = .ok (.ifCond .ne 5, 3) := by decide +kernel
theorem dX11_number_7 : decode cX11_number 7 = .ok (.iconst 0, 1) := by decide +kernel
theorem dX11_number_8 : decode cX11_number 8 = .ok (.ireturn, 1) := by decide +kernel
theorem dX11_number_9 : decode cX11_number 9 = .ok (.aload_n 0, 1) := by decide +kernel
theorem dX11_number_10 : decode cX11_number 10 = .ok (.getfield 19, 3) := by decide +kernel
theorem dX11_number_13 : decode cX11_number 13 = .ok (.iload_n 1, 1) := by decide +kernel
theorem dX11_number_14 : decode cX11_number 14 = .ok (.new 99, 3) := by decide +kernel
theorem dX11_number_17 : decode cX11_number 17 = .ok (.dup, 1) := by decide +kernel
theorem dX11_number_18 : decode cX11_number 18 = .ok (.iconst 1, 1) := by decide +kernel
theorem dX11_number_19 : decode cX11_number 19 = .ok (.iload_n 2, 1) := by decide +kernel
theorem dX11_number_20 : decode cX11_number 20 = .ok (.aconst_null, 1) := by decide +kernel
theorem dX11_number_21 : decode cX11_number 21 = .ok (.invokespecial 101, 3) := by decide +kernel
theorem dX11_number_24 : decode cX11_number 24 = .ok (.invokevirtual 104, 3) := by decide +kernel
theorem dX11_number_27 : decode cX11_number 27 = .ok (.iconst 1, 1) := by decide +kernel
theorem dX11_number_28 : decode cX11_number 28 = .ok (.ireturn, 1) := by decide +kernel
theorem dX11_empty_0 : decode cX11_empty 0 = .ok (.iload_n 1, 1) := by decide +kernel
theorem dX11_empty_1 : decode cX11_empty 1 = .ok (.invokestatic 88, 3) := by decide +kernel
theorem dX11_empty_4 : decode cX11_empty 4 = .ok (.ifCond .ne 5, 3) := by decide +kernel
theorem dX11_empty_7 : decode cX11_empty 7 = .ok (.iconst 0, 1) := by decide +kernel
theorem dX11_empty_8 : decode cX11_empty 8 = .ok (.ireturn, 1) := by decide +kernel
theorem dX11_empty_9 : decode cX11_empty 9 = .ok (.aload_n 0, 1) := by decide +kernel
theorem dX11_empty_10 : decode cX11_empty 10 = .ok (.getfield 19, 3) := by decide +kernel
theorem dX11_empty_13 : decode cX11_empty 13 = .ok (.iload_n 1, 1) := by decide +kernel
theorem dX11_empty_14 : decode cX11_empty 14 = .ok (.aload_n 0, 1) := by decide +kernel
theorem dX11_empty_15 : decode cX11_empty 15 = .ok (.getfield 19, 3) := by decide +kernel
theorem dX11_empty_18 : decode cX11_empty 18 = .ok (.getfield 108, 3) := by decide +kernel
theorem dX11_empty_21 : decode cX11_empty 21 = .ok (.invokevirtual 104, 3) := by decide +kernel
theorem dX11_empty_24 : decode cX11_empty 24 = .ok (.iconst 1, 1) := by decide +kernel
theorem dX11_empty_25 : decode cX11_empty 25 = .ok (.ireturn, 1) := by decide +kernel
theorem dX11_copy_0 : decode cX11_copy 0 = .ok (.iload_n 1, 1) := by decide +kernel
theorem dX11_copy_1 : decode cX11_copy 1 = .ok (.invokestatic 88, 3) := by decide +kernel
theorem dX11_copy_4 : decode cX11_copy 4 = .ok (.ifCond .eq 10, 3) := by decide +kernel
theorem dX11_copy_7 : decode cX11_copy 7 = .ok (.iload_n 2, 1) := by decide +kernel
theorem dX11_copy_8 : decode cX11_copy 8 = .ok (.invokestatic 88, 3) := by decide +kernel
theorem dX11_copy_11 : decode cX11_copy 11 = .ok (.ifCond .ne 5, 3) := by decide +kernel
theorem dX11_copy_14 : decode cX11_copy 14 = .ok (.iconst 0, 1) := by decide +kernel
theorem dX11_copy_15 : decode cX11_copy 15 = .ok (.ireturn, 1) := by decide +kernel
theorem dX11_copy_16 : decode cX11_copy 16 = .ok (.aload_n 0, 1) := by decide +kernel
theorem dX11_copy_17 : decode cX11_copy 17 = .ok (.getfield 19, 3) := by decide +kernel
theorem dX11_copy_20 : decode cX11_copy 20 = .ok (.iload_n 1, 1) := by decide +kernel
theorem dX11_copy_21 : decode cX11_copy 21 = .ok (.iload_n 2, 1) := by decide +kernel
theorem dX11_copy_22 : decode cX11_copy 22 = .ok (.invokevirtual 112, 3) := by decide +kernel
theorem dX11_copy_25 : decode cX11_copy 25 = .ok (.astore_n 3, 1) := by decide +kernel
theorem dX11_copy_26 : decode cX11_copy 26 = .ok (.aload_n 3, 1) := by decide +kernel
theorem dX11_copy_27 : decode cX11_copy 27 = .ok (.ifnonnull 5, 3) := by decide +kernel
theorem dX11_copy_30 : decode cX11_copy 30 = .ok (.iconst 0, 1) := by decide +kernel
theorem dX11_copy_31 : decode cX11_copy 31 = .ok (.ireturn, 1) := by decide +kernel
theorem dX11_copy_32 : decode cX11_copy 32 = .ok (.aload_n 0, 1) := by decide +kernel
theorem dX11_copy_33 : decode cX11_copy 33 = .ok (.getfield 19, 3) := by decide +kernel
theorem dX11_copy_36 : decode cX11_copy 36 = .ok (.iload_n 2, 1) := by decide +kernel
theorem dX11_copy_37 : decode cX11_copy 37 = .ok (.aload_n 3, 1) := by decide +kernel
theorem dX11_copy_38 : decode cX11_copy 38 = .ok (.invokevirtual 104, 3) := by decide +kernel
theorem dX11_copy_41 : decode cX11_copy 41 = .ok (.iconst 1, 1) := by decide +kernel
theorem dX11_copy_42 : decode cX11_copy 42 = .ok (.ireturn, 1) := by decide +kernel
theorem dX11_unit_0 : decode cX11_unit 0 = .ok (.aload_n 0, 1) := by decide +kernel
theorem dX11_unit_1 : decode cX11_unit 1 = .ok (.getfield 19, 3) := by decide +kernel
theorem dX11_unit_4 : decode cX11_unit 4 = .ok (.iload_n 1, 1) := by decide +kernel
theorem dX11_unit_5 : decode cX11_unit 5 = .ok (.invokevirtual 116, 3) := by decide +kernel
theorem dX11_unit_8 : decode cX11_unit 8 = .ok (.iconst 1, 1) := by decide +kernel
theorem dX11_unit_9 : decode cX11_unit 9 = .ok (.if_icmp .eq 5, 3) := by decide +kernel
theorem dX11_unit_12 : decode cX11_unit 12 = .ok (.iconst 0, 1) := by decide +kernel
theorem dX11_unit_13 : decode cX11_unit 13 = .ok (.ireturn, 1) := by decide +kernel
theorem dX11_unit_14 : decode cX11_unit 14 = .ok (.iload_n 2, 1) := by decide +kernel
theorem dX11_unit_15 : decode cX11_unit 15 = .ok (.invokestatic 120, 3) := by decide +kernel
theorem dX11_unit_18 : decode cX11_unit 18 = .ok (.ifCond .eq 18, 3) := by decide +kernel
theorem dX11_unit_21 : decode cX11_unit 21 = .ok (.iload_n 3, 1) := by decide +kernel
theorem dX11_unit_22 : decode cX11_unit 22 = .ok (.invokestatic 120, 3) := by decide +kernel
theorem dX11_unit_25 : decode cX11_unit 25 = .ok (.ifCond .eq 11, 3) := by decide +kernel
theorem dX11_unit_28 : decode cX11_unit 28 = .ok (.iload 4, 2) := by decide +kernel
theorem dX11_unit_30 : decode cX11_unit 30 = .ok (.invokestatic 120, 3) := by decide +kernel
theorem dX11_unit_33 : decode cX11_unit 33 = .ok (.ifCond .ne 5, 3) := by decide +kernel
theorem dX11_unit_36 : decode cX11_unit 36 = .ok (.iconst 0, 1) := by decide +kernel
theorem dX11_unit_37 : decode cX11_unit 37 = .ok (.ireturn, 1) := by decide +kernel
theorem dX11_unit_38 : decode cX11_unit 38 = .ok (.aload_n 0, 1) := by decide +kernel
theorem dX11_unit_39 : decode cX11_unit 39 = .ok (.getfield 19, 3) := by decide +kernel
theorem dX11_unit_42 : decode cX11_unit 42 = .ok (.iload_n 1, 1) := by decide +kernel
theorem dX11_unit_43 : decode cX11_unit 43 = .ok (.new 99, 3) := by decide +kernel
theorem dX11_unit_46 : decode cX11_unit 46 = .ok (.dup, 1) := by decide +kernel
theorem dX11_unit_47 : decode cX11_unit 47 = .ok (.aload_n 0, 1) := by decide +kernel
theorem dX11_unit_48 : decode cX11_unit 48 = .ok (.getfield 19, 3) := by decide +kernel
theorem dX11_unit_51 : decode cX11_unit 51 = .ok (.iload_n 1, 1) := by decide +kernel
theorem dX11_unit_52 : decode cX11_unit 52 = .ok (.invokevirtual 123, 3) := by decide +kernel
theorem dX11_unit_55 : decode cX11_unit 55 = .ok (.getfield 127, 3) := by decide +kernel
theorem dX11_unit_58 : decode cX11_unit 58 = .ok (.iload_n 2, 1) := by decide +kernel
theorem dX11_unit_59 : decode cX11_unit 59 = .ok (.iload_n 3, 1) := by decide +kernel
theorem dX11_unit_60 : decode cX11_unit 60 = .ok (.iload 4, 2) := by decide +kernel
theorem dX11_unit_62 : decode cX11_unit 62 = .ok (.invokespecial 130, 3) := by decide +kernel
theorem dX11_unit_65 : decode cX11_unit 65 = .ok (.invokevirtual 133, 3) := by decide +kernel
theorem dX11_unit_68 : decode cX11_unit 68 = .ok (.iconst 1, 1) := by decide +kernel
theorem dX11_unit_69 : decode cX11_unit 69 = .ok (.ireturn, 1) := by decide +kernel
theorem dX11_keep_0 : decode cX11_keep 0 = .ok (.aload_n 0, 1) := by decide +kernel
theorem dX11_keep_1 : decode cX11_keep 1 = .ok (.getfield 19, 3) := by decide +kernel
theorem dX11_keep_4 : decode cX11_keep 4 = .ok (.iload_n 1, 1) := by decide +kernel
theorem dX11_keep_5 : decode cX11_keep 5 = .ok (.iload_n 2, 1) := by decide +kernel
theorem dX11_keep_6 : decode cX11_keep 6 = .ok (.invokevirtual 136, 3) := by decide +kernel
theorem dX11_keep_9 : decode cX11_keep 9 = .ok (.ireturn, 1) := by decide +kernel
theorem dX11_check_0 : decode cX11_check 0 = .ok (.aload_n 0, 1) := by decide +kernel
theorem dX11_check_1 : decode cX11_check 1 = .ok (.getfield 44, 3) := by decide +kernel
theorem dX11_check_4 : decode cX11_check 4 = .ok (.invokevirtual 140, 3) := by decide +kernel
theorem dX11_check_7 : decode cX11_check 7 = .ok (.aload_n 0, 1) := by decide +kernel
theorem dX11_check_8 : decode cX11_check 8 = .ok (.getfield 51, 3) := by decide +kernel
theorem dX11_check_11 : decode cX11_check 11 = .ok (.invokevirtual 143, 3) := by decide +kernel
theorem dX11_check_14 : decode cX11_check 14 = .ok (.aload_n 0, 1) := by decide +kernel
theorem dX11_check_15 : decode cX11_check 15 = .ok (.getfield 58, 3) := by decide +kernel
theorem dX11_check_18 : decode cX11_check 18 = .ok (.invokevirtual 144, 3) := by decide +kernel
theorem dX11_check_21 : decode cX11_check 21 = .ok (.aload_n 0, 1) := by decide +kernel
theorem dX11_check_22 : decode cX11_check 22 = .ok (.getfield 67, 3) := by decide +kernel
theorem dX11_check_25 : decode cX11_check 25 = .ok (.invokevirtual 145, 3) := by decide +kernel
theorem dX11_check_28 : decode cX11_check 28 = .ok (.ireturn, 1) := by decide +kernel
theorem dX11_finding_0 : decode cX11_finding 0 = .ok (.aload_n 0, 1) := by decide +kernel
theorem dX11_finding_1 : decode cX11_finding 1 = .ok (.getfield 67, 3) := by decide +kernel
theorem dX11_finding_4 : decode cX11_finding 4 = .ok (.iload_n 1, 1) := by decide +kernel
theorem dX11_finding_5 : decode cX11_finding 5 = .ok (.iload_n 2, 1) := by decide +kernel
theorem dX11_finding_6 : decode cX11_finding 6 = .ok (.invokevirtual 149, 3) := by decide +kernel
theorem dX11_finding_9 : decode cX11_finding 9 = .ok (.ireturn, 1) := by decide +kernel
theorem dX11_mend_0 : decode cX11_mend 0 = .ok (.aload_n 0, 1) := by decide +kernel
theorem dX11_mend_1 : decode cX11_mend 1 = .ok (.getfield 76, 3) := by decide +kernel
theorem dX11_mend_4 : decode cX11_mend 4 = .ok (.invokevirtual 153, 3) := by decide +kernel
theorem dX11_mend_7 : decode cX11_mend 7 = .ok (.aload_n 0, 1) := by decide +kernel
theorem dX11_mend_8 : decode cX11_mend 8 = .ok (.getfield 44, 3) := by decide +kernel
theorem dX11_mend_11 : decode cX11_mend 11 = .ok (.invokevirtual 140, 3) := by decide +kernel
theorem dX11_mend_14 : decode cX11_mend 14 = .ok (.aload_n 0, 1) := by decide +kernel
theorem dX11_mend_15 : decode cX11_mend 15 = .ok (.getfield 44, 3) := by decide +kernel
theorem dX11_mend_18 : decode cX11_mend 18 = .ok (.iload_n 1, 1) := by decide +kernel
theorem dX11_mend_19 : decode cX11_mend 19 = .ok (.invokevirtual 156, 3) := by decide +kernel
theorem dX11_mend_22 : decode cX11_mend 22 = .ok (.istore_n 2, 1) := by decide +kernel
theorem dX11_mend_23 : decode cX11_mend 23 = .ok (.iload_n 2, 1) := by decide +kernel
theorem dX11_mend_24 : decode cX11_mend 24 = .ok (.iconst (-1), 1) := by decide +kernel
theorem dX11_mend_25 : decode cX11_mend 25 = .ok (.if_icmp .ne 5, 3) := by decide +kernel
theorem dX11_mend_28 : decode cX11_mend 28 = .ok (.iconst (-1), 1) := by decide +kernel
theorem dX11_mend_29 : decode cX11_mend 29 = .ok (.ireturn, 1) := by decide +kernel
theorem dX11_mend_30 : decode cX11_mend 30 = .ok (.aload_n 0, 1) := by decide +kernel
theorem dX11_mend_31 : decode cX11_mend 31 = .ok (.getfield 19, 3) := by decide +kernel
theorem dX11_mend_34 : decode cX11_mend 34 = .ok (.iload_n 2, 1) := by decide +kernel
theorem dX11_mend_35 : decode cX11_mend 35 = .ok (.iload_n 1, 1) := by decide +kernel
theorem dX11_mend_36 : decode cX11_mend 36 = .ok (.invokevirtual 112, 3) := by decide +kernel
theorem dX11_mend_39 : decode cX11_mend 39 = .ok (.astore_n 3, 1) := by decide +kernel
theorem dX11_mend_40 : decode cX11_mend 40 = .ok (.aload_n 3, 1) := by decide +kernel
theorem dX11_mend_41 : decode cX11_mend 41 = .ok (.ifnonnull 5, 3) := by decide +kernel
theorem dX11_mend_44 : decode cX11_mend 44 = .ok (.iconst (-1), 1) := by decide +kernel
theorem dX11_mend_45 : decode cX11_mend 45 = .ok (.ireturn, 1) := by decide +kernel
theorem dX11_mend_46 : decode cX11_mend 46 = .ok (.aload_n 0, 1) := by decide +kernel
theorem dX11_mend_47 : decode cX11_mend 47 = .ok (.getfield 37, 3) := by decide +kernel
theorem dX11_mend_50 : decode cX11_mend 50 = .ok (.invokevirtual 159, 3) := by decide +kernel
theorem dX11_mend_53 : decode cX11_mend 53 = .ok (.aload_n 0, 1) := by decide +kernel
theorem dX11_mend_54 : decode cX11_mend 54 = .ok (.getfield 76, 3) := by decide +kernel
theorem dX11_mend_57 : decode cX11_mend 57 = .ok (.invokevirtual 160, 3) := by decide +kernel
theorem dX11_mend_60 : decode cX11_mend 60 = .ok (.aload_n 0, 1) := by decide +kernel
theorem dX11_mend_61 : decode cX11_mend 61 = .ok (.getfield 19, 3) := by decide +kernel
theorem dX11_mend_64 : decode cX11_mend 64 = .ok (.iload_n 1, 1) := by decide +kernel
theorem dX11_mend_65 : decode cX11_mend 65 = .ok (.aload_n 3, 1) := by decide +kernel
theorem dX11_mend_66 : decode cX11_mend 66 = .ok (.invokevirtual 104, 3) := by decide +kernel
theorem dX11_mend_69 : decode cX11_mend 69 = .ok (.aload_n 0, 1) := by decide +kernel
theorem dX11_mend_70 : decode cX11_mend 70 = .ok (.getfield 37, 3) := by decide +kernel
theorem dX11_mend_73 : decode cX11_mend 73 = .ok (.invokevirtual 159, 3) := by decide +kernel
theorem dX11_mend_76 : decode cX11_mend 76 = .ok (.aload_n 0, 1) := by decide +kernel
theorem dX11_mend_77 : decode cX11_mend 77 = .ok (.getfield 76, 3) := by decide +kernel
theorem dX11_mend_80 : decode cX11_mend 80 = .ok (.invokevirtual 163, 3) := by decide +kernel
theorem dX11_mend_83 : decode cX11_mend 83 = .ok (.ireturn, 1) := by decide +kernel
theorem dX11_stretch_0 : decode cX11_stretch 0 = .ok (.aload_n 0, 1) := by decide +kernel
theorem dX11_stretch_1 : decode cX11_stretch 1 = .ok (.getfield 76, 3) := by decide +kernel
theorem dX11_stretch_4 : decode cX11_stretch 4 = .ok (.invokevirtual 153, 3) := by decide +kernel
theorem dX11_stretch_7 : decode cX11_stretch 7 = .ok (.aload_n 0, 1) := by decide +kernel
theorem dX11_stretch_8 : decode cX11_stretch 8 = .ok (.iload_n 1, 1) := by decide +kernel
theorem dX11_stretch_9 : decode cX11_stretch 9 = .ok (.iload_n 2, 1) := by decide +kernel
theorem dX11_stretch_10 : decode cX11_stretch 10 = .ok (.invokevirtual 166, 3) := by decide +kernel
theorem dX11_stretch_13 : decode cX11_stretch 13 = .ok (.astore_n 3, 1) := by decide +kernel
theorem dX11_stretch_14 : decode cX11_stretch 14 = .ok (.aload_n 3, 1) := by decide +kernel
theorem dX11_stretch_15 : decode cX11_stretch 15 = .ok (.ifnonnull 5, 3) := by decide +kernel
theorem dX11_stretch_18 : decode cX11_stretch 18 = .ok (.iconst (-1), 1) := by decide +kernel
theorem dX11_stretch_19 : decode cX11_stretch 19 = .ok (.ireturn, 1) := by decide +kernel
theorem dX11_stretch_20 : decode cX11_stretch 20 = .ok (.aload_n 0, 1) := by decide +kernel
theorem dX11_stretch_21 : decode cX11_stretch 21 = .ok (.getfield 37, 3) := by decide +kernel
theorem dX11_stretch_24 : decode cX11_stretch 24 = .ok (.invokevirtual 159, 3) := by decide +kernel
theorem dX11_stretch_27 : decode cX11_stretch 27 = .ok (.aload_n 0, 1) := by decide +kernel
theorem dX11_stretch_28 : decode cX11_stretch 28 = .ok (.getfield 76, 3) := by decide +kernel
theorem dX11_stretch_31 : decode cX11_stretch 31 = .ok (.invokevirtual 160, 3) := by decide +kernel
theorem dX11_stretch_34 : decode cX11_stretch 34 = .ok (.aload_n 0, 1) := by decide +kernel
theorem dX11_stretch_35 : decode cX11_stretch 35 = .ok (.getfield 19, 3) := by decide +kernel
theorem dX11_stretch_38 : decode cX11_stretch 38 = .ok (.iload_n 1, 1) := by decide +kernel
theorem dX11_stretch_39 : decode cX11_stretch 39 = .ok (.new 99, 3) := by decide +kernel
theorem dX11_stretch_42 : decode cX11_stretch 42 = .ok (.dup, 1) := by decide +kernel
theorem dX11_stretch_43 : decode cX11_stretch 43 = .ok (.iconst 2, 1) := by decide +kernel
theorem dX11_stretch_44 : decode cX11_stretch 44 = .ok (.iconst 0, 1) := by decide +kernel
theorem dX11_stretch_45 : decode cX11_stretch 45 = .ok (.aload_n 3, 1) := by decide +kernel
theorem dX11_stretch_46 : decode cX11_stretch 46 = .ok (.invokespecial 101, 3) := by decide +kernel
theorem dX11_stretch_49 : decode cX11_stretch 49 = .ok (.invokevirtual 104, 3) := by decide +kernel
theorem dX11_stretch_52 : decode cX11_stretch 52 = .ok (.aload_n 0, 1) := by decide +kernel
theorem dX11_stretch_53 : decode cX11_stretch 53 = .ok (.getfield 37, 3) := by decide +kernel
theorem dX11_stretch_56 : decode cX11_stretch 56 = .ok (.invokevirtual 159, 3) := by decide +kernel
theorem dX11_stretch_59 : decode cX11_stretch 59 = .ok (.aload_n 0, 1) := by decide +kernel
theorem dX11_stretch_60 : decode cX11_stretch 60 = .ok (.getfield 76, 3) := by decide +kernel
theorem dX11_stretch_63 : decode cX11_stretch 63 = .ok (.invokevirtual 163, 3) := by decide +kernel
theorem dX11_stretch_66 : decode cX11_stretch 66 = .ok (.ireturn, 1) := by decide +kernel
theorem dX11_changed_0 : decode cX11_changed 0 = .ok (.aload_n 0, 1) := by decide +kernel
theorem dX11_changed_1 : decode cX11_changed 1 = .ok (.getfield 76, 3) := by decide +kernel
theorem dX11_changed_4 : decode cX11_changed 4 = .ok (.iload_n 1, 1) := by decide +kernel
theorem dX11_changed_5 : decode cX11_changed 5 = .ok (.iload_n 2, 1) := by decide +kernel
theorem dX11_changed_6 : decode cX11_changed 6 = .ok (.invokevirtual 170, 3) := by decide +kernel
theorem dX11_changed_9 : decode cX11_changed 9 = .ok (.ireturn, 1) := by decide +kernel
theorem dX11_undo_0 : decode cX11_undo 0 = .ok (.aload_n 0, 1) := by decide +kernel
theorem dX11_undo_1 : decode cX11_undo 1 = .ok (.getfield 76, 3) := by decide +kernel
theorem dX11_undo_4 : decode cX11_undo 4 = .ok (.invokevirtual 153, 3) := by decide +kernel
theorem dX11_undo_7 : decode cX11_undo 7 = .ok (.aload_n 0, 1) := by decide +kernel
theorem dX11_undo_8 : decode cX11_undo 8 = .ok (.getfield 19, 3) := by decide +kernel
theorem dX11_undo_11 : decode cX11_undo 11 = .ok (.getfield 171, 3) := by decide +kernel
theorem dX11_undo_14 : decode cX11_undo 14 = .ok (.ifCond .ne 5, 3) := by decide +kernel
theorem dX11_undo_17 : decode cX11_undo 17 = .ok (.iconst (-1), 1) := by decide +kernel
theorem dX11_undo_18 : decode cX11_undo 18 = .ok (.ireturn, 1) := by decide +kernel
theorem dX11_undo_19 : decode cX11_undo 19 = .ok (.aload_n 0, 1) := by decide +kernel
theorem dX11_undo_20 : decode cX11_undo 20 = .ok (.getfield 37, 3) := by decide +kernel
theorem dX11_undo_23 : decode cX11_undo 23 = .ok (.invokevirtual 159, 3) := by decide +kernel
theorem dX11_undo_26 : decode cX11_undo 26 = .ok (.aload_n 0, 1) := by decide +kernel
theorem dX11_undo_27 : decode cX11_undo 27 = .ok (.getfield 76, 3) := by decide +kernel
theorem dX11_undo_30 : decode cX11_undo 30 = .ok (.invokevirtual 160, 3) := by decide +kernel
theorem dX11_undo_33 : decode cX11_undo 33 = .ok (.aload_n 0, 1) := by decide +kernel
theorem dX11_undo_34 : decode cX11_undo 34 = .ok (.getfield 19, 3) := by decide +kernel
theorem dX11_undo_37 : decode cX11_undo 37 = .ok (.invokevirtual 174, 3) := by decide +kernel
theorem dX11_undo_40 : decode cX11_undo 40 = .ok (.aload_n 0, 1) := by decide +kernel
theorem dX11_undo_41 : decode cX11_undo 41 = .ok (.getfield 37, 3) := by decide +kernel
theorem dX11_undo_44 : decode cX11_undo 44 = .ok (.invokevirtual 159, 3) := by decide +kernel
theorem dX11_undo_47 : decode cX11_undo 47 = .ok (.aload_n 0, 1) := by decide +kernel
theorem dX11_undo_48 : decode cX11_undo 48 = .ok (.getfield 76, 3) := by decide +kernel
theorem dX11_undo_51 : decode cX11_undo 51 = .ok (.invokevirtual 163, 3) := by decide +kernel
theorem dX11_undo_54 : decode cX11_undo 54 = .ok (.ireturn, 1) := by decide +kernel
theorem dX11_cell_0 : decode cX11_cell 0 = .ok (.iload_n 1, 1) := by decide +kernel
theorem dX11_cell_1 : decode cX11_cell 1 = .ok (.invokestatic 88, 3) := by decide +kernel
theorem dX11_cell_4 : decode cX11_cell 4 = .ok (.ifCond .eq 13, 3) := by decide +kernel
theorem dX11_cell_7 : decode cX11_cell 7 = .ok (.iload_n 2, 1) := by decide +kernel
theorem dX11_cell_8 : decode cX11_cell 8 = .ok (.ifCond .lt 9, 3) := by decide +kernel
theorem dX11_cell_11 : decode cX11_cell 11 = .ok (.iload_n 2, 1) := by decide +kernel
theorem dX11_cell_12 : decode cX11_cell 12 = .ok (.bipush 10, 2) := by decide +kernel
theorem dX11_cell_14 : decode cX11_cell 14 = .ok (.if_icmp .le 13, 3) := by decide +kernel
theorem dX11_cell_17 : decode cX11_cell 17 = .ok (.new 177, 3) := by decide +kernel
theorem dX11_cell_20 : decode cX11_cell 20 = .ok (.dup, 1) := by decide +kernel
theorem dX11_cell_21 : decode cX11_cell 21 = .ok (.ldc 179, 2) := by decide +kernel
theorem dX11_cell_23 : decode cX11_cell 23 = .ok (.invokespecial 181, 3) := by decide +kernel
theorem dX11_cell_26 : decode cX11_cell 26 = .ok (.athrow, 1) := by decide +kernel
theorem dX11_cell_27 : decode cX11_cell 27 = .ok (.iload_n 2, 1) := by decide +kernel
theorem dX11_cell_28 : decode cX11_cell 28 = .ok (.tableswitch 188 0 9 #[56, 65, 81, 97, 113, 113, 113, 132, 156, 172], 56) := by decide +kernel
theorem dX11_cell_84 : decode cX11_cell 84 = .ok (.aload_n 0, 1) := by decide +kernel
theorem dX11_cell_85 : decode cX11_cell 85 = .ok (.getfield 19, 3) := by decide +kernel
theorem dX11_cell_88 : decode cX11_cell 88 = .ok (.iload_n 1, 1) := by decide +kernel
theorem dX11_cell_89 : decode cX11_cell 89 = .ok (.invokevirtual 116, 3) := by decide +kernel
theorem dX11_cell_92 : decode cX11_cell 92 = .ok (.ireturn, 1) := by decide +kernel
theorem dX11_cell_93 : decode cX11_cell 93 = .ok (.aload_n 0, 1) := by decide +kernel
theorem dX11_cell_94 : decode cX11_cell 94 = .ok (.getfield 37, 3) := by decide +kernel
theorem dX11_cell_97 : decode cX11_cell 97 = .ok (.invokevirtual 159, 3) := by decide +kernel
theorem dX11_cell_100 : decode cX11_cell 100 = .ok (.aload_n 0, 1) := by decide +kernel
theorem dX11_cell_101 : decode cX11_cell 101 = .ok (.getfield 37, 3) := by decide +kernel
theorem dX11_cell_104 : decode cX11_cell 104 = .ok (.iload_n 1, 1) := by decide +kernel
theorem dX11_cell_105 : decode cX11_cell 105 = .ok (.invokevirtual 184, 3) := by decide +kernel
theorem dX11_cell_108 : decode cX11_cell 108 = .ok (.ireturn, 1) := by decide +kernel
theorem dX11_cell_109 : decode cX11_cell 109 = .ok (.aload_n 0, 1) := by decide +kernel
theorem dX11_cell_110 : decode cX11_cell 110 = .ok (.getfield 37, 3) := by decide +kernel
theorem dX11_cell_113 : decode cX11_cell 113 = .ok (.invokevirtual 159, 3) := by decide +kernel
theorem dX11_cell_116 : decode cX11_cell 116 = .ok (.aload_n 0, 1) := by decide +kernel
theorem dX11_cell_117 : decode cX11_cell 117 = .ok (.getfield 37, 3) := by decide +kernel
theorem dX11_cell_120 : decode cX11_cell 120 = .ok (.iload_n 1, 1) := by decide +kernel
theorem dX11_cell_121 : decode cX11_cell 121 = .ok (.invokevirtual 187, 3) := by decide +kernel
theorem dX11_cell_124 : decode cX11_cell 124 = .ok (.ireturn, 1) := by decide +kernel
theorem dX11_cell_125 : decode cX11_cell 125 = .ok (.aload_n 0, 1) := by decide +kernel
theorem dX11_cell_126 : decode cX11_cell 126 = .ok (.getfield 44, 3) := by decide +kernel
theorem dX11_cell_129 : decode cX11_cell 129 = .ok (.invokevirtual 140, 3) := by decide +kernel
theorem dX11_cell_132 : decode cX11_cell 132 = .ok (.aload_n 0, 1) := by decide +kernel
theorem dX11_cell_133 : decode cX11_cell 133 = .ok (.getfield 44, 3) := by decide +kernel
theorem dX11_cell_136 : decode cX11_cell 136 = .ok (.iload_n 1, 1) := by decide +kernel
theorem dX11_cell_137 : decode cX11_cell 137 = .ok (.invokevirtual 190, 3) := by decide +kernel
theorem dX11_cell_140 : decode cX11_cell 140 = .ok (.ireturn, 1) := by decide +kernel
theorem dX11_cell_141 : decode cX11_cell 141 = .ok (.aload_n 0, 1) := by decide +kernel
theorem dX11_cell_142 : decode cX11_cell 142 = .ok (.getfield 51, 3) := by decide +kernel
theorem dX11_cell_145 : decode cX11_cell 145 = .ok (.invokevirtual 143, 3) := by decide +kernel
theorem dX11_cell_148 : decode cX11_cell 148 = .ok (.aload_n 0, 1) := by decide +kernel
theorem dX11_cell_149 : decode cX11_cell 149 = .ok (.getfield 51, 3) := by decide +kernel
theorem dX11_cell_152 : decode cX11_cell 152 = .ok (.iload_n 1, 1) := by decide +kernel
theorem dX11_cell_153 : decode cX11_cell 153 = .ok (.iload_n 2, 1) := by decide +kernel
theorem dX11_cell_154 : decode cX11_cell 154 = .ok (.iconst 4, 1) := by decide +kernel
theorem dX11_cell_155 : decode cX11_cell 155 = .ok (.isub, 1) := by decide +kernel
theorem dX11_cell_156 : decode cX11_cell 156 = .ok (.invokevirtual 193, 3) := by decide +kernel
theorem dX11_cell_159 : decode cX11_cell 159 = .ok (.ireturn, 1) := by decide +kernel
theorem dX11_cell_160 : decode cX11_cell 160 = .ok (.aload_n 0, 1) := by decide +kernel
theorem dX11_cell_161 : decode cX11_cell 161 = .ok (.getfield 58, 3) := by decide +kernel
theorem dX11_cell_164 : decode cX11_cell 164 = .ok (.invokevirtual 144, 3) := by decide +kernel
theorem dX11_cell_167 : decode cX11_cell 167 = .ok (.aload_n 0, 1) := by decide +kernel
theorem dX11_cell_168 : decode cX11_cell 168 = .ok (.getfield 58, 3) := by decide +kernel
theorem dX11_cell_171 : decode cX11_cell 171 = .ok (.iload_n 1, 1) := by decide +kernel
theorem dX11_cell_172 : decode cX11_cell 172 = .ok (.invokevirtual 196, 3) := by decide +kernel
theorem dX11_cell_175 : decode cX11_cell 175 = .ok (.ifCond .eq 7, 3) := by decide +kernel
theorem dX11_cell_178 : decode cX11_cell 178 = .ok (.iconst 1, 1) := by decide +kernel
theorem dX11_cell_179 : decode cX11_cell 179 = .ok (.goto 4, 3) := by decide +kernel
theorem dX11_cell_182 : decode cX11_cell 182 = .ok (.iconst 0, 1) := by decide +kernel
theorem dX11_cell_183 : decode cX11_cell 183 = .ok (.ireturn, 1) := by decide +kernel
theorem dX11_cell_184 : decode cX11_cell 184 = .ok (.aload_n 0, 1) := by decide +kernel
theorem dX11_cell_185 : decode cX11_cell 185 = .ok (.getfield 28, 3) := by decide +kernel
theorem dX11_cell_188 : decode cX11_cell 188 = .ok (.invokevirtual 199, 3) := by decide +kernel
theorem dX11_cell_191 : decode cX11_cell 191 = .ok (.aload_n 0, 1) := by decide +kernel
theorem dX11_cell_192 : decode cX11_cell 192 = .ok (.getfield 28, 3) := by decide +kernel
theorem dX11_cell_195 : decode cX11_cell 195 = .ok (.iload_n 1, 1) := by decide +kernel
theorem dX11_cell_196 : decode cX11_cell 196 = .ok (.invokevirtual 200, 3) := by decide +kernel
theorem dX11_cell_199 : decode cX11_cell 199 = .ok (.ireturn, 1) := by decide +kernel
theorem dX11_cell_200 : decode cX11_cell 200 = .ok (.aload_n 0, 1) := by decide +kernel
theorem dX11_cell_201 : decode cX11_cell 201 = .ok (.getfield 28, 3) := by decide +kernel
theorem dX11_cell_204 : decode cX11_cell 204 = .ok (.invokevirtual 199, 3) := by decide +kernel
theorem dX11_cell_207 : decode cX11_cell 207 = .ok (.aload_n 0, 1) := by decide +kernel
theorem dX11_cell_208 : decode cX11_cell 208 = .ok (.getfield 28, 3) := by decide +kernel
theorem dX11_cell_211 : decode cX11_cell 211 = .ok (.iload_n 1, 1) := by decide +kernel
theorem dX11_cell_212 : decode cX11_cell 212 = .ok (.invokevirtual 203, 3) := by decide +kernel
theorem dX11_cell_215 : decode cX11_cell 215 = .ok (.ireturn, 1) := by decide +kernel
theorem dX11_cell_216 : decode cX11_cell 216 = .ok (.aload_n 0, 1) := by decide +kernel
theorem dX11_cell_217 : decode cX11_cell 217 = .ok (.getfield 19, 3) := by decide +kernel
theorem dX11_cell_220 : decode cX11_cell 220 = .ok (.iload_n 1, 1) := by decide +kernel
theorem dX11_cell_221 : decode cX11_cell 221 = .ok (.invokevirtual 206, 3) := by decide +kernel
theorem dX11_cell_224 : decode cX11_cell 224 = .ok (.ifCond .eq 7, 3) := by decide +kernel
theorem dX11_cell_227 : decode cX11_cell 227 = .ok (.iconst 1, 1) := by decide +kernel
theorem dX11_cell_228 : decode cX11_cell 228 = .ok (.goto 4, 3) := by decide +kernel
theorem dX11_cell_231 : decode cX11_cell 231 = .ok (.iconst 0, 1) := by decide +kernel
theorem dX11_cell_232 : decode cX11_cell 232 = .ok (.ireturn, 1) := by decide +kernel
theorem dX11_ways_0 : decode cX11_ways 0 = .ok (.iload_n 1, 1) := by decide +kernel
theorem dX11_ways_1 : decode cX11_ways 1 = .ok (.invokestatic 88, 3) := by decide +kernel
theorem dX11_ways_4 : decode cX11_ways 4 = .ok (.ifCond .eq 10, 3) := by decide +kernel
theorem dX11_ways_7 : decode cX11_ways 7 = .ok (.iload_n 2, 1) := by decide +kernel
theorem dX11_ways_8 : decode cX11_ways 8 = .ok (.invokestatic 88, 3) := by decide +kernel
theorem dX11_ways_11 : decode cX11_ways 11 = .ok (.ifCond .ne 5, 3) := by decide +kernel
theorem dX11_ways_14 : decode cX11_ways 14 = .ok (.iconst (-1), 1) := by decide +kernel
theorem dX11_ways_15 : decode cX11_ways 15 = .ok (.ireturn, 1) := by decide +kernel
theorem dX11_ways_16 : decode cX11_ways 16 = .ok (.aload_n 0, 1) := by decide +kernel
theorem dX11_ways_17 : decode cX11_ways 17 = .ok (.getfield 58, 3) := by decide +kernel
theorem dX11_ways_20 : decode cX11_ways 20 = .ok (.invokevirtual 144, 3) := by decide +kernel
theorem dX11_ways_23 : decode cX11_ways 23 = .ok (.aload_n 0, 1) := by decide +kernel
theorem dX11_ways_24 : decode cX11_ways 24 = .ok (.getfield 58, 3) := by decide +kernel
theorem dX11_ways_27 : decode cX11_ways 27 = .ok (.iload_n 2, 1) := by decide +kernel
theorem dX11_ways_28 : decode cX11_ways 28 = .ok (.invokevirtual 196, 3) := by decide +kernel
theorem dX11_ways_31 : decode cX11_ways 31 = .ok (.ifCond .eq 15, 3) := by decide +kernel
theorem dX11_ways_34 : decode cX11_ways 34 = .ok (.aload_n 0, 1) := by decide +kernel
theorem dX11_ways_35 : decode cX11_ways 35 = .ok (.getfield 58, 3) := by decide +kernel
theorem dX11_ways_38 : decode cX11_ways 38 = .ok (.iload_n 1, 1) := by decide +kernel
theorem dX11_ways_39 : decode cX11_ways 39 = .ok (.iload_n 2, 1) := by decide +kernel
theorem dX11_ways_40 : decode cX11_ways 40 = .ok (.invokevirtual 209, 3) := by decide +kernel
theorem dX11_ways_43 : decode cX11_ways 43 = .ok (.goto 4, 3) := by decide +kernel
theorem dX11_ways_46 : decode cX11_ways 46 = .ok (.iconst (-1), 1) := by decide +kernel
theorem dX11_ways_47 : decode cX11_ways 47 = .ok (.ireturn, 1) := by decide +kernel
theorem dX11_count_0 : decode cX11_count 0 = .ok (.iload_n 1, 1) := by decide +kernel
theorem dX11_count_1 : decode cX11_count 1 = .ok (.tableswitch 103 0 5 #[39, 48, 57, 72, 87, 95], 39) := by decide +kernel
theorem dX11_count_40 : decode cX11_count 40 = .ok (.aload_n 0, 1) := by decide +kernel
theorem dX11_count_41 : decode cX11_count 41 = .ok (.getfield 19, 3) := by decide +kernel
theorem dX11_count_44 : decode cX11_count 44 = .ok (.iconst 1, 1) := by decide +kernel
theorem dX11_count_45 : decode cX11_count 45 = .ok (.invokevirtual 212, 3) := by decide +kernel
theorem dX11_count_48 : decode cX11_count 48 = .ok (.ireturn, 1) := by decide +kernel
theorem dX11_count_49 : decode cX11_count 49 = .ok (.aload_n 0, 1) := by decide +kernel
theorem dX11_count_50 : decode cX11_count 50 = .ok (.getfield 19, 3) := by decide +kernel
theorem dX11_count_53 : decode cX11_count 53 = .ok (.iconst 2, 1) := by decide +kernel
theorem dX11_count_54 : decode cX11_count 54 = .ok (.invokevirtual 212, 3) := by decide +kernel
theorem dX11_count_57 : decode cX11_count 57 = .ok (.ireturn, 1) := by decide +kernel
theorem dX11_count_58 : decode cX11_count 58 = .ok (.aload_n 0, 1) := by decide +kernel
theorem dX11_count_59 : decode cX11_count 59 = .ok (.getfield 44, 3) := by decide +kernel
theorem dX11_count_62 : decode cX11_count 62 = .ok (.invokevirtual 140, 3) := by decide +kernel
theorem dX11_count_65 : decode cX11_count 65 = .ok (.aload_n 0, 1) := by decide +kernel
theorem dX11_count_66 : decode cX11_count 66 = .ok (.getfield 44, 3) := by decide +kernel
theorem dX11_count_69 : decode cX11_count 69 = .ok (.getfield 215, 3) := by decide +kernel
theorem dX11_count_72 : decode cX11_count 72 = .ok (.ireturn, 1) := by decide +kernel
theorem dX11_count_73 : decode cX11_count 73 = .ok (.aload_n 0, 1) := by decide +kernel
theorem dX11_count_74 : decode cX11_count 74 = .ok (.getfield 37, 3) := by decide +kernel
theorem dX11_count_77 : decode cX11_count 77 = .ok (.invokevirtual 159, 3) := by decide +kernel
theorem dX11_count_80 : decode cX11_count 80 = .ok (.aload_n 0, 1) := by decide +kernel
theorem dX11_count_81 : decode cX11_count 81 = .ok (.getfield 37, 3) := by decide +kernel
theorem dX11_count_84 : decode cX11_count 84 = .ok (.invokevirtual 218, 3) := by decide +kernel
theorem dX11_count_87 : decode cX11_count 87 = .ok (.ireturn, 1) := by decide +kernel
theorem dX11_count_88 : decode cX11_count 88 = .ok (.aload_n 0, 1) := by decide +kernel
theorem dX11_count_89 : decode cX11_count 89 = .ok (.getfield 12, 3) := by decide +kernel
theorem dX11_count_92 : decode cX11_count 92 = .ok (.getfield 84, 3) := by decide +kernel
theorem dX11_count_95 : decode cX11_count 95 = .ok (.ireturn, 1) := by decide +kernel
theorem dX11_count_96 : decode cX11_count 96 = .ok (.aload_n 0, 1) := by decide +kernel
theorem dX11_count_97 : decode cX11_count 97 = .ok (.getfield 19, 3) := by decide +kernel
theorem dX11_count_100 : decode cX11_count 100 = .ok (.getfield 171, 3) := by decide +kernel
theorem dX11_count_103 : decode cX11_count 103 = .ok (.ireturn, 1) := by decide +kernel
theorem dX11_count_104 : decode cX11_count 104 = .ok (.iconst (-1), 1) := by decide +kernel
theorem dX11_count_105 : decode cX11_count 105 = .ok (.ireturn, 1) := by decide +kernel
theorem dX11_stretchedFormula_0 : decode cX11_stretchedFormula 0 = .ok (.aload_n 0, 1) := by decide +kernel
theorem dX11_stretchedFormula_1 : decode cX11_stretchedFormula 1 = .ok (.getfield 19, 3) := by decide +kernel
theorem dX11_stretchedFormula_4 : decode cX11_stretchedFormula 4 = .ok (.iload_n 1, 1) := by decide +kernel
theorem dX11_stretchedFormula_5 : decode cX11_stretchedFormula 5 = .ok (.invokevirtual 221, 3) := by decide +kernel
theorem dX11_stretchedFormula_8 : decode cX11_stretchedFormula 8 = .ok (.astore_n 3, 1) := by decide +kernel
theorem dX11_stretchedFormula_9 : decode cX11_stretchedFormula 9 = .ok (.aload_n 3, 1) := by decide +kernel
theorem dX11_stretchedFormula_10 : decode cX11_stretchedFormula 10 = .ok (.ifnonnull 5, 3) := by decide +kernel
theorem dX11_stretchedFormula_13 : decode cX11_stretchedFormula 13 = .ok (.aconst_null, 1) := by decide +kernel
theorem dX11_stretchedFormula_14 : decode cX11_stretchedFormula 14 = .ok (.areturn, 1) := by decide +kernel
theorem dX11_stretchedFormula_15 : decode cX11_stretchedFormula 15 = .ok (.aload_n 0, 1) := by decide +kernel
theorem dX11_stretchedFormula_16 : decode cX11_stretchedFormula 16 = .ok (.getfield 44, 3) := by decide +kernel
theorem dX11_stretchedFormula_19 : decode cX11_stretchedFormula 19 = .ok (.invokevirtual 140, 3) := by decide +kernel
theorem dX11_stretchedFormula_22 : decode cX11_stretchedFormula 22 = .ok (.aload_n 3, 1) := by decide +kernel
theorem dX11_stretchedFormula_23 : decode cX11_stretchedFormula 23 = .ok (.iload_n 2, 1) := by decide +kernel
theorem dX11_stretchedFormula_24 : decode cX11_stretchedFormula 24 = .ok (.invokevirtual 224, 3) := by decide +kernel
theorem dX11_stretchedFormula_27 : decode cX11_stretchedFormula 27 = .ok (.istore 4, 2) := by decide +kernel
theorem dX11_stretchedFormula_29 : decode cX11_stretchedFormula 29 = .ok (.aload_n 0, 1) := by decide +kernel
theorem dX11_stretchedFormula_30 : decode cX11_stretchedFormula 30 = .ok (.getfield 67, 3) := by decide +kernel
theorem dX11_stretchedFormula_33 : decode cX11_stretchedFormula 33 = .ok (.iload_n 1, 1) := by decide +kernel
theorem dX11_stretchedFormula_34 : decode cX11_stretchedFormula 34 = .ok (.aload_n 3, 1) := by decide +kernel
theorem dX11_stretchedFormula_35 : decode cX11_stretchedFormula 35 = .ok (.iload 4, 2) := by decide +kernel
theorem dX11_stretchedFormula_37 : decode cX11_stretchedFormula 37 = .ok (.invokevirtual 229, 3) := by decide +kernel
theorem dX11_stretchedFormula_40 : decode cX11_stretchedFormula 40 = .ok (.iconst (-1), 1) := by decide +kernel
theorem dX11_stretchedFormula_41 : decode cX11_stretchedFormula 41 = .ok (.if_icmp .eq 12, 3) := by decide +kernel
theorem dX11_stretchedFormula_44 : decode cX11_stretchedFormula 44 = .ok (.aload_n 3, 1) := by decide +kernel
theorem dX11_stretchedFormula_45 : decode cX11_stretchedFormula 45 = .ok (.iload 4, 2) := by decide +kernel
theorem dX11_stretchedFormula_47 : decode cX11_stretchedFormula 47 = .ok (.iconst 1, 1) := by decide +kernel
theorem dX11_stretchedFormula_48 : decode cX11_stretchedFormula 48 = .ok (.iconst 0, 1) := by decide +kernel
theorem dX11_stretchedFormula_49 : decode cX11_stretchedFormula 49 = .ok (.invokevirtual 233, 3) := by decide +kernel
theorem dX11_stretchedFormula_52 : decode cX11_stretchedFormula 52 = .ok (.areturn, 1) := by decide +kernel
theorem dX11_stretchedFormula_53 : decode cX11_stretchedFormula 53 = .ok (.aload_n 0, 1) := by decide +kernel
theorem dX11_stretchedFormula_54 : decode cX11_stretchedFormula 54 = .ok (.getfield 67, 3) := by decide +kernel
theorem dX11_stretchedFormula_57 : decode cX11_stretchedFormula 57 = .ok (.iload_n 1, 1) := by decide +kernel
theorem dX11_stretchedFormula_58 : decode cX11_stretchedFormula 58 = .ok (.aload_n 3, 1) := by decide +kernel
theorem dX11_stretchedFormula_59 : decode cX11_stretchedFormula 59 = .ok (.iload 4, 2) := by decide +kernel
theorem dX11_stretchedFormula_61 : decode cX11_stretchedFormula 61 = .ok (.invokevirtual 237, 3) := by decide +kernel
theorem dX11_stretchedFormula_64 : decode cX11_stretchedFormula 64 = .ok (.iconst (-1), 1) := by decide +kernel
theorem dX11_stretchedFormula_65 : decode cX11_stretchedFormula 65 = .ok (.if_icmp .eq 12, 3) := by decide +kernel
theorem dX11_stretchedFormula_68 : decode cX11_stretchedFormula 68 = .ok (.aload_n 3, 1) := by decide +kernel
theorem dX11_stretchedFormula_69 : decode cX11_stretchedFormula 69 = .ok (.iload 4, 2) := by decide +kernel
theorem dX11_stretchedFormula_71 : decode cX11_stretchedFormula 71 = .ok (.iconst 0, 1) := by decide +kernel
theorem dX11_stretchedFormula_72 : decode cX11_stretchedFormula 72 = .ok (.iconst 1, 1) := by decide +kernel
theorem dX11_stretchedFormula_73 : decode cX11_stretchedFormula 73 = .ok (.invokevirtual 233, 3) := by decide +kernel
theorem dX11_stretchedFormula_76 : decode cX11_stretchedFormula 76 = .ok (.areturn, 1) := by decide +kernel
theorem dX11_stretchedFormula_77 : decode cX11_stretchedFormula 77 = .ok (.aconst_null, 1) := by decide +kernel
theorem dX11_stretchedFormula_78 : decode cX11_stretchedFormula 78 = .ok (.areturn, 1) := by decide +kernel
theorem dX11_onSheet_0 : decode cX11_onSheet 0 = .ok (.iload_n 0, 1) := by decide +kernel
theorem dX11_onSheet_1 : decode cX11_onSheet 1 = .ok (.ifCond .lt 14, 3) := by decide +kernel
theorem dX11_onSheet_4 : decode cX11_onSheet 4 = .ok (.iload_n 0, 1) := by decide +kernel
theorem dX11_onSheet_5 : decode cX11_onSheet 5 = .ok (.sipush 288, 3) := by decide +kernel
theorem dX11_onSheet_8 : decode cX11_onSheet 8 = .ok (.if_icmp .ge 7, 3) := by decide +kernel
theorem dX11_onSheet_11 : decode cX11_onSheet 11 = .ok (.iconst 1, 1) := by decide +kernel
theorem dX11_onSheet_12 : decode cX11_onSheet 12 = .ok (.goto 4, 3) := by decide +kernel
theorem dX11_onSheet_15 : decode cX11_onSheet 15 = .ok (.iconst 0, 1) := by decide +kernel
theorem dX11_onSheet_16 : decode cX11_onSheet 16 = .ok (.ireturn, 1) := by decide +kernel
theorem dX11_isExponent_0 : decode cX11_isExponent 0 = .ok (.iload_n 0, 1) := by decide +kernel
theorem dX11_isExponent_1 : decode cX11_isExponent 1 = .ok (.bipush (-4), 2) := by decide +kernel
theorem dX11_isExponent_3 : decode cX11_isExponent 3 = .ok (.if_icmp .lt 12, 3) := by decide +kernel
theorem dX11_isExponent_6 : decode cX11_isExponent 6 = .ok (.iload_n 0, 1) := by decide +kernel
theorem dX11_isExponent_7 : decode cX11_isExponent 7 = .ok (.iconst 4, 1) := by decide +kernel
theorem dX11_isExponent_8 : decode cX11_isExponent 8 = .ok (.if_icmp .gt 7, 3) := by decide +kernel
theorem dX11_isExponent_11 : decode cX11_isExponent 11 = .ok (.iconst 1, 1) := by decide +kernel
theorem dX11_isExponent_12 : decode cX11_isExponent 12 = .ok (.goto 4, 3) := by decide +kernel
theorem dX11_isExponent_15 : decode cX11_isExponent 15 = .ok (.iconst 0, 1) := by decide +kernel
theorem dX11_isExponent_16 : decode cX11_isExponent 16 = .ok (.ireturn, 1) := by decide +kernel
theorem dX11_hasBit_0 : decode cX11_hasBit 0 = .ok (.iload_n 1, 1) := by decide +kernel
theorem dX11_hasBit_1 : decode cX11_hasBit 1 = .ok (.invokestatic 88, 3) := by decide +kernel
theorem dX11_hasBit_4 : decode cX11_hasBit 4 = .ok (.ifCond .eq 10, 3) := by decide +kernel
theorem dX11_hasBit_7 : decode cX11_hasBit 7 = .ok (.iload_n 2, 1) := by decide +kernel
theorem dX11_hasBit_8 : decode cX11_hasBit 8 = .ok (.invokestatic 88, 3) := by decide +kernel
theorem dX11_hasBit_11 : decode cX11_hasBit 11 = .ok (.ifCond .ne 5, 3) := by decide +kernel
theorem dX11_hasBit_14 : decode cX11_hasBit 14 = .ok (.iconst 0, 1) := by decide +kernel
theorem dX11_hasBit_15 : decode cX11_hasBit 15 = .ok (.ireturn, 1) := by decide +kernel
theorem dX11_hasBit_16 : decode cX11_hasBit 16 = .ok (.aload_n 0, 1) := by decide +kernel
theorem dX11_hasBit_17 : decode cX11_hasBit 17 = .ok (.iload_n 1, 1) := by decide +kernel
theorem dX11_hasBit_18 : decode cX11_hasBit 18 = .ok (.iconst 5, 1) := by decide +kernel
theorem dX11_hasBit_19 : decode cX11_hasBit 19 = .ok (.imul, 1) := by decide +kernel
theorem dX11_hasBit_20 : decode cX11_hasBit 20 = .ok (.iload_n 2, 1) := by decide +kernel
theorem dX11_hasBit_21 : decode cX11_hasBit 21 = .ok (.bipush 64, 2) := by decide +kernel
theorem dX11_hasBit_23 : decode cX11_hasBit 23 = .ok (.idiv, 1) := by decide +kernel
theorem dX11_hasBit_24 : decode cX11_hasBit 24 = .ok (.iadd, 1) := by decide +kernel
theorem dX11_hasBit_25 : decode cX11_hasBit 25 = .ok (.laload, 1) := by decide +kernel
theorem dX11_hasBit_26 : decode cX11_hasBit 26 = .ok (.iload_n 2, 1) := by decide +kernel
theorem dX11_hasBit_27 : decode cX11_hasBit 27 = .ok (.bipush 64, 2) := by decide +kernel
theorem dX11_hasBit_29 : decode cX11_hasBit 29 = .ok (.irem, 1) := by decide +kernel
theorem dX11_hasBit_30 : decode cX11_hasBit 30 = .ok (.lushr, 1) := by decide +kernel
theorem dX11_hasBit_31 : decode cX11_hasBit 31 = .ok (.lconst 1, 1) := by decide +kernel
theorem dX11_hasBit_32 : decode cX11_hasBit 32 = .ok (.land, 1) := by decide +kernel
theorem dX11_hasBit_33 : decode cX11_hasBit 33 = .ok (.lconst 0, 1) := by decide +kernel
theorem dX11_hasBit_34 : decode cX11_hasBit 34 = .ok (.lcmp, 1) := by decide +kernel
theorem dX11_hasBit_35 : decode cX11_hasBit 35 = .ok (.ifCond .eq 7, 3) := by decide +kernel
theorem dX11_hasBit_38 : decode cX11_hasBit 38 = .ok (.iconst 1, 1) := by decide +kernel
theorem dX11_hasBit_39 : decode cX11_hasBit 39 = .ok (.goto 4, 3) := by decide +kernel
theorem dX11_hasBit_42 : decode cX11_hasBit 42 = .ok (.iconst 0, 1) := by decide +kernel
theorem dX11_hasBit_43 : decode cX11_hasBit 43 = .ok (.ireturn, 1) := by decide +kernel
theorem dX11_setBit_0 : decode cX11_setBit 0 = .ok (.iload_n 1, 1) := by decide +kernel
theorem dX11_setBit_1 : decode cX11_setBit 1 = .ok (.invokestatic 88, 3) := by decide +kernel
theorem dX11_setBit_4 : decode cX11_setBit 4 = .ok (.ifCond .eq 29, 3) := by decide +kernel
theorem dX11_setBit_7 : decode cX11_setBit 7 = .ok (.iload_n 2, 1) := by decide +kernel
theorem dX11_setBit_8 : decode cX11_setBit 8 = .ok (.invokestatic 88, 3) := by decide +kernel
theorem dX11_setBit_11 : decode cX11_setBit 11 = .ok (.ifCond .eq 22, 3) := by decide +kernel
theorem dX11_setBit_14 : decode cX11_setBit 14 = .ok (.aload_n 0, 1) := by decide +kernel
theorem dX11_setBit_15 : decode cX11_setBit 15 = .ok (.iload_n 1, 1) := by decide +kernel
theorem dX11_setBit_16 : decode cX11_setBit 16 = .ok (.iconst 5, 1) := by decide +kernel
theorem dX11_setBit_17 : decode cX11_setBit 17 = .ok (.imul, 1) := by decide +kernel
theorem dX11_setBit_18 : decode cX11_setBit 18 = .ok (.iload_n 2, 1) := by decide +kernel
theorem dX11_setBit_19 : decode cX11_setBit 19 = .ok (.bipush 64, 2) := by decide +kernel
theorem dX11_setBit_21 : decode cX11_setBit 21 = .ok (.idiv, 1) := by decide +kernel
theorem dX11_setBit_22 : decode cX11_setBit 22 = .ok (.iadd, 1) := by decide +kernel
theorem dX11_setBit_23 : decode cX11_setBit 23 = .ok (.dup2, 1) := by decide +kernel
theorem dX11_setBit_24 : decode cX11_setBit 24 = .ok (.laload, 1) := by decide +kernel
theorem dX11_setBit_25 : decode cX11_setBit 25 = .ok (.lconst 1, 1) := by decide +kernel
theorem dX11_setBit_26 : decode cX11_setBit 26 = .ok (.iload_n 2, 1) := by decide +kernel
theorem dX11_setBit_27 : decode cX11_setBit 27 = .ok (.bipush 64, 2) := by decide +kernel
theorem dX11_setBit_29 : decode cX11_setBit 29 = .ok (.irem, 1) := by decide +kernel
theorem dX11_setBit_30 : decode cX11_setBit 30 = .ok (.lshl, 1) := by decide +kernel
theorem dX11_setBit_31 : decode cX11_setBit 31 = .ok (.lor, 1) := by decide +kernel
theorem dX11_setBit_32 : decode cX11_setBit 32 = .ok (.lastore, 1) := by decide +kernel
theorem dX11_setBit_33 : decode cX11_setBit 33 = .ok (.return_, 1) := by decide +kernel
theorem dX12_feed_0 : decode cX12_feed 0 = .ok (.aload_n 0, 1) := by decide +kernel
theorem dX12_feed_1 : decode cX12_feed 1 = .ok (.iconst 0, 1) := by decide +kernel
theorem dX12_feed_2 : decode cX12_feed 2 = .ok (.putfield 1, 3) := by decide +kernel
theorem dX12_feed_5 : decode cX12_feed 5 = .ok (.aload_n 0, 1) := by decide +kernel
theorem dX12_feed_6 : decode cX12_feed 6 = .ok (.lload_n 1, 1) := by decide +kernel
theorem dX12_feed_7 : decode cX12_feed 7 = .ok (.invokevirtual 7, 3) := by decide +kernel
theorem dX12_feed_10 : decode cX12_feed 10 = .ok (.aload_n 0, 1) := by decide +kernel
theorem dX12_feed_11 : decode cX12_feed 11 = .ok (.lload_n 3, 1) := by decide +kernel
theorem dX12_feed_12 : decode cX12_feed 12 = .ok (.invokevirtual 7, 3) := by decide +kernel
theorem dX12_feed_15 : decode cX12_feed 15 = .ok (.aload_n 0, 1) := by decide +kernel
theorem dX12_feed_16 : decode cX12_feed 16 = .ok (.lload 5, 2) := by decide +kernel
theorem dX12_feed_18 : decode cX12_feed 18 = .ok (.invokevirtual 7, 3) := by decide +kernel
theorem dX12_feed_21 : decode cX12_feed 21 = .ok (.aload_n 0, 1) := by decide +kernel
theorem dX12_feed_22 : decode cX12_feed 22 = .ok (.getfield 11, 3) := by decide +kernel
theorem dX12_feed_25 : decode cX12_feed 25 = .ok (.ireturn, 1) := by decide +kernel
theorem dX12_lay_0 : decode cX12_lay 0 = .ok (.bipush 56, 2) := by decide +kernel
theorem dX12_lay_2 : decode cX12_lay 2 = .ok (.istore_n 3, 1) := by decide +kernel
theorem dX12_lay_3 : decode cX12_lay 3 = .ok (.iload_n 3, 1) := by decide +kernel
theorem dX12_lay_4 : decode cX12_lay 4 = .ok (.ifCond .lt 63, 3) := by decide +kernel
theorem dX12_lay_7 : decode cX12_lay 7 = .ok (.lload_n 1, 1) := by decide +kernel
theorem dX12_lay_8 : decode cX12_lay 8 = .ok (.iload_n 3, 1) := by decide +kernel
theorem dX12_lay_9 : decode cX12_lay 9 = .ok (.lshr, 1) := by decide +kernel
theorem dX12_lay_10 : decode cX12_lay 10 = .ok (.l2i, 1) := by decide +kernel
theorem dX12_lay_11 : decode cX12_lay 11 = .ok (.sipush 255, 3) := by decide +kernel
theorem dX12_lay_14 : decode cX12_lay 14 = .ok (.iand, 1) := by decide +kernel
theorem dX12_lay_15 : decode cX12_lay 15 = .ok (.istore 4, 2) := by decide +kernel
theorem dX12_lay_17 : decode cX12_lay 17 = .ok (.iload 4, 2) := by decide +kernel
theorem dX12_lay_19 : decode cX12_lay 19 = .ok (.bipush 32, 2) := by decide +kernel
theorem dX12_lay_21 : decode cX12_lay 21 = .ok (.if_icmp .lt 40, 3) := by decide +kernel
theorem dX12_lay_24 : decode cX12_lay 24 = .ok (.iload 4, 2) := by decide +kernel
theorem dX12_lay_26 : decode cX12_lay 26 = .ok (.bipush 126, 2) := by decide +kernel
theorem dX12_lay_28 : decode cX12_lay 28 = .ok (.if_icmp .gt 33, 3) := by decide +kernel
theorem dX12_lay_31 : decode cX12_lay 31 = .ok (.aload_n 0, 1) := by decide +kernel
theorem dX12_lay_32 : decode cX12_lay 32 = .ok (.getfield 11, 3) := by decide +kernel
theorem dX12_lay_35 : decode cX12_lay 35 = .ok (.bipush 120, 2) := by decide +kernel
theorem dX12_lay_37 : decode cX12_lay 37 = .ok (.if_icmp .ge 24, 3) := by decide +kernel
theorem dX12_lay_40 : decode cX12_lay 40 = .ok (.aload_n 0, 1) := by decide +kernel
theorem dX12_lay_41 : decode cX12_lay 41 = .ok (.getfield 14, 3) := by decide +kernel
theorem dX12_lay_44 : decode cX12_lay 44 = .ok (.aload_n 0, 1) := by decide +kernel
theorem dX12_lay_45 : decode cX12_lay 45 = .ok (.getfield 11, 3) := by decide +kernel
theorem dX12_lay_48 : decode cX12_lay 48 = .ok (.iload 4, 2) := by decide +kernel
theorem dX12_lay_50 : decode cX12_lay 50 = .ok (.iastore, 1) := by decide +kernel
theorem dX12_lay_51 : decode cX12_lay 51 = .ok (.aload_n 0, 1) := by decide +kernel
theorem dX12_lay_52 : decode cX12_lay 52 = .ok (.dup, 1) := by decide +kernel
theorem dX12_lay_53 : decode cX12_lay 53 = .ok (.getfield 11, 3) := by decide +kernel
theorem dX12_lay_56 : decode cX12_lay 56 = .ok (.iconst 1, 1) := by decide +kernel
theorem dX12_lay_57 : decode cX12_lay 57 = .ok (.iadd, 1) := by decide +kernel
theorem dX12_lay_58 : decode cX12_lay 58 = .ok (.putfield 11, 3) := by decide +kernel
theorem dX12_lay_61 : decode cX12_lay 61 = .ok (.iinc 3 (-8), 3) := by decide +kernel
theorem dX12_lay_64 : decode cX12_lay 64 = .ok (.goto (-61), 3) := by decide +kernel
theorem dX12_lay_67 : decode cX12_lay 67 = .ok (.return_, 1) := by decide +kernel
theorem dX12_isLetter_0 : decode cX12_isLetter 0 = .ok (.iload_n 0, 1) := by decide +kernel
theorem dX12_isLetter_1 : decode cX12_isLetter 1 = .ok (.bipush 97, 2) := by decide +kernel
theorem dX12_isLetter_3 : decode cX12_isLetter 3 = .ok (.if_icmp .lt 13, 3) := by decide +kernel
theorem dX12_isLetter_6 : decode cX12_isLetter 6 = .ok (.iload_n 0, 1) := by decide +kernel
theorem dX12_isLetter_7 : decode cX12_isLetter 7 = .ok (.bipush 122, 2) := by decide +kernel
theorem dX12_isLetter_9 : decode cX12_isLetter 9 = .ok (.if_icmp .gt 7, 3) := by decide +kernel
theorem dX12_isLetter_12 : decode cX12_isLetter 12 = .ok (.iconst 1, 1) := by decide +kernel
theorem dX12_isLetter_13 : decode cX12_isLetter 13 = .ok (.goto 4, 3) := by decide +kernel
theorem dX12_isLetter_16 : decode cX12_isLetter 16 = .ok (.iconst 0, 1) := by decide +kernel
theorem dX12_isLetter_17 : decode cX12_isLetter 17 = .ok (.ireturn, 1) := by decide +kernel
theorem dX12_isDigit_0 : decode cX12_isDigit 0 = .ok (.iload_n 0, 1) := by decide +kernel
theorem dX12_isDigit_1 : decode cX12_isDigit 1 = .ok (.bipush 48, 2) := by decide +kernel
theorem dX12_isDigit_3 : decode cX12_isDigit 3 = .ok (.if_icmp .lt 13, 3) := by decide +kernel
theorem dX12_isDigit_6 : decode cX12_isDigit 6 = .ok (.iload_n 0, 1) := by decide +kernel
theorem dX12_isDigit_7 : decode cX12_isDigit 7 = .ok (.bipush 57, 2) := by decide +kernel
theorem dX12_isDigit_9 : decode cX12_isDigit 9 = .ok (.if_icmp .gt 7, 3) := by decide +kernel
theorem dX12_isDigit_12 : decode cX12_isDigit 12 = .ok (.iconst 1, 1) := by decide +kernel
theorem dX12_isDigit_13 : decode cX12_isDigit 13 = .ok (.goto 4, 3) := by decide +kernel
theorem dX12_isDigit_16 : decode cX12_isDigit 16 = .ok (.iconst 0, 1) := by decide +kernel
theorem dX12_isDigit_17 : decode cX12_isDigit 17 = .ok (.ireturn, 1) := by decide +kernel
theorem dX12_isSignOf_0 : decode cX12_isSignOf 0 = .ok (.iload_n 0, 1) := by decide +kernel
theorem dX12_isSignOf_1 : decode cX12_isSignOf 1 = .ok (.bipush 40, 2) := by decide +kernel
theorem dX12_isSignOf_3 : decode cX12_isSignOf 3 = .ok (.if_icmp .eq 45, 3) := by decide +kernel
theorem dX12_isSignOf_6 : decode cX12_isSignOf 6 = .ok (.iload_n 0, 1) := by decide +kernel
theorem dX12_isSignOf_7 : decode cX12_isSignOf 7 = .ok (.bipush 41, 2) := by decide +kernel
theorem dX12_isSignOf_9 : decode cX12_isSignOf 9 = .ok (.if_icmp .eq 39, 3) := by decide +kernel
theorem dX12_isSignOf_12 : decode cX12_isSignOf 12 = .ok (.iload_n 0, 1) := by decide +kernel
theorem dX12_isSignOf_13 : decode cX12_isSignOf 13 = .ok (.bipush 43, 2) := by decide +kernel
theorem dX12_isSignOf_15 : decode cX12_isSignOf 15 = .ok (.if_icmp .eq 33, 3) := by decide +kernel
theorem dX12_isSignOf_18 : decode cX12_isSignOf 18 = .ok (.iload_n 0, 1) := by decide +kernel
theorem dX12_isSignOf_19 : decode cX12_isSignOf 19 = .ok (.bipush 45, 2) := by decide +kernel
theorem dX12_isSignOf_21 : decode cX12_isSignOf 21 = .ok (.if_icmp .eq 27, 3) := by decide +kernel
theorem dX12_isSignOf_24 : decode cX12_isSignOf 24 = .ok (.iload_n 0, 1) := by decide +kernel
theorem dX12_isSignOf_25 : decode cX12_isSignOf 25 = .ok (.bipush 42, 2) := by decide +kernel
theorem dX12_isSignOf_27 : decode cX12_isSignOf 27 = .ok (.if_icmp .eq 21, 3) := by decide +kernel
theorem dX12_isSignOf_30 : decode cX12_isSignOf 30 = .ok (.iload_n 0, 1) := by decide +kernel
theorem dX12_isSignOf_31 : decode cX12_isSignOf 31 = .ok (.bipush 47, 2) := by decide +kernel
theorem dX12_isSignOf_33 : decode cX12_isSignOf 33 = .ok (.if_icmp .eq 15, 3) := by decide +kernel
theorem dX12_isSignOf_36 : decode cX12_isSignOf 36 = .ok (.iload_n 0, 1) := by decide +kernel
theorem dX12_isSignOf_37 : decode cX12_isSignOf 37 = .ok (.bipush 58, 2) := by decide +kernel
theorem dX12_isSignOf_39 : decode cX12_isSignOf 39 = .ok (.if_icmp .eq 9, 3) := by decide +kernel
theorem dX12_isSignOf_42 : decode cX12_isSignOf 42 = .ok (.iload_n 0, 1) := by decide +kernel
theorem dX12_isSignOf_43 : decode cX12_isSignOf 43 = .ok (.bipush 36, 2) := by decide +kernel
theorem dX12_isSignOf_45 : decode cX12_isSignOf 45 = .ok (.if_icmp .ne 7, 3) := by decide +kernel
theorem dX12_isSignOf_48 : decode cX12_isSignOf 48 = .ok (.iconst 1, 1) := by decide +kernel
theorem dX12_isSignOf_49 : decode cX12_isSignOf 49 = .ok (.goto 4, 3) := by decide +kernel
theorem dX12_isSignOf_52 : decode cX12_isSignOf 52 = .ok (.iconst 0, 1) := by decide +kernel
theorem dX12_isSignOf_53 : decode cX12_isSignOf 53 = .ok (.ireturn, 1) := by decide +kernel
theorem dX12_cutAll_0 : decode cX12_cutAll 0 = .ok (.aload_n 0, 1) := by decide +kernel
theorem dX12_cutAll_1 : decode cX12_cutAll 1 = .ok (.aload_n 0, 1) := by decide +kernel
theorem dX12_cutAll_2 : decode cX12_cutAll 2 = .ok (.getfield 11, 3) := by decide +kernel
theorem dX12_cutAll_5 : decode cX12_cutAll 5 = .ok (.putfield 18, 3) := by decide +kernel
theorem dX12_cutAll_8 : decode cX12_cutAll 8 = .ok (.aload_n 0, 1) := by decide +kernel
theorem dX12_cutAll_9 : decode cX12_cutAll 9 = .ok (.iconst 0, 1) := by decide +kernel
theorem dX12_cutAll_10 : decode cX12_cutAll 10 = .ok (.putfield 11, 3) := by decide +kernel
theorem dX12_cutAll_13 : decode cX12_cutAll 13 = .ok (.iconst 0, 1) := by decide +kernel
theorem dX12_cutAll_14 : decode cX12_cutAll 14 = .ok (.istore_n 1, 1) := by decide +kernel
theorem dX12_cutAll_15 : decode cX12_cutAll 15 = .ok (.iconst 0, 1) := by decide +kernel
theorem dX12_cutAll_16 : decode cX12_cutAll 16 = .ok (.istore_n 2, 1) := by decide +kernel
theorem dX12_cutAll_17 : decode cX12_cutAll 17 = .ok (.iload_n 2, 1) := by decide +kernel
theorem dX12_cutAll_18 : decode cX12_cutAll 18 = .ok (.aload_n 0, 1) := by decide +kernel
theorem dX12_cutAll_19 : decode cX12_cutAll 19 = .ok (.getfield 18, 3) := by decide +kernel
theorem dX12_cutAll_22 : decode cX12_cutAll 22 = .ok (.if_icmp .ge 252, 3) := by decide +kernel
theorem dX12_cutAll_25 : decode cX12_cutAll 25 = .ok (.aload_n 0, 1) := by decide +kernel
theorem dX12_cutAll_26 : decode cX12_cutAll 26 = .ok (.getfield 14, 3) := by decide +kernel
theorem dX12_cutAll_29 : decode cX12_cutAll 29 = .ok (.iload_n 2, 1) := by decide +kernel
theorem dX12_cutAll_30 : decode cX12_cutAll 30 = .ok (.iaload, 1) := by decide +kernel
theorem dX12_cutAll_31 : decode cX12_cutAll 31 = .ok (.istore_n 3, 1) := by decide +kernel
theorem dX12_cutAll_32 : decode cX12_cutAll 32 = .ok (.iload_n 3, 1) := by decide +kernel
theorem dX12_cutAll_33 : decode cX12_cutAll 33 = .ok (.bipush 32, 2) := by decide +kernel
theorem dX12_cutAll_35 : decode cX12_cutAll 35 = .ok (.if_icmp .ne 9, 3) := by decide +kernel
theorem dX12_cutAll_38 : decode cX12_cutAll 38 = .ok (.iinc 2 1, 3) := by decide +kernel
theorem dX12_cutAll_41 : decode cX12_cutAll 41 = .ok (.goto (-24), 3) := by decide +kernel
theorem dX12_cutAll_44 : decode cX12_cutAll 44 = .ok (.iload_n 2, 1) := by decide +kernel
theorem dX12_cutAll_45 : decode cX12_cutAll 45 = .ok (.istore 4, 2) := by decide +kernel
theorem dX12_cutAll_47 : decode cX12_cutAll 47 = .ok (.lconst 0, 1) := by decide +kernel
theorem dX12_cutAll_48 : decode cX12_cutAll 48 = .ok (.lstore 5, 2) := by decide +kernel
theorem dX12_cutAll_50 : decode cX12_cutAll 50 = .ok (.aload_n 0, 1) := by decide +kernel
theorem dX12_cutAll_51 : decode cX12_cutAll 51 = .ok (.getfield 21, 3) := by decide +kernel
theorem dX12_cutAll_54 : decode cX12_cutAll 54 = .ok (.iload_n 1, 1) := by decide +kernel
theorem dX12_cutAll_55 : decode cX12_cutAll 55 = .ok (.iload_n 2, 1) := by decide +kernel
theorem dX12_cutAll_56 : decode cX12_cutAll 56 = .ok (.iastore, 1) := by decide +kernel
theorem dX12_cutAll_57 : decode cX12_cutAll 57 = .ok (.iload_n 3, 1) := by decide +kernel
theorem dX12_cutAll_58 : decode cX12_cutAll 58 = .ok (.invokestatic 24, 3) := by decide +kernel
theorem dX12_cutAll_61 : decode cX12_cutAll 61 = .ok (.ifCond .eq 84, 3) := by decide +kernel
theorem dX12_cutAll_64 : decode cX12_cutAll 64 = .ok (.iload_n 2, 1) := by decide +kernel
theorem dX12_cutAll_65 : decode cX12_cutAll 65 = .ok (.aload_n 0, 1) := by decide +kernel
theorem dX12_cutAll_66 : decode cX12_cutAll 66 = .ok (.getfield 18, 3) := by decide +kernel
theorem dX12_cutAll_69 : decode cX12_cutAll 69 = .ok (.if_icmp .ge 54, 3) := by decide +kernel
theorem dX12_cutAll_72 : decode cX12_cutAll 72 = .ok (.aload_n 0, 1) := by decide +kernel
theorem dX12_cutAll_73 : decode cX12_cutAll 73 = .ok (.getfield 14, 3) := by decide +kernel
theorem dX12_cutAll_76 : decode cX12_cutAll 76 = .ok (.iload_n 2, 1) := by decide +kernel
theorem dX12_cutAll_77 : decode cX12_cutAll 77 = .ok (.iaload, 1) := by decide +kernel
theorem dX12_cutAll_78 : decode cX12_cutAll 78 = .ok (.invokestatic 24, 3) := by decide +kernel
theorem dX12_cutAll_81 : decode cX12_cutAll 81 = .ok (.ifCond .eq 42, 3) := by decide +kernel
theorem dX12_cutAll_84 : decode cX12_cutAll 84 = .ok (.iload_n 2, 1) := by decide +kernel
theorem dX12_cutAll_85 : decode cX12_cutAll 85 = .ok (.iload 4, 2) := by decide +kernel
theorem dX12_cutAll_87 : decode cX12_cutAll 87 = .ok (.isub, 1) := by decide +kernel
theorem dX12_cutAll_88 : decode cX12_cutAll 88 = .ok (.iconst 3, 1) := by decide +kernel
theorem dX12_cutAll_89 : decode cX12_cutAll 89 = .ok (.if_icmp .ge 24, 3) := by decide +kernel
theorem dX12_cutAll_92 : decode cX12_cutAll 92 = .ok (.ldc2_w 28, 3) := by decide +kernel
theorem dX12_cutAll_95 : decode cX12_cutAll 95 = .ok (.lload 5, 2) := by decide +kernel
theorem dX12_cutAll_97 : decode cX12_cutAll 97 = .ok (.lmul, 1) := by decide +kernel
theorem dX12_cutAll_98 : decode cX12_cutAll 98 = .ok (.aload_n 0, 1) := by decide +kernel
theorem dX12_cutAll_99 : decode cX12_cutAll 99 = .ok (.getfield 14, 3) := by decide +kernel
theorem dX12_cutAll_102 : decode cX12_cutAll 102 = .ok (.iload_n 2, 1) := by decide +kernel
theorem dX12_cutAll_103 : decode cX12_cutAll 103 = .ok (.iaload, 1) := by decide +kernel
theorem dX12_cutAll_104 : decode cX12_cutAll 104 = .ok (.i2l, 1) := by decide +kernel
theorem dX12_cutAll_105 : decode cX12_cutAll 105 = .ok (.ladd, 1) := by decide +kernel
theorem dX12_cutAll_106 : decode cX12_cutAll 106 = .ok (.ldc2_w 30, 3) := by decide +kernel
theorem dX12_cutAll_109 : decode cX12_cutAll 109 = .ok (.lsub, 1) := by decide +kernel
theorem dX12_cutAll_110 : decode cX12_cutAll 110 = .ok (.goto 5, 3) := by decide +kernel
theorem dX12_cutAll_113 : decode cX12_cutAll 113 = .ok (.lload 5, 2) := by decide +kernel
theorem dX12_cutAll_115 : decode cX12_cutAll 115 = .ok (.lstore 5, 2) := by decide +kernel
theorem dX12_cutAll_117 : decode cX12_cutAll 117 = .ok (.iinc 2 1, 3) := by decide +kernel
theorem dX12_cutAll_120 : decode cX12_cutAll 120 = .ok (.goto (-56), 3) := by decide +kernel
theorem dX12_cutAll_123 : decode cX12_cutAll 123 = .ok (.aload_n 0, 1) := by decide +kernel
theorem dX12_cutAll_124 : decode cX12_cutAll 124 = .ok (.getfield 32, 3) := by decide +kernel
theorem dX12_cutAll_127 : decode cX12_cutAll 127 = .ok (.iload_n 1, 1) := by decide +kernel
theorem dX12_cutAll_128 : decode cX12_cutAll 128 = .ok (.iload_n 2, 1) := by decide +kernel
theorem dX12_cutAll_129 : decode cX12_cutAll 129 = .ok (.iload 4, 2) := by decide +kernel
theorem dX12_cutAll_131 : decode cX12_cutAll 131 = .ok (.isub, 1) := by decide +kernel
theorem dX12_cutAll_132 : decode cX12_cutAll 132 = .ok (.iconst 3, 1) := by decide +kernel
theorem dX12_cutAll_133 : decode cX12_cutAll 133 = .ok (.if_icmp .le 7, 3) := by decide +kernel
theorem dX12_cutAll_136 : decode cX12_cutAll 136 = .ok (.iconst 4, 1) := by decide +kernel
theorem dX12_cutAll_137 : decode cX12_cutAll 137 = .ok (.goto 4, 3) := by decide +kernel
theorem dX12_cutAll_140 : decode cX12_cutAll 140 = .ok (.iconst 1, 1) := by decide +kernel
theorem dX12_cutAll_141 : decode cX12_cutAll 141 = .ok (.iastore, 1) := by decide +kernel
theorem dX12_cutAll_142 : decode cX12_cutAll 142 = .ok (.goto 118, 3) := by decide +kernel
theorem dX12_cutAll_145 : decode cX12_cutAll 145 = .ok (.iload_n 3, 1) := by decide +kernel
theorem dX12_cutAll_146 : decode cX12_cutAll 146 = .ok (.invokestatic 35, 3) := by decide +kernel
theorem dX12_cutAll_149 : decode cX12_cutAll 149 = .ok (.ifCond .eq 86, 3) := by decide +kernel
theorem dX12_cutAll_152 : decode cX12_cutAll 152 = .ok (.iload_n 2, 1) := by decide +kernel
theorem dX12_cutAll_153 : decode cX12_cutAll 153 = .ok (.aload_n 0, 1) := by decide +kernel
theorem dX12_cutAll_154 : decode cX12_cutAll 154 = .ok (.getfield 18, 3) := by decide +kernel
theorem dX12_cutAll_157 : decode cX12_cutAll 157 = .ok (.if_icmp .ge 55, 3) := by decide +kernel
theorem dX12_cutAll_160 : decode cX12_cutAll 160 = .ok (.aload_n 0, 1) := by decide +kernel
theorem dX12_cutAll_161 : decode cX12_cutAll 161 = .ok (.getfield 14, 3) := by decide +kernel
theorem dX12_cutAll_164 : decode cX12_cutAll 164 = .ok (.iload_n 2, 1) := by decide +kernel
theorem dX12_cutAll_165 : decode cX12_cutAll 165 = .ok (.iaload, 1) := by decide +kernel
theorem dX12_cutAll_166 : decode cX12_cutAll 166 = .ok (.invokestatic 35, 3) := by decide +kernel
theorem dX12_cutAll_169 : decode cX12_cutAll 169 = .ok (.ifCond .eq 43, 3) := by decide +kernel
theorem dX12_cutAll_172 : decode cX12_cutAll 172 = .ok (.iload_n 2, 1) := by decide +kernel
theorem dX12_cutAll_173 : decode cX12_cutAll 173 = .ok (.iload 4, 2) := by decide +kernel
theorem dX12_cutAll_175 : decode cX12_cutAll 175 = .ok (.isub, 1) := by decide +kernel
theorem dX12_cutAll_176 : decode cX12_cutAll 176 = .ok (.bipush 6, 2) := by decide +kernel
theorem dX12_cutAll_178 : decode cX12_cutAll 178 = .ok (.if_icmp .ge 24, 3) := by decide +kernel
theorem dX12_cutAll_181 : decode cX12_cutAll 181 = .ok (.ldc2_w 38, 3) := by decide +kernel
theorem dX12_cutAll_184 : decode cX12_cutAll 184 = .ok (.lload 5, 2) := by decide +kernel
theorem dX12_cutAll_186 : decode cX12_cutAll 186 = .ok (.lmul, 1) := by decide +kernel
theorem dX12_cutAll_187 : decode cX12_cutAll 187 = .ok (.aload_n 0, 1) := by decide +kernel
theorem dX12_cutAll_188 : decode cX12_cutAll 188 = .ok (.getfield 14, 3) := by decide +kernel
theorem dX12_cutAll_191 : decode cX12_cutAll 191 = .ok (.iload_n 2, 1) := by decide +kernel
theorem dX12_cutAll_192 : decode cX12_cutAll 192 = .ok (.iaload, 1) := by decide +kernel
theorem dX12_cutAll_193 : decode cX12_cutAll 193 = .ok (.i2l, 1) := by decide +kernel
theorem dX12_cutAll_194 : decode cX12_cutAll 194 = .ok (.ladd, 1) := by decide +kernel
theorem dX12_cutAll_195 : decode cX12_cutAll 195 = .ok (.ldc2_w 40, 3) := by decide +kernel
theorem dX12_cutAll_198 : decode cX12_cutAll 198 = .ok (.lsub, 1) := by decide +kernel
theorem dX12_cutAll_199 : decode cX12_cutAll 199 = .ok (.goto 5, 3) := by decide +kernel
theorem dX12_cutAll_202 : decode cX12_cutAll 202 = .ok (.lload 5, 2) := by decide +kernel
theorem dX12_cutAll_204 : decode cX12_cutAll 204 = .ok (.lstore 5, 2) := by decide +kernel
theorem dX12_cutAll_206 : decode cX12_cutAll 206 = .ok (.iinc 2 1, 3) := by decide +kernel
theorem dX12_cutAll_209 : decode cX12_cutAll 209 = .ok (.goto (-57), 3) := by decide +kernel
theorem dX12_cutAll_212 : decode cX12_cutAll 212 = .ok (.aload_n 0, 1) := by decide +kernel
theorem dX12_cutAll_213 : decode cX12_cutAll 213 = .ok (.getfield 32, 3) := by decide +kernel
theorem dX12_cutAll_216 : decode cX12_cutAll 216 = .ok (.iload_n 1, 1) := by decide +kernel
theorem dX12_cutAll_217 : decode cX12_cutAll 217 = .ok (.iload_n 2, 1) := by decide +kernel
theorem dX12_cutAll_218 : decode cX12_cutAll 218 = .ok (.iload 4, 2) := by decide +kernel
theorem dX12_cutAll_220 : decode cX12_cutAll 220 = .ok (.isub, 1) := by decide +kernel
theorem dX12_cutAll_221 : decode cX12_cutAll 221 = .ok (.bipush 6, 2) := by decide +kernel
theorem dX12_cutAll_223 : decode cX12_cutAll 223 = .ok (.if_icmp .le 7, 3) := by decide +kernel
theorem dX12_cutAll_226 : decode cX12_cutAll 226 = .ok (.iconst 4, 1) := by decide +kernel
theorem dX12_cutAll_227 : decode cX12_cutAll 227 = .ok (.goto 4, 3) := by decide +kernel
theorem dX12_cutAll_230 : decode cX12_cutAll 230 = .ok (.iconst 2, 1) := by decide +kernel
theorem dX12_cutAll_231 : decode cX12_cutAll 231 = .ok (.iastore, 1) := by decide +kernel
theorem dX12_cutAll_232 : decode cX12_cutAll 232 = .ok (.goto 28, 3) := by decide +kernel
theorem dX12_cutAll_235 : decode cX12_cutAll 235 = .ok (.iload_n 3, 1) := by decide +kernel
theorem dX12_cutAll_236 : decode cX12_cutAll 236 = .ok (.i2l, 1) := by decide +kernel
theorem dX12_cutAll_237 : decode cX12_cutAll 237 = .ok (.lstore 5, 2) := by decide +kernel
theorem dX12_cutAll_239 : decode cX12_cutAll 239 = .ok (.aload_n 0, 1) := by decide +kernel
theorem dX12_cutAll_240 : decode cX12_cutAll 240 = .ok (.getfield 32, 3) := by decide +kernel
theorem dX12_cutAll_243 : decode cX12_cutAll 243 = .ok (.iload_n 1, 1) := by decide +kernel
theorem dX12_cutAll_244 : decode cX12_cutAll 244 = .ok (.iload_n 3, 1) := by decide +kernel
theorem dX12_cutAll_245 : decode cX12_cutAll 245 = .ok (.invokestatic 42, 3) := by decide +kernel
theorem dX12_cutAll_248 : decode cX12_cutAll 248 = .ok (.ifCond .eq 7, 3) := by decide +kernel
theorem dX12_cutAll_251 : decode cX12_cutAll 251 = .ok (.iconst 3, 1) := by decide +kernel
theorem dX12_cutAll_252 : decode cX12_cutAll 252 = .ok (.goto 4, 3) := by decide +kernel
theorem dX12_cutAll_255 : decode cX12_cutAll 255 = .ok (.iconst 4, 1) := by decide +kernel
theorem dX12_cutAll_256 : decode cX12_cutAll 256 = .ok (.iastore, 1) := by decide +kernel
theorem dX12_cutAll_257 : decode cX12_cutAll 257 = .ok (.iinc 2 1, 3) := by decide +kernel
theorem dX12_cutAll_260 : decode cX12_cutAll 260 = .ok (.aload_n 0, 1) := by decide +kernel
theorem dX12_cutAll_261 : decode cX12_cutAll 261 = .ok (.getfield 45, 3) := by decide +kernel
theorem dX12_cutAll_264 : decode cX12_cutAll 264 = .ok (.iload_n 1, 1) := by decide +kernel
theorem dX12_cutAll_265 : decode cX12_cutAll 265 = .ok (.lload 5, 2) := by decide +kernel
theorem dX12_cutAll_267 : decode cX12_cutAll 267 = .ok (.lastore, 1) := by decide +kernel
theorem dX12_cutAll_268 : decode cX12_cutAll 268 = .ok (.iinc 1 1, 3) := by decide +kernel
theorem dX12_cutAll_271 : decode cX12_cutAll 271 = .ok (.goto (-254), 3) := by decide +kernel
theorem dX12_cutAll_274 : decode cX12_cutAll 274 = .ok (.aload_n 0, 1) := by decide +kernel
theorem dX12_cutAll_275 : decode cX12_cutAll 275 = .ok (.getfield 32, 3) := by decide +kernel
theorem dX12_cutAll_278 : decode cX12_cutAll 278 = .ok (.iload_n 1, 1) := by decide +kernel
theorem dX12_cutAll_279 : decode cX12_cutAll 279 = .ok (.iconst 0, 1) := by decide +kernel
theorem dX12_cutAll_280 : decode cX12_cutAll 280 = .ok (.iastore, 1) := by decide +kernel
theorem dX12_cutAll_281 : decode cX12_cutAll 281 = .ok (.aload_n 0, 1) := by decide +kernel
theorem dX12_cutAll_282 : decode cX12_cutAll 282 = .ok (.getfield 21, 3) := by decide +kernel
theorem dX12_cutAll_285 : decode cX12_cutAll 285 = .ok (.iload_n 1, 1) := by decide +kernel
theorem dX12_cutAll_286 : decode cX12_cutAll 286 = .ok (.aload_n 0, 1) := by decide +kernel
theorem dX12_cutAll_287 : decode cX12_cutAll 287 = .ok (.getfield 18, 3) := by decide +kernel
theorem dX12_cutAll_290 : decode cX12_cutAll 290 = .ok (.iastore, 1) := by decide +kernel
theorem dX12_cutAll_291 : decode cX12_cutAll 291 = .ok (.aload_n 0, 1) := by decide +kernel
theorem dX12_cutAll_292 : decode cX12_cutAll 292 = .ok (.iconst 0, 1) := by decide +kernel
theorem dX12_cutAll_293 : decode cX12_cutAll 293 = .ok (.putfield 49, 3) := by decide +kernel
theorem dX12_cutAll_296 : decode cX12_cutAll 296 = .ok (.aload_n 0, 1) := by decide +kernel
theorem dX12_cutAll_297 : decode cX12_cutAll 297 = .ok (.iconst 0, 1) := by decide +kernel
theorem dX12_cutAll_298 : decode cX12_cutAll 298 = .ok (.putfield 52, 3) := by decide +kernel
theorem dX12_cutAll_301 : decode cX12_cutAll 301 = .ok (.return_, 1) := by decide +kernel
theorem dX12_wrong_0 : decode cX12_wrong 0 = .ok (.aload_n 0, 1) := by decide +kernel
theorem dX12_wrong_1 : decode cX12_wrong 1 = .ok (.getfield 52, 3) := by decide +kernel
theorem dX12_wrong_4 : decode cX12_wrong 4 = .ok (.ifCond .ne 21, 3) := by decide +kernel
theorem dX12_wrong_7 : decode cX12_wrong 7 = .ok (.aload_n 0, 1) := by decide +kernel
theorem dX12_wrong_8 : decode cX12_wrong 8 = .ok (.iload_n 1, 1) := by decide +kernel
theorem dX12_wrong_9 : decode cX12_wrong 9 = .ok (.bipush 16, 2) := by decide +kernel
theorem dX12_wrong_11 : decode cX12_wrong 11 = .ok (.aload_n 0, 1) := by decide +kernel
theorem dX12_wrong_12 : decode cX12_wrong 12 = .ok (.getfield 21, 3) := by decide +kernel
theorem dX12_wrong_15 : decode cX12_wrong 15 = .ok (.aload_n 0, 1) := by decide +kernel
theorem dX12_wrong_16 : decode cX12_wrong 16 = .ok (.getfield 49, 3) := by decide +kernel
theorem dX12_wrong_19 : decode cX12_wrong 19 = .ok (.iaload, 1) := by decide +kernel
theorem dX12_wrong_20 : decode cX12_wrong 20 = .ok (.imul, 1) := by decide +kernel
theorem dX12_wrong_21 : decode cX12_wrong 21 = .ok (.iadd, 1) := by decide +kernel
theorem dX12_wrong_22 : decode cX12_wrong 22 = .ok (.putfield 52, 3) := by decide +kernel
theorem dX12_wrong_25 : decode cX12_wrong 25 = .ok (.return_, 1) := by decide +kernel
theorem dX12_isSign_0 : decode cX12_isSign 0 = .ok (.aload_n 0, 1) := by decide +kernel
theorem dX12_isSign_1 : decode cX12_isSign 1 = .ok (.getfield 52, 3) := by decide +kernel
theorem dX12_isSign_4 : decode cX12_isSign 4 = .ok (.ifCond .ne 35, 3) := by decide +kernel
theorem dX12_isSign_7 : decode cX12_isSign 7 = .ok (.aload_n 0, 1) := by decide +kernel
theorem dX12_isSign_8 : decode cX12_isSign 8 = .ok (.getfield 32, 3) := by decide +kernel
theorem dX12_isSign_11 : decode cX12_isSign 11 = .ok (.aload_n 0, 1) := by decide +kernel
theorem dX12_isSign_12 : decode cX12_isSign 12 = .ok (.getfield 49, 3) := by decide +kernel
theorem dX12_isSign_15 : decode cX12_isSign 15 = .ok (.iaload, 1) := by decide +kernel
theorem dX12_isSign_16 : decode cX12_isSign 16 = .ok (.iconst 3, 1) := by decide +kernel
theorem dX12_isSign_17 : decode cX12_isSign 17 = .ok (.if_icmp .ne 22, 3) := by decide +kernel
theorem dX12_isSign_20 : decode cX12_isSign 20 = .ok (.aload_n 0, 1) := by decide +kernel
theorem dX12_isSign_21 : decode cX12_isSign 21 = .ok (.getfield 45, 3) := by decide +kernel
theorem dX12_isSign_24 : decode cX12_isSign 24 = .ok (.aload_n 0, 1) := by decide +kernel
theorem dX12_isSign_25 : decode cX12_isSign 25 = .ok (.getfield 49, 3) := by decide +kernel
theorem dX12_isSign_28 : decode cX12_isSign 28 = .ok (.laload, 1) := by decide +kernel
theorem dX12_isSign_29 : decode cX12_isSign 29 = .ok (.iload_n 1, 1) := by decide +kernel
theorem dX12_isSign_30 : decode cX12_isSign 30 = .ok (.i2l, 1) := by decide +kernel
theorem dX12_isSign_31 : decode cX12_isSign 31 = .ok (.lcmp, 1) := by decide +kernel
theorem dX12_isSign_32 : decode cX12_isSign 32 = .ok (.ifCond .ne 7, 3) := by decide +kernel
theorem dX12_isSign_35 : decode cX12_isSign 35 = .ok (.iconst 1, 1) := by decide +kernel
theorem dX12_isSign_36 : decode cX12_isSign 36 = .ok (.goto 4, 3) := by decide +kernel
theorem dX12_isSign_39 : decode cX12_isSign 39 = .ok (.iconst 0, 1) := by decide +kernel
theorem dX12_isSign_40 : decode cX12_isSign 40 = .ok (.ireturn, 1) := by decide +kernel
theorem dX12_hasSign_0 : decode cX12_hasSign 0 = .ok (.aload_n 0, 1) := by decide +kernel
theorem dX12_hasSign_1 : decode cX12_hasSign 1 = .ok (.iload_n 1, 1) := by decide +kernel
theorem dX12_hasSign_2 : decode cX12_hasSign 2 = .ok (.invokevirtual 55, 3) := by decide +kernel
theorem dX12_hasSign_5 : decode cX12_hasSign 5 = .ok (.istore_n 2, 1) := by decide +kernel
theorem dX12_hasSign_6 : decode cX12_hasSign 6 = .ok (.aload_n 0, 1) := by decide +kernel
theorem dX12_hasSign_7 : decode cX12_hasSign 7 = .ok (.dup, 1) := by decide +kernel
theorem dX12_hasSign_8 : decode cX12_hasSign 8 = .ok (.getfield 49, 3) := by decide +kernel
theorem dX12_hasSign_11 : decode cX12_hasSign 11 = .ok (.iload_n 2, 1) := by decide +kernel
theorem dX12_hasSign_12 : decode cX12_hasSign 12 = .ok (.ifCond .eq 7, 3) := by decide +kernel
theorem dX12_hasSign_15 : decode cX12_hasSign 15 = .ok (.iconst 1, 1) := by decide +kernel
theorem dX12_hasSign_16 : decode cX12_hasSign 16 = .ok (.goto 4, 3) := by decide +kernel
theorem dX12_hasSign_19 : decode cX12_hasSign 19 = .ok (.iconst 0, 1) := by decide +kernel
theorem dX12_hasSign_20 : decode cX12_hasSign 20 = .ok (.iadd, 1) := by decide +kernel
theorem dX12_hasSign_21 : decode cX12_hasSign 21 = .ok (.putfield 49, 3) := by decide +kernel
theorem dX12_hasSign_24 : decode cX12_hasSign 24 = .ok (.iload_n 2, 1) := by decide +kernel
theorem dX12_hasSign_25 : decode cX12_hasSign 25 = .ok (.ireturn, 1) := by decide +kernel
theorem dX12_init_0 : decode cX12_init 0 = .ok (.aload_n 0, 1) := by decide +kernel
theorem dX12_init_1 : decode cX12_init 1 = .ok (.invokespecial 58, 3) := by decide +kernel
theorem dX12_init_4 : decode cX12_init 4 = .ok (.aload_n 0, 1) := by decide +kernel
theorem dX12_init_5 : decode cX12_init 5 = .ok (.bipush 120, 2) := by decide +kernel
theorem dX12_init_7 : decode cX12_init 7 = .ok (.newarray .int, 2) := by decide +kernel
theorem dX12_init_9 : decode cX12_init 9 = .ok (.putfield 14, 3) := by decide +kernel
theorem dX12_init_12 : decode cX12_init 12 = .ok (.aload_n 0, 1) := by decide +kernel
theorem dX12_init_13 : decode cX12_init 13 = .ok (.bipush 122, 2) := by decide +kernel
theorem dX12_init_15 : decode cX12_init 15 = .ok (.newarray .int, 2) := by decide +kernel
theorem dX12_init_17 : decode cX12_init 17 = .ok (.putfield 32, 3) := by decide +kernel
theorem dX12_init_20 : decode cX12_init 20 = .ok (.aload_n 0, 1) := by decide +kernel
theorem dX12_init_21 : decode cX12_init 21 = .ok (.bipush 122, 2) := by decide +kernel
theorem dX12_init_23 : decode cX12_init 23 = .ok (.newarray .int, 2) := by decide +kernel
theorem dX12_init_25 : decode cX12_init 25 = .ok (.putfield 21, 3) := by decide +kernel
theorem dX12_init_28 : decode cX12_init 28 = .ok (.aload_n 0, 1) := by decide +kernel
theorem dX12_init_29 : decode cX12_init 29 = .ok (.bipush 122, 2) := by decide +kernel
theorem dX12_init_31 : decode cX12_init 31 = .ok (.newarray .long, 2) := by decide +kernel
theorem dX12_init_33 : decode cX12_init 33 = .ok (.putfield 45, 3) := by decide +kernel
theorem dX12_init_36 : decode cX12_init 36 = .ok (.aload_n 0, 1) := by decide +kernel
theorem dX12_init_37 : decode cX12_init 37 = .ok (.ldc 64, 2) := by decide +kernel
theorem dX12_init_39 : decode cX12_init 39 = .ok (.newarray .int, 2) := by decide +kernel
theorem dX12_init_41 : decode cX12_init 41 = .ok (.putfield 65, 3) := by decide +kernel
theorem dX12_init_44 : decode cX12_init 44 = .ok (.aload_n 0, 1) := by decide +kernel
theorem dX12_init_45 : decode cX12_init 45 = .ok (.ldc 64, 2) := by decide +kernel
theorem dX12_init_47 : decode cX12_init 47 = .ok (.newarray .int, 2) := by decide +kernel
theorem dX12_init_49 : decode cX12_init 49 = .ok (.putfield 68, 3) := by decide +kernel
theorem dX12_init_52 : decode cX12_init 52 = .ok (.aload_n 0, 1) := by decide +kernel
theorem dX12_init_53 : decode cX12_init 53 = .ok (.ldc 64, 2) := by decide +kernel
theorem dX12_init_55 : decode cX12_init 55 = .ok (.newarray .int, 2) := by decide +kernel
theorem dX12_init_57 : decode cX12_init 57 = .ok (.putfield 71, 3) := by decide +kernel
theorem dX12_init_60 : decode cX12_init 60 = .ok (.aload_n 0, 1) := by decide +kernel
theorem dX12_init_61 : decode cX12_init 61 = .ok (.ldc 64, 2) := by decide +kernel
theorem dX12_init_63 : decode cX12_init 63 = .ok (.newarray .int, 2) := by decide +kernel
theorem dX12_init_65 : decode cX12_init 65 = .ok (.putfield 74, 3) := by decide +kernel
theorem dX12_init_68 : decode cX12_init 68 = .ok (.aload_n 0, 1) := by decide +kernel
theorem dX12_init_69 : decode cX12_init 69 = .ok (.sipush 309, 3) := by decide +kernel
theorem dX12_init_72 : decode cX12_init 72 = .ok (.newarray .int, 2) := by decide +kernel
theorem dX12_init_74 : decode cX12_init 74 = .ok (.putfield 77, 3) := by decide +kernel
theorem dX12_init_77 : decode cX12_init 77 = .ok (.aload_n 0, 1) := by decide +kernel
theorem dX12_init_78 : decode cX12_init 78 = .ok (.sipush 309, 3) := by decide +kernel
theorem dX12_init_81 : decode cX12_init 81 = .ok (.newarray .int, 2) := by decide +kernel
theorem dX12_init_83 : decode cX12_init 83 = .ok (.putfield 80, 3) := by decide +kernel
theorem dX12_init_86 : decode cX12_init 86 = .ok (.aload_n 0, 1) := by decide +kernel
theorem dX12_init_87 : decode cX12_init 87 = .ok (.sipush 309, 3) := by decide +kernel
theorem dX12_init_90 : decode cX12_init 90 = .ok (.newarray .int, 2) := by decide +kernel
theorem dX12_init_92 : decode cX12_init 92 = .ok (.putfield 83, 3) := by decide +kernel
theorem dX12_init_95 : decode cX12_init 95 = .ok (.aload_n 0, 1) := by decide +kernel
theorem dX12_init_96 : decode cX12_init 96 = .ok (.sipush 927, 3) := by decide +kernel
theorem dX12_init_99 : decode cX12_init 99 = .ok (.newarray .int, 2) := by decide +kernel
theorem dX12_init_101 : decode cX12_init 101 = .ok (.putfield 86, 3) := by decide +kernel
theorem dX12_init_104 : decode cX12_init 104 = .ok (.aload_n 0, 1) := by decide +kernel
theorem dX12_init_105 : decode cX12_init 105 = .ok (.sipush 288, 3) := by decide +kernel
theorem dX12_init_108 : decode cX12_init 108 = .ok (.newarray .boolean, 2) := by decide +kernel
theorem dX12_init_110 : decode cX12_init 110 = .ok (.putfield 89, 3) := by decide +kernel
