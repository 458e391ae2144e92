theorem dX0_init_0 : decode cX0_init 0 = .ok (.aload_n 0, 1) := by decide +kernel
theorem dX0_init_1 : decode cX0_init 1 = .ok (.invokespecial 3, 3) := by decide +kernel
theorem dX0_init_4 : decode cX0_init 4 = .ok (.aload_n 0, 1) := by decide +kernel
theorem dX0_init_5 : decode cX0_init 5 = .ok (.iload_n 1, 1) := by decide +kernel
theorem dX0_init_6 : decode cX0_init 6 = .ok (.putfield 9, 3) := by decide +kernel
theorem dX0_init_9 : decode cX0_init 9 = .ok (.aload_n 0, 1) := by decide +kernel
theorem dX0_init_10 : decode cX0_init 10 = .ok (.iload_n 2, 1) := by decide +kernel
theorem dX0_init_11 : decode cX0_init 11 = .ok (.putfield 15, 3) := by decide +kernel
theorem dX0_init_14 : decode cX0_init 14 = .ok (.aload_n 0, 1) := by decide +kernel
theorem dX0_init_15 : decode cX0_init 15 = .ok (.aload_n 3, 1) := by decide +kernel
theorem dX0_init_16 : decode cX0_init 16 = .ok (.putfield 18, 3) := by decide +kernel
theorem dX0_init_19 : decode cX0_init 19 = .ok (.aload_n 0, 1) := by decide +kernel
theorem dX0_init_20 : decode cX0_init 20 = .ok (.iconst 0, 1) := by decide +kernel
theorem dX0_init_21 : decode cX0_init 21 = .ok (.putfield 22, 3) := by decide +kernel
theorem dX0_init_24 : decode cX0_init 24 = .ok (.aload_n 0, 1) := by decide +kernel
theorem dX0_init_25 : decode cX0_init 25 = .ok (.iconst 0, 1) := by decide +kernel
theorem dX0_init_26 : decode cX0_init 26 = .ok (.putfield 25, 3) := by decide +kernel
theorem dX0_init_29 : decode cX0_init 29 = .ok (.aload_n 0, 1) := by decide +kernel
theorem dX0_init_30 : decode cX0_init 30 = .ok (.iconst 0, 1) := by decide +kernel
theorem dX0_init_31 : decode cX0_init 31 = .ok (.putfield 28, 3) := by decide +kernel
theorem dX0_init_34 : decode cX0_init 34 = .ok (.return_, 1) := by decide +kernel
theorem dX0_init__0 : decode cX0_init_ 0 = .ok (.aload_n 0, 1) := by decide +kernel
theorem dX0_init__1 : decode cX0_init_ 1 = .ok (.invokespecial 3, 3) := by decide +kernel
theorem dX0_init__4 : decode cX0_init_ 4 = .ok (.aload_n 0, 1) := by decide +kernel
theorem dX0_init__5 : decode cX0_init_ 5 = .ok (.iconst 1, 1) := by decide +kernel
theorem dX0_init__6 : decode cX0_init_ 6 = .ok (.putfield 9, 3) := by decide +kernel
theorem dX0_init__9 : decode cX0_init_ 9 = .ok (.aload_n 0, 1) := by decide +kernel
theorem dX0_init__10 : decode cX0_init_ 10 = .ok (.iload_n 1, 1) := by decide +kernel
theorem dX0_init__11 : decode cX0_init_ 11 = .ok (.putfield 15, 3) := by decide +kernel
theorem dX0_init__14 : decode cX0_init_ 14 = .ok (.aload_n 0, 1) := by decide +kernel
theorem dX0_init__15 : decode cX0_init_ 15 = .ok (.aconst_null, 1) := by decide +kernel
theorem dX0_init__16 : decode cX0_init_ 16 = .ok (.putfield 18, 3) := by decide +kernel
theorem dX0_init__19 : decode cX0_init_ 19 = .ok (.aload_n 0, 1) := by decide +kernel
theorem dX0_init__20 : decode cX0_init_ 20 = .ok (.iload_n 2, 1) := by decide +kernel
theorem dX0_init__21 : decode cX0_init_ 21 = .ok (.putfield 22, 3) := by decide +kernel
theorem dX0_init__24 : decode cX0_init_ 24 = .ok (.aload_n 0, 1) := by decide +kernel
theorem dX0_init__25 : decode cX0_init_ 25 = .ok (.iload_n 3, 1) := by decide +kernel
theorem dX0_init__26 : decode cX0_init_ 26 = .ok (.putfield 25, 3) := by decide +kernel
theorem dX0_init__29 : decode cX0_init_ 29 = .ok (.aload_n 0, 1) := by decide +kernel
theorem dX0_init__30 : decode cX0_init_ 30 = .ok (.iload 4, 2) := by decide +kernel
theorem dX0_init__32 : decode cX0_init_ 32 = .ok (.putfield 28, 3) := by decide +kernel
theorem dX0_init__35 : decode cX0_init_ 35 = .ok (.return_, 1) := by decide +kernel
theorem dX0_fits_0 : decode cX0_fits 0 = .ok (.aload_n 0, 1) := by decide +kernel
theorem dX0_fits_1 : decode cX0_fits 1 = .ok (.getfield 18, 3) := by decide +kernel
theorem dX0_fits_4 : decode cX0_fits 4 = .ok (.ifnull 14, 3) := by decide +kernel
theorem dX0_fits_7 : decode cX0_fits 7 = .ok (.aload_n 0, 1) := by decide +kernel
theorem dX0_fits_8 : decode cX0_fits 8 = .ok (.getfield 18, 3) := by decide +kernel
theorem dX0_fits_11 : decode cX0_fits 11 = .ok (.iload_n 1, 1) := by decide +kernel
theorem dX0_fits_12 : decode cX0_fits 12 = .ok (.invokevirtual 31, 3) := by decide +kernel
theorem dX0_fits_15 : decode cX0_fits 15 = .ok (.ifCond .eq 7, 3) := by decide +kernel
theorem dX0_fits_18 : decode cX0_fits 18 = .ok (.iconst 1, 1) := by decide +kernel
theorem dX0_fits_19 : decode cX0_fits 19 = .ok (.goto 4, 3) := by decide +kernel
theorem dX0_fits_22 : decode cX0_fits 22 = .ok (.iconst 0, 1) := by decide +kernel
theorem dX0_fits_23 : decode cX0_fits 23 = .ok (.ireturn, 1) := by decide +kernel
theorem dX0_withoutUnit_0 : decode cX0_withoutUnit 0 = .ok (.aload_n 0, 1) := by decide +kernel
theorem dX0_withoutUnit_1 : decode cX0_withoutUnit 1 = .ok (.getfield 9, 3) := by decide +kernel
theorem dX0_withoutUnit_4 : decode cX0_withoutUnit 4 = .ok (.iconst 1, 1) := by decide +kernel
theorem dX0_withoutUnit_5 : decode cX0_withoutUnit 5 = .ok (.if_icmp .ne 19, 3) := by decide +kernel
theorem dX0_withoutUnit_8 : decode cX0_withoutUnit 8 = .ok (.new 10, 3) := by decide +kernel
theorem dX0_withoutUnit_11 : decode cX0_withoutUnit 11 = .ok (.dup, 1) := by decide +kernel
theorem dX0_withoutUnit_12 : decode cX0_withoutUnit 12 = .ok (.iconst 1, 1) := by decide +kernel
theorem dX0_withoutUnit_13 : decode cX0_withoutUnit 13 = .ok (.aload_n 0, 1) := by decide +kernel
theorem dX0_withoutUnit_14 : decode cX0_withoutUnit 14 = .ok (.getfield 15, 3) := by decide +kernel
theorem dX0_withoutUnit_17 : decode cX0_withoutUnit 17 = .ok (.aconst_null, 1) := by decide +kernel
theorem dX0_withoutUnit_18 : decode cX0_withoutUnit 18 = .ok (.invokespecial 37, 3) := by decide +kernel
theorem dX0_withoutUnit_21 : decode cX0_withoutUnit 21 = .ok (.goto 4, 3) := by decide +kernel
theorem dX0_withoutUnit_24 : decode cX0_withoutUnit 24 = .ok (.aload_n 0, 1) := by decide +kernel
theorem dX0_withoutUnit_25 : decode cX0_withoutUnit 25 = .ok (.areturn, 1) := by decide +kernel
theorem dX1_init_0 : decode cX1_init 0 = .ok (.aload_n 0, 1) := by decide +kernel
theorem dX1_init_1 : decode cX1_init 1 = .ok (.invokespecial 3, 3) := by decide +kernel
theorem dX1_init_4 : decode cX1_init 4 = .ok (.aload_n 0, 1) := by decide +kernel
theorem dX1_init_5 : decode cX1_init 5 = .ok (.aload_n 1, 1) := by decide +kernel
theorem dX1_init_6 : decode cX1_init 6 = .ok (.putfield 9, 3) := by decide +kernel
theorem dX1_init_9 : decode cX1_init 9 = .ok (.aload_n 0, 1) := by decide +kernel
theorem dX1_init_10 : decode cX1_init 10 = .ok (.sipush 288, 3) := by decide +kernel
theorem dX1_init_13 : decode cX1_init 13 = .ok (.newarray .int, 2) := by decide +kernel
theorem dX1_init_15 : decode cX1_init 15 = .ok (.putfield 15, 3) := by decide +kernel
theorem dX1_init_18 : decode cX1_init 18 = .ok (.aload_n 0, 1) := by decide +kernel
theorem dX1_init_19 : decode cX1_init 19 = .ok (.sipush 288, 3) := by decide +kernel
theorem dX1_init_22 : decode cX1_init 22 = .ok (.newarray .int, 2) := by decide +kernel
theorem dX1_init_24 : decode cX1_init 24 = .ok (.putfield 19, 3) := by decide +kernel
theorem dX1_init_27 : decode cX1_init 27 = .ok (.aload_n 0, 1) := by decide +kernel
theorem dX1_init_28 : decode cX1_init 28 = .ok (.sipush 1440, 3) := by decide +kernel
theorem dX1_init_31 : decode cX1_init 31 = .ok (.newarray .int, 2) := by decide +kernel
theorem dX1_init_33 : decode cX1_init 33 = .ok (.putfield 22, 3) := by decide +kernel
theorem dX1_init_36 : decode cX1_init 36 = .ok (.aload_n 0, 1) := by decide +kernel
theorem dX1_init_37 : decode cX1_init 37 = .ok (.iconst 0, 1) := by decide +kernel
theorem dX1_init_38 : decode cX1_init 38 = .ok (.putfield 25, 3) := by decide +kernel
theorem dX1_init_41 : decode cX1_init 41 = .ok (.return_, 1) := by decide +kernel
theorem dX1_forget_0 : decode cX1_forget 0 = .ok (.aload_n 0, 1) := by decide +kernel
theorem dX1_forget_1 : decode cX1_forget 1 = .ok (.iconst 0, 1) := by decide +kernel
theorem dX1_forget_2 : decode cX1_forget 2 = .ok (.putfield 25, 3) := by decide +kernel
theorem dX1_forget_5 : decode cX1_forget 5 = .ok (.return_, 1) := by decide +kernel
theorem dX1_remember_0 : decode cX1_remember 0 = .ok (.iconst 0, 1) := by decide +kernel
theorem dX1_remember_1 : decode cX1_remember 1 = .ok (.istore_n 1, 1) := by decide +kernel
theorem dX1_remember_2 : decode cX1_remember 2 = .ok (.iload_n 1, 1) := by decide +kernel
theorem dX1_remember_3 : decode cX1_remember 3 = .ok (.sipush 288, 3) := by decide +kernel
theorem dX1_remember_6 : decode cX1_remember 6 = .ok (.if_icmp .ge 37, 3) := by decide +kernel
theorem dX1_remember_9 : decode cX1_remember 9 = .ok (.aload_n 0, 1) := by decide +kernel
theorem dX1_remember_10 : decode cX1_remember 10 = .ok (.getfield 15, 3) := by decide +kernel
theorem dX1_remember_13 : decode cX1_remember 13 = .ok (.iload_n 1, 1) := by decide +kernel
theorem dX1_remember_14 : decode cX1_remember 14 = .ok (.aload_n 0, 1) := by decide +kernel
theorem dX1_remember_15 : decode cX1_remember 15 = .ok (.getfield 9, 3) := by decide +kernel
theorem dX1_remember_18 : decode cX1_remember 18 = .ok (.iload_n 1, 1) := by decide +kernel
theorem dX1_remember_19 : decode cX1_remember 19 = .ok (.invokevirtual 29, 3) := by decide +kernel
theorem dX1_remember_22 : decode cX1_remember 22 = .ok (.iastore, 1) := by decide +kernel
theorem dX1_remember_23 : decode cX1_remember 23 = .ok (.aload_n 0, 1) := by decide +kernel
theorem dX1_remember_24 : decode cX1_remember 24 = .ok (.getfield 19, 3) := by decide +kernel
theorem dX1_remember_27 : decode cX1_remember 27 = .ok (.iload_n 1, 1) := by decide +kernel
theorem dX1_remember_28 : decode cX1_remember 28 = .ok (.aload_n 0, 1) := by decide +kernel
theorem dX1_remember_29 : decode cX1_remember 29 = .ok (.getfield 9, 3) := by decide +kernel
theorem dX1_remember_32 : decode cX1_remember 32 = .ok (.iload_n 1, 1) := by decide +kernel
theorem dX1_remember_33 : decode cX1_remember 33 = .ok (.invokevirtual 35, 3) := by decide +kernel
theorem dX1_remember_36 : decode cX1_remember 36 = .ok (.iastore, 1) := by decide +kernel
theorem dX1_remember_37 : decode cX1_remember 37 = .ok (.iinc 1 1, 3) := by decide +kernel
theorem dX1_remember_40 : decode cX1_remember 40 = .ok (.goto (-38), 3) := by decide +kernel
theorem dX1_remember_43 : decode cX1_remember 43 = .ok (.return_, 1) := by decide +kernel
theorem dX1_compare_0 : decode cX1_compare 0 = .ok (.aload_n 0, 1) := by decide +kernel
theorem dX1_compare_1 : decode cX1_compare 1 = .ok (.iconst 0, 1) := by decide +kernel
theorem dX1_compare_2 : decode cX1_compare 2 = .ok (.putfield 25, 3) := by decide +kernel
theorem dX1_compare_5 : decode cX1_compare 5 = .ok (.iconst 0, 1) := by decide +kernel
theorem dX1_compare_6 : decode cX1_compare 6 = .ok (.istore_n 1, 1) := by decide +kernel
theorem dX1_compare_7 : decode cX1_compare 7 = .ok (.iload_n 1, 1) := by decide +kernel
theorem dX1_compare_8 : decode cX1_compare 8 = .ok (.sipush 288, 3) := by decide +kernel
theorem dX1_compare_11 : decode cX1_compare 11 = .ok (.if_icmp .ge 145, 3) := by decide +kernel
theorem dX1_compare_14 : decode cX1_compare 14 = .ok (.aload_n 0, 1) := by decide +kernel
theorem dX1_compare_15 : decode cX1_compare 15 = .ok (.getfield 9, 3) := by decide +kernel
theorem dX1_compare_18 : decode cX1_compare 18 = .ok (.iload_n 1, 1) := by decide +kernel
theorem dX1_compare_19 : decode cX1_compare 19 = .ok (.invokevirtual 29, 3) := by decide +kernel
theorem dX1_compare_22 : decode cX1_compare 22 = .ok (.istore_n 2, 1) := by decide +kernel
theorem dX1_compare_23 : decode cX1_compare 23 = .ok (.aload_n 0, 1) := by decide +kernel
theorem dX1_compare_24 : decode cX1_compare 24 = .ok (.getfield 9, 3) := by decide +kernel
theorem dX1_compare_27 : decode cX1_compare 27 = .ok (.iload_n 1, 1) := by decide +kernel
theorem dX1_compare_28 : decode cX1_compare 28 = .ok (.invokevirtual 35, 3) := by decide +kernel
theorem dX1_compare_31 : decode cX1_compare 31 = .ok (.istore_n 3, 1) := by decide +kernel
theorem dX1_compare_32 : decode cX1_compare 32 = .ok (.iload_n 2, 1) := by decide +kernel
theorem dX1_compare_33 : decode cX1_compare 33 = .ok (.aload_n 0, 1) := by decide +kernel
theorem dX1_compare_34 : decode cX1_compare 34 = .ok (.getfield 15, 3) := by decide +kernel
theorem dX1_compare_37 : decode cX1_compare 37 = .ok (.iload_n 1, 1) := by decide +kernel
theorem dX1_compare_38 : decode cX1_compare 38 = .ok (.iaload, 1) := by decide +kernel
theorem dX1_compare_39 : decode cX1_compare 39 = .ok (.if_icmp .ne 13, 3) := by decide +kernel
theorem dX1_compare_42 : decode cX1_compare 42 = .ok (.iload_n 3, 1) := by decide +kernel
theorem dX1_compare_43 : decode cX1_compare 43 = .ok (.aload_n 0, 1) := by decide +kernel
theorem dX1_compare_44 : decode cX1_compare 44 = .ok (.getfield 19, 3) := by decide +kernel
theorem dX1_compare_47 : decode cX1_compare 47 = .ok (.iload_n 1, 1) := by decide +kernel
theorem dX1_compare_48 : decode cX1_compare 48 = .ok (.iaload, 1) := by decide +kernel
theorem dX1_compare_49 : decode cX1_compare 49 = .ok (.if_icmp .eq 101, 3) := by decide +kernel
theorem dX1_compare_52 : decode cX1_compare 52 = .ok (.aload_n 0, 1) := by decide +kernel
theorem dX1_compare_53 : decode cX1_compare 53 = .ok (.getfield 25, 3) := by decide +kernel
theorem dX1_compare_56 : decode cX1_compare 56 = .ok (.sipush 288, 3) := by decide +kernel
theorem dX1_compare_59 : decode cX1_compare 59 = .ok (.if_icmp .ge 91, 3) := by decide +kernel
theorem dX1_compare_62 : decode cX1_compare 62 = .ok (.aload_n 0, 1) := by decide +kernel
theorem dX1_compare_63 : decode cX1_compare 63 = .ok (.getfield 22, 3) := by decide +kernel
theorem dX1_compare_66 : decode cX1_compare 66 = .ok (.aload_n 0, 1) := by decide +kernel
theorem dX1_compare_67 : decode cX1_compare 67 = .ok (.getfield 25, 3) := by decide +kernel
theorem dX1_compare_70 : decode cX1_compare 70 = .ok (.iconst 5, 1) := by decide +kernel
theorem dX1_compare_71 : decode cX1_compare 71 = .ok (.imul, 1) := by decide +kernel
theorem dX1_compare_72 : decode cX1_compare 72 = .ok (.iload_n 1, 1) := by decide +kernel
theorem dX1_compare_73 : decode cX1_compare 73 = .ok (.iastore, 1) := by decide +kernel
theorem dX1_compare_74 : decode cX1_compare 74 = .ok (.aload_n 0, 1) := by decide +kernel
theorem dX1_compare_75 : decode cX1_compare 75 = .ok (.getfield 22, 3) := by decide +kernel
theorem dX1_compare_78 : decode cX1_compare 78 = .ok (.aload_n 0, 1) := by decide +kernel
theorem dX1_compare_79 : decode cX1_compare 79 = .ok (.getfield 25, 3) := by decide +kernel
theorem dX1_compare_82 : decode cX1_compare 82 = .ok (.iconst 5, 1) := by decide +kernel
theorem dX1_compare_83 : decode cX1_compare 83 = .ok (.imul, 1) := by decide +kernel
theorem dX1_compare_84 : decode cX1_compare 84 = .ok (.iconst 1, 1) := by decide +kernel
theorem dX1_compare_85 : decode cX1_compare 85 = .ok (.iadd, 1) := by decide +kernel
theorem dX1_compare_86 : decode cX1_compare 86 = .ok (.aload_n 0, 1) := by decide +kernel
theorem dX1_compare_87 : decode cX1_compare 87 = .ok (.getfield 15, 3) := by decide +kernel
theorem dX1_compare_90 : decode cX1_compare 90 = .ok (.iload_n 1, 1) := by decide +kernel
theorem dX1_compare_91 : decode cX1_compare 91 = .ok (.iaload, 1) := by decide +kernel
theorem dX1_compare_92 : decode cX1_compare 92 = .ok (.iastore, 1) := by decide +kernel
theorem dX1_compare_93 : decode cX1_compare 93 = .ok (.aload_n 0, 1) := by decide +kernel
theorem dX1_compare_94 : decode cX1_compare 94 = .ok (.getfield 22, 3) := by decide +kernel
theorem dX1_compare_97 : decode cX1_compare 97 = .ok (.aload_n 0, 1) := by decide +kernel
theorem dX1_compare_98 : decode cX1_compare 98 = .ok (.getfield 25, 3) := by decide +kernel
theorem dX1_compare_101 : decode cX1_compare 101 = .ok (.iconst 5, 1) := by decide +kernel
theorem dX1_compare_102 : decode cX1_compare 102 = .ok (.imul, 1) := by decide +kernel
theorem dX1_compare_103 : decode cX1_compare 103 = .ok (.iconst 2, 1) := by decide +kernel
theorem dX1_compare_104 : decode cX1_compare 104 = .ok (.iadd, 1) := by decide +kernel
theorem dX1_compare_105 : decode cX1_compare 105 = .ok (.iload_n 2, 1) := by decide +kernel
theorem dX1_compare_106 : decode cX1_compare 106 = .ok (.iastore, 1) := by decide +kernel
theorem dX1_compare_107 : decode cX1_compare 107 = .ok (.aload_n 0, 1) := by decide +kernel
theorem dX1_compare_108 : decode cX1_compare 108 = .ok (.getfield 22, 3) := by decide +kernel
theorem dX1_compare_111 : decode cX1_compare 111 = .ok (.aload_n 0, 1) := by decide +kernel
theorem dX1_compare_112 : decode cX1_compare 112 = .ok (.getfield 25, 3) := by decide +kernel
theorem dX1_compare_115 : decode cX1_compare 115 = .ok (.iconst 5, 1) := by decide +kernel
theorem dX1_compare_116 : decode cX1_compare 116 = .ok (.imul, 1) := by decide +kernel
theorem dX1_compare_117 : decode cX1_compare 117 = .ok (.iconst 3, 1) := by decide +kernel
theorem dX1_compare_118 : decode cX1_compare 118 = .ok (.iadd, 1) := by decide +kernel
theorem dX1_compare_119 : decode cX1_compare 119 = .ok (.aload_n 0, 1) := by decide +kernel
theorem dX1_compare_120 : decode cX1_compare 120 = .ok (.getfield 19, 3) := by decide +kernel
theorem dX1_compare_123 : decode cX1_compare 123 = .ok (.iload_n 1, 1) := by decide +kernel
theorem dX1_compare_124 : decode cX1_compare 124 = .ok (.iaload, 1) := by decide +kernel
theorem dX1_compare_125 : decode cX1_compare 125 = .ok (.iastore, 1) := by decide +kernel
theorem dX1_compare_126 : decode cX1_compare 126 = .ok (.aload_n 0, 1) := by decide +kernel
theorem dX1_compare_127 : decode cX1_compare 127 = .ok (.getfield 22, 3) := by decide +kernel
theorem dX1_compare_130 : decode cX1_compare 130 = .ok (.aload_n 0, 1) := by decide +kernel
theorem dX1_compare_131 : decode cX1_compare 131 = .ok (.getfield 25, 3) := by decide +kernel
theorem dX1_compare_134 : decode cX1_compare 134 = .ok (.iconst 5, 1) := by decide +kernel
theorem dX1_compare_135 : decode cX1_compare 135 = .ok (.imul, 1) := by decide +kernel
theorem dX1_compare_136 : decode cX1_compare 136 = .ok (.iconst 4, 1) := by decide +kernel
theorem dX1_compare_137 : decode cX1_compare 137 = .ok (.iadd, 1) := by decide +kernel
theorem dX1_compare_138 : decode cX1_compare 138 = .ok (.iload_n 3, 1) := by decide +kernel
theorem dX1_compare_139 : decode cX1_compare 139 = .ok (.iastore, 1) := by decide +kernel
theorem dX1_compare_140 : decode cX1_compare 140 = .ok (.aload_n 0, 1) := by decide +kernel
theorem dX1_compare_141 : decode cX1_compare 141 = .ok (.dup, 1) := by decide +kernel
theorem dX1_compare_142 : decode cX1_compare 142 = .ok (.getfield 25, 3) := by decide +kernel
theorem dX1_compare_145 : decode cX1_compare 145 = .ok (.iconst 1, 1) := by decide +kernel
theorem dX1_compare_146 : decode cX1_compare 146 = .ok (.iadd, 1) := by decide +kernel
theorem dX1_compare_147 : decode cX1_compare 147 = .ok (.putfield 25, 3) := by decide +kernel
theorem dX1_compare_150 : decode cX1_compare 150 = .ok (.iinc 1 1, 3) := by decide +kernel
theorem dX1_compare_153 : decode cX1_compare 153 = .ok (.goto (-146), 3) := by decide +kernel
theorem dX1_compare_156 : decode cX1_compare 156 = .ok (.aload_n 0, 1) := by decide +kernel
theorem dX1_compare_157 : decode cX1_compare 157 = .ok (.getfield 25, 3) := by decide +kernel
theorem dX1_compare_160 : decode cX1_compare 160 = .ok (.ireturn, 1) := by decide +kernel
theorem dX1_tell_0 : decode cX1_tell 0 = .ok (.iload_n 1, 1) := by decide +kernel
theorem dX1_tell_1 : decode cX1_tell 1 = .ok (.ifCond .lt 27, 3) := by decide +kernel
theorem dX1_tell_4 : decode cX1_tell 4 = .ok (.iload_n 1, 1) := by decide +kernel
theorem dX1_tell_5 : decode cX1_tell 5 = .ok (.aload_n 0, 1) := by decide +kernel
theorem dX1_tell_6 : decode cX1_tell 6 = .ok (.getfield 25, 3) := by decide +kernel
theorem dX1_tell_9 : decode cX1_tell 9 = .ok (.if_icmp .ge 19, 3) := by decide +kernel
theorem dX1_tell_12 : decode cX1_tell 12 = .ok (.iload_n 1, 1) := by decide +kernel
theorem dX1_tell_13 : decode cX1_tell 13 = .ok (.sipush 288, 3) := by decide +kernel
theorem dX1_tell_16 : decode cX1_tell 16 = .ok (.if_icmp .ge 12, 3) := by decide +kernel
theorem dX1_tell_19 : decode cX1_tell 19 = .ok (.iload_n 2, 1) := by decide +kernel
theorem dX1_tell_20 : decode cX1_tell 20 = .ok (.ifCond .lt 8, 3) := by decide +kernel
theorem dX1_tell_23 : decode cX1_tell 23 = .ok (.iload_n 2, 1) := by decide +kernel
theorem dX1_tell_24 : decode cX1_tell 24 = .ok (.iconst 5, 1) := by decide +kernel
theorem dX1_tell_25 : decode cX1_tell 25 = .ok (.if_icmp .lt 5, 3) := by decide +kernel
theorem dX1_tell_28 : decode cX1_tell 28 = .ok (.iconst (-1), 1) := by decide +kernel
theorem dX1_tell_29 : decode cX1_tell 29 = .ok (.ireturn, 1) := by decide +kernel
theorem dX1_tell_30 : decode cX1_tell 30 = .ok (.aload_n 0, 1) := by decide +kernel
theorem dX1_tell_31 : decode cX1_tell 31 = .ok (.getfield 22, 3) := by decide +kernel
theorem dX1_tell_34 : decode cX1_tell 34 = .ok (.iload_n 1, 1) := by decide +kernel
theorem dX1_tell_35 : decode cX1_tell 35 = .ok (.iconst 5, 1) := by decide +kernel
theorem dX1_tell_36 : decode cX1_tell 36 = .ok (.imul, 1) := by decide +kernel
theorem dX1_tell_37 : decode cX1_tell 37 = .ok (.iload_n 2, 1) := by decide +kernel
theorem dX1_tell_38 : decode cX1_tell 38 = .ok (.iadd, 1) := by decide +kernel
theorem dX1_tell_39 : decode cX1_tell 39 = .ok (.iaload, 1) := by decide +kernel
theorem dX1_tell_40 : decode cX1_tell 40 = .ok (.ireturn, 1) := by decide +kernel
theorem dX2_init_0 : decode cX2_init 0 = .ok (.aload_n 0, 1) := by decide +kernel
theorem dX2_init_1 : decode cX2_init 1 = .ok (.invokespecial 3, 3) := by decide +kernel
theorem dX2_init_4 : decode cX2_init 4 = .ok (.aload_n 0, 1) := by decide +kernel
theorem dX2_init_5 : decode cX2_init 5 = .ok (.aload_n 1, 1) := by decide +kernel
theorem dX2_init_6 : decode cX2_init 6 = .ok (.putfield 9, 3) := by decide +kernel
theorem dX2_init_9 : decode cX2_init 9 = .ok (.aload_n 0, 1) := by decide +kernel
theorem dX2_init_10 : decode cX2_init 10 = .ok (.sipush 288, 3) := by decide +kernel
theorem dX2_init_13 : decode cX2_init 13 = .ok (.newarray .int, 2) := by decide +kernel
theorem dX2_init_15 : decode cX2_init 15 = .ok (.putfield 15, 3) := by decide +kernel
theorem dX2_init_18 : decode cX2_init 18 = .ok (.aload_n 0, 1) := by decide +kernel
theorem dX2_init_19 : decode cX2_init 19 = .ok (.sipush 288, 3) := by decide +kernel
theorem dX2_init_22 : decode cX2_init 22 = .ok (.newarray .int, 2) := by decide +kernel
theorem dX2_init_24 : decode cX2_init 24 = .ok (.putfield 19, 3) := by decide +kernel
theorem dX2_init_27 : decode cX2_init 27 = .ok (.aload_n 0, 1) := by decide +kernel
theorem dX2_init_28 : decode cX2_init 28 = .ok (.iconst (-1), 1) := by decide +kernel
theorem dX2_init_29 : decode cX2_init 29 = .ok (.putfield 22, 3) := by decide +kernel
theorem dX2_init_32 : decode cX2_init 32 = .ok (.return_, 1) := by decide +kernel
theorem dX2_settle_0 : decode cX2_settle 0 = .ok (.aload_n 0, 1) := by decide +kernel
theorem dX2_settle_1 : decode cX2_settle 1 = .ok (.getfield 22, 3) := by decide +kernel
theorem dX2_settle_4 : decode cX2_settle 4 = .ok (.aload_n 0, 1) := by decide +kernel
theorem dX2_settle_5 : decode cX2_settle 5 = .ok (.getfield 9, 3) := by decide +kernel
theorem dX2_settle_8 : decode cX2_settle 8 = .ok (.getfield 26, 3) := by decide +kernel
theorem dX2_settle_11 : decode cX2_settle 11 = .ok (.if_icmp .ne 4, 3) := by decide +kernel
theorem dX2_settle_14 : decode cX2_settle 14 = .ok (.return_, 1) := by decide +kernel
theorem dX2_settle_15 : decode cX2_settle 15 = .ok (.aload_n 0, 1) := by decide +kernel
theorem dX2_settle_16 : decode cX2_settle 16 = .ok (.aload_n 0, 1) := by decide +kernel
theorem dX2_settle_17 : decode cX2_settle 17 = .ok (.getfield 9, 3) := by decide +kernel
theorem dX2_settle_20 : decode cX2_settle 20 = .ok (.getfield 26, 3) := by decide +kernel
theorem dX2_settle_23 : decode cX2_settle 23 = .ok (.putfield 22, 3) := by decide +kernel
theorem dX2_settle_26 : decode cX2_settle 26 = .ok (.aload_n 0, 1) := by decide +kernel
theorem dX2_settle_27 : decode cX2_settle 27 = .ok (.iconst 0, 1) := by decide +kernel
theorem dX2_settle_28 : decode cX2_settle 28 = .ok (.putfield 29, 3) := by decide +kernel
theorem dX2_settle_31 : decode cX2_settle 31 = .ok (.iconst 0, 1) := by decide +kernel
theorem dX2_settle_32 : decode cX2_settle 32 = .ok (.istore_n 1, 1) := by decide +kernel
theorem dX2_settle_33 : decode cX2_settle 33 = .ok (.iload_n 1, 1) := by decide +kernel
theorem dX2_settle_34 : decode cX2_settle 34 = .ok (.sipush 288, 3) := by decide +kernel
theorem dX2_settle_37 : decode cX2_settle 37 = .ok (.if_icmp .ge 38, 3) := by decide +kernel
theorem dX2_settle_40 : decode cX2_settle 40 = .ok (.aload_n 0, 1) := by decide +kernel
theorem dX2_settle_41 : decode cX2_settle 41 = .ok (.getfield 9, 3) := by decide +kernel
theorem dX2_settle_44 : decode cX2_settle 44 = .ok (.iload_n 1, 1) := by decide +kernel
theorem dX2_settle_45 : decode cX2_settle 45 = .ok (.invokevirtual 32, 3) := by decide +kernel
theorem dX2_settle_48 : decode cX2_settle 48 = .ok (.astore_n 2, 1) := by decide +kernel
theorem dX2_settle_49 : decode cX2_settle 49 = .ok (.aload_n 0, 1) := by decide +kernel
theorem dX2_settle_50 : decode cX2_settle 50 = .ok (.getfield 15, 3) := by decide +kernel
theorem dX2_settle_53 : decode cX2_settle 53 = .ok (.iload_n 1, 1) := by decide +kernel
theorem dX2_settle_54 : decode cX2_settle 54 = .ok (.aload_n 2, 1) := by decide +kernel
theorem dX2_settle_55 : decode cX2_settle 55 = .ok (.ifnonnull 7, 3) := by decide +kernel
theorem dX2_settle_58 : decode cX2_settle 58 = .ok (.iconst (-1), 1) := by decide +kernel
theorem dX2_settle_59 : decode cX2_settle 59 = .ok (.goto 9, 3) := by decide +kernel
theorem dX2_settle_62 : decode cX2_settle 62 = .ok (.aload_n 0, 1) := by decide +kernel
theorem dX2_settle_63 : decode cX2_settle 63 = .ok (.iload_n 1, 1) := by decide +kernel
theorem dX2_settle_64 : decode cX2_settle 64 = .ok (.aload_n 2, 1) := by decide +kernel
theorem dX2_settle_65 : decode cX2_settle 65 = .ok (.invokevirtual 36, 3) := by decide +kernel
theorem dX2_settle_68 : decode cX2_settle 68 = .ok (.iastore, 1) := by decide +kernel
theorem dX2_settle_69 : decode cX2_settle 69 = .ok (.iinc 1 1, 3) := by decide +kernel
theorem dX2_settle_72 : decode cX2_settle 72 = .ok (.goto (-39), 3) := by decide +kernel
theorem dX2_settle_75 : decode cX2_settle 75 = .ok (.return_, 1) := by decide +kernel
theorem dX2_familyOf_0 : decode cX2_familyOf 0 = .ok (.iconst 0, 1) := by decide +kernel
theorem dX2_familyOf_1 : decode cX2_familyOf 1 = .ok (.istore_n 3, 1) := by decide +kernel
theorem dX2_familyOf_2 : decode cX2_familyOf 2 = .ok (.iload_n 3, 1) := by decide +kernel
theorem dX2_familyOf_3 : decode cX2_familyOf 3 = .ok (.aload_n 0, 1) := by decide +kernel
theorem dX2_familyOf_4 : decode cX2_familyOf 4 = .ok (.getfield 29, 3) := by decide +kernel
theorem dX2_familyOf_7 : decode cX2_familyOf 7 = .ok (.if_icmp .ge 45, 3) := by decide +kernel
theorem dX2_familyOf_10 : decode cX2_familyOf 10 = .ok (.aload_n 0, 1) := by decide +kernel
theorem dX2_familyOf_11 : decode cX2_familyOf 11 = .ok (.getfield 9, 3) := by decide +kernel
theorem dX2_familyOf_14 : decode cX2_familyOf 14 = .ok (.aload_n 0, 1) := by decide +kernel
theorem dX2_familyOf_15 : decode cX2_familyOf 15 = .ok (.getfield 19, 3) := by decide +kernel
theorem dX2_familyOf_18 : decode cX2_familyOf 18 = .ok (.iload_n 3, 1) := by decide +kernel
theorem dX2_familyOf_19 : decode cX2_familyOf 19 = .ok (.iaload, 1) := by decide +kernel
theorem dX2_familyOf_20 : decode cX2_familyOf 20 = .ok (.invokevirtual 32, 3) := by decide +kernel
theorem dX2_familyOf_23 : decode cX2_familyOf 23 = .ok (.astore 4, 2) := by decide +kernel
theorem dX2_familyOf_25 : decode cX2_familyOf 25 = .ok (.aload 4, 2) := by decide +kernel
theorem dX2_familyOf_27 : decode cX2_familyOf 27 = .ok (.ifnull 19, 3) := by decide +kernel
theorem dX2_familyOf_30 : decode cX2_familyOf 30 = .ok (.aload 4, 2) := by decide +kernel
theorem dX2_familyOf_32 : decode cX2_familyOf 32 = .ok (.aload_n 2, 1) := by decide +kernel
theorem dX2_familyOf_33 : decode cX2_familyOf 33 = .ok (.invokevirtual 40, 3) := by decide +kernel
theorem dX2_familyOf_36 : decode cX2_familyOf 36 = .ok (.ifCond .eq 10, 3) := by decide +kernel
theorem dX2_familyOf_39 : decode cX2_familyOf 39 = .ok (.aload_n 0, 1) := by decide +kernel
theorem dX2_familyOf_40 : decode cX2_familyOf 40 = .ok (.getfield 19, 3) := by decide +kernel
theorem dX2_familyOf_43 : decode cX2_familyOf 43 = .ok (.iload_n 3, 1) := by decide +kernel
theorem dX2_familyOf_44 : decode cX2_familyOf 44 = .ok (.iaload, 1) := by decide +kernel
theorem dX2_familyOf_45 : decode cX2_familyOf 45 = .ok (.ireturn, 1) := by decide +kernel
theorem dX2_familyOf_46 : decode cX2_familyOf 46 = .ok (.iinc 3 1, 3) := by decide +kernel
theorem dX2_familyOf_49 : decode cX2_familyOf 49 = .ok (.goto (-47), 3) := by decide +kernel
theorem dX2_familyOf_52 : decode cX2_familyOf 52 = .ok (.aload_n 0, 1) := by decide +kernel
theorem dX2_familyOf_53 : decode cX2_familyOf 53 = .ok (.getfield 29, 3) := by decide +kernel
theorem dX2_familyOf_56 : decode cX2_familyOf 56 = .ok (.sipush 288, 3) := by decide +kernel
theorem dX2_familyOf_59 : decode cX2_familyOf 59 = .ok (.if_icmp .ge 23, 3) := by decide +kernel
theorem dX2_familyOf_62 : decode cX2_familyOf 62 = .ok (.aload_n 0, 1) := by decide +kernel
theorem dX2_familyOf_63 : decode cX2_familyOf 63 = .ok (.getfield 19, 3) := by decide +kernel
theorem dX2_familyOf_66 : decode cX2_familyOf 66 = .ok (.aload_n 0, 1) := by decide +kernel
theorem dX2_familyOf_67 : decode cX2_familyOf 67 = .ok (.getfield 29, 3) := by decide +kernel
theorem dX2_familyOf_70 : decode cX2_familyOf 70 = .ok (.iload_n 1, 1) := by decide +kernel
theorem dX2_familyOf_71 : decode cX2_familyOf 71 = .ok (.iastore, 1) := by decide +kernel
theorem dX2_familyOf_72 : decode cX2_familyOf 72 = .ok (.aload_n 0, 1) := by decide +kernel
theorem dX2_familyOf_73 : decode cX2_familyOf 73 = .ok (.dup, 1) := by decide +kernel
theorem dX2_familyOf_74 : decode cX2_familyOf 74 = .ok (.getfield 29, 3) := by decide +kernel
theorem dX2_familyOf_77 : decode cX2_familyOf 77 = .ok (.iconst 1, 1) := by decide +kernel
theorem dX2_familyOf_78 : decode cX2_familyOf 78 = .ok (.iadd, 1) := by decide +kernel
theorem dX2_familyOf_79 : decode cX2_familyOf 79 = .ok (.putfield 29, 3) := by decide +kernel
theorem dX2_familyOf_82 : decode cX2_familyOf 82 = .ok (.iload_n 1, 1) := by decide +kernel
theorem dX2_familyOf_83 : decode cX2_familyOf 83 = .ok (.ireturn, 1) := by decide +kernel
theorem dX2_familyAt_0 : decode cX2_familyAt 0 = .ok (.iload_n 1, 1) := by decide +kernel
theorem dX2_familyAt_1 : decode cX2_familyAt 1 = .ok (.invokestatic 46, 3) := by decide +kernel
theorem dX2_familyAt_4 : decode cX2_familyAt 4 = .ok (.ifCond .eq 12, 3) := by decide +kernel
theorem dX2_familyAt_7 : decode cX2_familyAt 7 = .ok (.aload_n 0, 1) := by decide +kernel
theorem dX2_familyAt_8 : decode cX2_familyAt 8 = .ok (.getfield 15, 3) := by decide +kernel
theorem dX2_familyAt_11 : decode cX2_familyAt 11 = .ok (.iload_n 1, 1) := by decide +kernel
theorem dX2_familyAt_12 : decode cX2_familyAt 12 = .ok (.iaload, 1) := by decide +kernel
theorem dX2_familyAt_13 : decode cX2_familyAt 13 = .ok (.goto 4, 3) := by decide +kernel
theorem dX2_familyAt_16 : decode cX2_familyAt 16 = .ok (.iconst (-1), 1) := by decide +kernel
theorem dX2_familyAt_17 : decode cX2_familyAt 17 = .ok (.ireturn, 1) := by decide +kernel
theorem dX2_areKin_0 : decode cX2_areKin 0 = .ok (.iload_n 1, 1) := by decide +kernel
theorem dX2_areKin_1 : decode cX2_areKin 1 = .ok (.invokestatic 46, 3) := by decide +kernel
theorem dX2_areKin_4 : decode cX2_areKin 4 = .ok (.ifCond .eq 39, 3) := by decide +kernel
theorem dX2_areKin_7 : decode cX2_areKin 7 = .ok (.iload_n 2, 1) := by decide +kernel
theorem dX2_areKin_8 : decode cX2_areKin 8 = .ok (.invokestatic 46, 3) := by decide +kernel
theorem dX2_areKin_11 : decode cX2_areKin 11 = .ok (.ifCond .eq 32, 3) := by decide +kernel
theorem dX2_areKin_14 : decode cX2_areKin 14 = .ok (.aload_n 0, 1) := by decide +kernel
theorem dX2_areKin_15 : decode cX2_areKin 15 = .ok (.getfield 15, 3) := by decide +kernel
theorem dX2_areKin_18 : decode cX2_areKin 18 = .ok (.iload_n 1, 1) := by decide +kernel
theorem dX2_areKin_19 : decode cX2_areKin 19 = .ok (.iaload, 1) := by decide +kernel
theorem dX2_areKin_20 : decode cX2_areKin 20 = .ok (.iconst (-1), 1) := by decide +kernel
theorem dX2_areKin_21 : decode cX2_areKin 21 = .ok (.if_icmp .eq 22, 3) := by decide +kernel
theorem dX2_areKin_24 : decode cX2_areKin 24 = .ok (.aload_n 0, 1) := by decide +kernel
theorem dX2_areKin_25 : decode cX2_areKin 25 = .ok (.getfield 15, 3) := by decide +kernel
theorem dX2_areKin_28 : decode cX2_areKin 28 = .ok (.iload_n 1, 1) := by decide +kernel
theorem dX2_areKin_29 : decode cX2_areKin 29 = .ok (.iaload, 1) := by decide +kernel
theorem dX2_areKin_30 : decode cX2_areKin 30 = .ok (.aload_n 0, 1) := by decide +kernel
theorem dX2_areKin_31 : decode cX2_areKin 31 = .ok (.getfield 15, 3) := by decide +kernel
theorem dX2_areKin_34 : decode cX2_areKin 34 = .ok (.iload_n 2, 1) := by decide +kernel
theorem dX2_areKin_35 : decode cX2_areKin 35 = .ok (.iaload, 1) := by decide +kernel
theorem dX2_areKin_36 : decode cX2_areKin 36 = .ok (.if_icmp .ne 7, 3) := by decide +kernel
theorem dX2_areKin_39 : decode cX2_areKin 39 = .ok (.iconst 1, 1) := by decide +kernel
theorem dX2_areKin_40 : decode cX2_areKin 40 = .ok (.goto 4, 3) := by decide +kernel
theorem dX2_areKin_43 : decode cX2_areKin 43 = .ok (.iconst 0, 1) := by decide +kernel
theorem dX2_areKin_44 : decode cX2_areKin 44 = .ok (.ireturn, 1) := by decide +kernel
theorem dX2_neighbourToCopy_0 : decode cX2_neighbourToCopy 0 = .ok (.aload_n 0, 1) := by decide +kernel
theorem dX2_neighbourToCopy_1 : decode cX2_neighbourToCopy 1 = .ok (.getfield 9, 3) := by decide +kernel
theorem dX2_neighbourToCopy_4 : decode cX2_neighbourToCopy 4 = .ok (.iload_n 1, 1) := by decide +kernel
theorem dX2_neighbourToCopy_5 : decode cX2_neighbourToCopy 5 = .ok (.invokevirtual 50, 3) := by decide +kernel
theorem dX2_neighbourToCopy_8 : decode cX2_neighbourToCopy 8 = .ok (.ifCond .ne 5, 3) := by decide +kernel
theorem dX2_neighbourToCopy_11 : decode cX2_neighbourToCopy 11 = .ok (.iconst (-1), 1) := by decide +kernel
theorem dX2_neighbourToCopy_12 : decode cX2_neighbourToCopy 12 = .ok (.ireturn, 1) := by decide +kernel
theorem dX2_neighbourToCopy_13 : decode cX2_neighbourToCopy 13 = .ok (.iload_n 1, 1) := by decide +kernel
theorem dX2_neighbourToCopy_14 : decode cX2_neighbourToCopy 14 = .ok (.bipush 12, 2) := by decide +kernel
theorem dX2_neighbourToCopy_16 : decode cX2_neighbourToCopy 16 = .ok (.irem, 1) := by decide +kernel
theorem dX2_neighbourToCopy_17 : decode cX2_neighbourToCopy 17 = .ok (.istore_n 2, 1) := by decide +kernel
theorem dX2_neighbourToCopy_18 : decode cX2_neighbourToCopy 18 = .ok (.iload_n 2, 1) := by decide +kernel
theorem dX2_neighbourToCopy_19 : decode cX2_neighbourToCopy 19 = .ok (.ifCond .le 27, 3) := by decide +kernel
theorem dX2_neighbourToCopy_22 : decode cX2_neighbourToCopy 22 = .ok (.iload_n 2, 1) := by decide +kernel
theorem dX2_neighbourToCopy_23 : decode cX2_neighbourToCopy 23 = .ok (.bipush 11, 2) := by decide +kernel
theorem dX2_neighbourToCopy_25 : decode cX2_neighbourToCopy 25 = .ok (.if_icmp .ge 21, 3) := by decide +kernel
theorem dX2_neighbourToCopy_28 : decode cX2_neighbourToCopy 28 = .ok (.aload_n 0, 1) := by decide +kernel
theorem dX2_neighbourToCopy_29 : decode cX2_neighbourToCopy 29 = .ok (.iload_n 1, 1) := by decide +kernel
theorem dX2_neighbourToCopy_30 : decode cX2_neighbourToCopy 30 = .ok (.iload_n 1, 1) := by decide +kernel
theorem dX2_neighbourToCopy_31 : decode cX2_neighbourToCopy 31 = .ok (.iconst 1, 1) := by decide +kernel
theorem dX2_neighbourToCopy_32 : decode cX2_neighbourToCopy 32 = .ok (.isub, 1) := by decide +kernel
theorem dX2_neighbourToCopy_33 : decode cX2_neighbourToCopy 33 = .ok (.iload_n 1, 1) := by decide +kernel
theorem dX2_neighbourToCopy_34 : decode cX2_neighbourToCopy 34 = .ok (.iconst 1, 1) := by decide +kernel
theorem dX2_neighbourToCopy_35 : decode cX2_neighbourToCopy 35 = .ok (.iadd, 1) := by decide +kernel
theorem dX2_neighbourToCopy_36 : decode cX2_neighbourToCopy 36 = .ok (.invokevirtual 54, 3) := by decide +kernel
theorem dX2_neighbourToCopy_39 : decode cX2_neighbourToCopy 39 = .ok (.ifCond .eq 7, 3) := by decide +kernel
theorem dX2_neighbourToCopy_42 : decode cX2_neighbourToCopy 42 = .ok (.iload_n 1, 1) := by decide +kernel
theorem dX2_neighbourToCopy_43 : decode cX2_neighbourToCopy 43 = .ok (.iconst 1, 1) := by decide +kernel
theorem dX2_neighbourToCopy_44 : decode cX2_neighbourToCopy 44 = .ok (.isub, 1) := by decide +kernel
theorem dX2_neighbourToCopy_45 : decode cX2_neighbourToCopy 45 = .ok (.ireturn, 1) := by decide +kernel
theorem dX2_neighbourToCopy_46 : decode cX2_neighbourToCopy 46 = .ok (.aload_n 0, 1) := by decide +kernel
theorem dX2_neighbourToCopy_47 : decode cX2_neighbourToCopy 47 = .ok (.iload_n 1, 1) := by decide +kernel
theorem dX2_neighbourToCopy_48 : decode cX2_neighbourToCopy 48 = .ok (.iload_n 1, 1) := by decide +kernel
theorem dX2_neighbourToCopy_49 : decode cX2_neighbourToCopy 49 = .ok (.bipush 12, 2) := by decide +kernel
theorem dX2_neighbourToCopy_51 : decode cX2_neighbourToCopy 51 = .ok (.isub, 1) := by decide +kernel
theorem dX2_neighbourToCopy_52 : decode cX2_neighbourToCopy 52 = .ok (.iload_n 1, 1) := by decide +kernel
theorem dX2_neighbourToCopy_53 : decode cX2_neighbourToCopy 53 = .ok (.bipush 12, 2) := by decide +kernel
theorem dX2_neighbourToCopy_55 : decode cX2_neighbourToCopy 55 = .ok (.iadd, 1) := by decide +kernel
theorem dX2_neighbourToCopy_56 : decode cX2_neighbourToCopy 56 = .ok (.invokevirtual 54, 3) := by decide +kernel
theorem dX2_neighbourToCopy_59 : decode cX2_neighbourToCopy 59 = .ok (.ifCond .eq 10, 3) := by decide +kernel
theorem dX2_neighbourToCopy_62 : decode cX2_neighbourToCopy 62 = .ok (.iload_n 1, 1) := by decide +kernel
theorem dX2_neighbourToCopy_63 : decode cX2_neighbourToCopy 63 = .ok (.bipush 12, 2) := by decide +kernel
theorem dX2_neighbourToCopy_65 : decode cX2_neighbourToCopy 65 = .ok (.isub, 1) := by decide +kernel
theorem dX2_neighbourToCopy_66 : decode cX2_neighbourToCopy 66 = .ok (.goto 4, 3) := by decide +kernel
theorem dX2_neighbourToCopy_69 : decode cX2_neighbourToCopy 69 = .ok (.iconst (-1), 1) := by decide +kernel
theorem dX2_neighbourToCopy_70 : decode cX2_neighbourToCopy 70 = .ok (.ireturn, 1) := by decide +kernel
theorem dX2_isStranger_0 : decode cX2_isStranger 0 = .ok (.aload_n 0, 1) := by decide +kernel
theorem dX2_isStranger_1 : decode cX2_isStranger 1 = .ok (.iload_n 2, 1) := by decide +kernel
theorem dX2_isStranger_2 : decode cX2_isStranger 2 = .ok (.iload_n 3, 1) := by decide +kernel
theorem dX2_isStranger_3 : decode cX2_isStranger 3 = .ok (.invokevirtual 58, 3) := by decide +kernel
theorem dX2_isStranger_6 : decode cX2_isStranger 6 = .ok (.ifCond .eq 16, 3) := by decide +kernel
theorem dX2_isStranger_9 : decode cX2_isStranger 9 = .ok (.aload_n 0, 1) := by decide +kernel
theorem dX2_isStranger_10 : decode cX2_isStranger 10 = .ok (.iload_n 2, 1) := by decide +kernel
theorem dX2_isStranger_11 : decode cX2_isStranger 11 = .ok (.iload_n 1, 1) := by decide +kernel
theorem dX2_isStranger_12 : decode cX2_isStranger 12 = .ok (.invokevirtual 58, 3) := by decide +kernel
theorem dX2_isStranger_15 : decode cX2_isStranger 15 = .ok (.ifCond .ne 7, 3) := by decide +kernel
theorem dX2_isStranger_18 : decode cX2_isStranger 18 = .ok (.iconst 1, 1) := by decide +kernel
theorem dX2_isStranger_19 : decode cX2_isStranger 19 = .ok (.goto 4, 3) := by decide +kernel
theorem dX2_isStranger_22 : decode cX2_isStranger 22 = .ok (.iconst 0, 1) := by decide +kernel
theorem dX2_isStranger_23 : decode cX2_isStranger 23 = .ok (.ireturn, 1) := by decide +kernel
theorem dX3_init_0 : decode cX3_init 0 = .ok (.aload_n 0, 1) := by decide +kernel
theorem dX3_init_1 : decode cX3_init 1 = .ok (.invokespecial 3, 3) := by decide +kernel
theorem dX3_init_4 : decode cX3_init 4 = .ok (.aload_n 0, 1) := by decide +kernel
theorem dX3_init_5 : decode cX3_init 5 = .ok (.aload_n 1, 1) := by decide +kernel
theorem dX3_init_6 : decode cX3_init 6 = .ok (.putfield 9, 3) := by decide +kernel
theorem dX3_init_9 : decode cX3_init 9 = .ok (.aload_n 0, 1) := by decide +kernel
theorem dX3_init_10 : decode cX3_init 10 = .ok (.aload_n 2, 1) := by decide +kernel
theorem dX3_init_11 : decode cX3_init 11 = .ok (.putfield 15, 3) := by decide +kernel
theorem dX3_init_14 : decode cX3_init 14 = .ok (.aload_n 0, 1) := by decide +kernel
theorem dX3_init_15 : decode cX3_init 15 = .ok (.aload_n 3, 1) := by decide +kernel
theorem dX3_init_16 : decode cX3_init 16 = .ok (.putfield 19, 3) := by decide +kernel
theorem dX3_init_19 : decode cX3_init 19 = .ok (.aload_n 0, 1) := by decide +kernel
theorem dX3_init_20 : decode cX3_init 20 = .ok (.aload 4, 2) := by decide +kernel
theorem dX3_init_22 : decode cX3_init 22 = .ok (.putfield 23, 3) := by decide +kernel
theorem dX3_init_25 : decode cX3_init 25 = .ok (.aload_n 0, 1) := by decide +kernel
theorem dX3_init_26 : decode cX3_init 26 = .ok (.aload 5, 2) := by decide +kernel
theorem dX3_init_28 : decode cX3_init 28 = .ok (.putfield 27, 3) := by decide +kernel
theorem dX3_init_31 : decode cX3_init 31 = .ok (.aload_n 0, 1) := by decide +kernel
theorem dX3_init_32 : decode cX3_init 32 = .ok (.sipush 900, 3) := by decide +kernel
theorem dX3_init_35 : decode cX3_init 35 = .ok (.newarray .int, 2) := by decide +kernel
theorem dX3_init_37 : decode cX3_init 37 = .ok (.putfield 31, 3) := by decide +kernel
theorem dX3_init_40 : decode cX3_init 40 = .ok (.aload_n 0, 1) := by decide +kernel
theorem dX3_init_41 : decode cX3_init 41 = .ok (.iconst 0, 1) := by decide +kernel
theorem dX3_init_42 : decode cX3_init 42 = .ok (.putfield 35, 3) := by decide +kernel
theorem dX3_init_45 : decode cX3_init 45 = .ok (.return_, 1) := by decide +kernel
theorem dX3_gather_0 : decode cX3_gather 0 = .ok (.aload_n 0, 1) := by decide +kernel
theorem dX3_gather_1 : decode cX3_gather 1 = .ok (.iconst 0, 1) := by decide +kernel
theorem dX3_gather_2 : decode cX3_gather 2 = .ok (.putfield 35, 3) := by decide +kernel
theorem dX3_gather_5 : decode cX3_gather 5 = .ok (.aload_n 0, 1) := by decide +kernel
theorem dX3_gather_6 : decode cX3_gather 6 = .ok (.getfield 27, 3) := by decide +kernel
theorem dX3_gather_9 : decode cX3_gather 9 = .ok (.invokevirtual 39, 3) := by decide +kernel
theorem dX3_gather_12 : decode cX3_gather 12 = .ok (.iconst 0, 1) := by decide +kernel
theorem dX3_gather_13 : decode cX3_gather 13 = .ok (.istore_n 1, 1) := by decide +kernel
theorem dX3_gather_14 : decode cX3_gather 14 = .ok (.iload_n 1, 1) := by decide +kernel
theorem dX3_gather_15 : decode cX3_gather 15 = .ok (.sipush 288, 3) := by decide +kernel
theorem dX3_gather_18 : decode cX3_gather 18 = .ok (.if_icmp .ge 25, 3) := by decide +kernel
theorem dX3_gather_21 : decode cX3_gather 21 = .ok (.aload_n 0, 1) := by decide +kernel
theorem dX3_gather_22 : decode cX3_gather 22 = .ok (.getfield 9, 3) := by decide +kernel
theorem dX3_gather_25 : decode cX3_gather 25 = .ok (.iload_n 1, 1) := by decide +kernel
theorem dX3_gather_26 : decode cX3_gather 26 = .ok (.invokevirtual 44, 3) := by decide +kernel
theorem dX3_gather_29 : decode cX3_gather 29 = .ok (.ifCond .eq 8, 3) := by decide +kernel
theorem dX3_gather_32 : decode cX3_gather 32 = .ok (.aload_n 0, 1) := by decide +kernel
theorem dX3_gather_33 : decode cX3_gather 33 = .ok (.iload_n 1, 1) := by decide +kernel
theorem dX3_gather_34 : decode cX3_gather 34 = .ok (.invokevirtual 50, 3) := by decide +kernel
theorem dX3_gather_37 : decode cX3_gather 37 = .ok (.iinc 1 1, 3) := by decide +kernel
theorem dX3_gather_40 : decode cX3_gather 40 = .ok (.goto (-26), 3) := by decide +kernel
theorem dX3_gather_43 : decode cX3_gather 43 = .ok (.aload_n 0, 1) := by decide +kernel
theorem dX3_gather_44 : decode cX3_gather 44 = .ok (.getfield 35, 3) := by decide +kernel
theorem dX3_gather_47 : decode cX3_gather 47 = .ok (.ireturn, 1) := by decide +kernel
theorem dX3_tell_0 : decode cX3_tell 0 = .ok (.iload_n 1, 1) := by decide +kernel
theorem dX3_tell_1 : decode cX3_tell 1 = .ok (.ifCond .lt 27, 3) := by decide +kernel
theorem dX3_tell_4 : decode cX3_tell 4 = .ok (.iload_n 1, 1) := by decide +kernel
theorem dX3_tell_5 : decode cX3_tell 5 = .ok (.aload_n 0, 1) := by decide +kernel
theorem dX3_tell_6 : decode cX3_tell 6 = .ok (.getfield 35, 3) := by decide +kernel
theorem dX3_tell_9 : decode cX3_tell 9 = .ok (.if_icmp .ge 19, 3) := by decide +kernel
theorem dX3_tell_12 : decode cX3_tell 12 = .ok (.iload_n 1, 1) := by decide +kernel
theorem dX3_tell_13 : decode cX3_tell 13 = .ok (.sipush 300, 3) := by decide +kernel
theorem dX3_tell_16 : decode cX3_tell 16 = .ok (.if_icmp .ge 12, 3) := by decide +kernel
theorem dX3_tell_19 : decode cX3_tell 19 = .ok (.iload_n 2, 1) := by decide +kernel
theorem dX3_tell_20 : decode cX3_tell 20 = .ok (.ifCond .lt 8, 3) := by decide +kernel
theorem dX3_tell_23 : decode cX3_tell 23 = .ok (.iload_n 2, 1) := by decide +kernel
theorem dX3_tell_24 : decode cX3_tell 24 = .ok (.iconst 3, 1) := by decide +kernel
theorem dX3_tell_25 : decode cX3_tell 25 = .ok (.if_icmp .lt 5, 3) := by decide +kernel
theorem dX3_tell_28 : decode cX3_tell 28 = .ok (.iconst (-1), 1) := by decide +kernel
theorem dX3_tell_29 : decode cX3_tell 29 = .ok (.ireturn, 1) := by decide +kernel
theorem dX3_tell_30 : decode cX3_tell 30 = .ok (.aload_n 0, 1) := by decide +kernel
theorem dX3_tell_31 : decode cX3_tell 31 = .ok (.getfield 31, 3) := by decide +kernel
theorem dX3_tell_34 : decode cX3_tell 34 = .ok (.iload_n 1, 1) := by decide +kernel
theorem dX3_tell_35 : decode cX3_tell 35 = .ok (.iconst 3, 1) := by decide +kernel
theorem dX3_tell_36 : decode cX3_tell 36 = .ok (.imul, 1) := by decide +kernel
theorem dX3_tell_37 : decode cX3_tell 37 = .ok (.iload_n 2, 1) := by decide +kernel
theorem dX3_tell_38 : decode cX3_tell 38 = .ok (.iadd, 1) := by decide +kernel
theorem dX3_tell_39 : decode cX3_tell 39 = .ok (.iaload, 1) := by decide +kernel
theorem dX3_tell_40 : decode cX3_tell 40 = .ok (.ireturn, 1) := by decide +kernel
theorem dX3_gatherOf_0 : decode cX3_gatherOf 0 = .ok (.aload_n 0, 1) := by decide +kernel
theorem dX3_gatherOf_1 : decode cX3_gatherOf 1 = .ok (.getfield 9, 3) := by decide +kernel
theorem dX3_gatherOf_4 : decode cX3_gatherOf 4 = .ok (.iload_n 1, 1) := by decide +kernel
theorem dX3_gatherOf_5 : decode cX3_gatherOf 5 = .ok (.invokevirtual 44, 3) := by decide +kernel
theorem dX3_gatherOf_8 : decode cX3_gatherOf 8 = .ok (.iconst 1, 1) := by decide +kernel
theorem dX3_gatherOf_9 : decode cX3_gatherOf 9 = .ok (.if_icmp .ne 7, 3) := by decide +kernel
theorem dX3_gatherOf_12 : decode cX3_gatherOf 12 = .ok (.iconst 1, 1) := by decide +kernel
theorem dX3_gatherOf_13 : decode cX3_gatherOf 13 = .ok (.goto 4, 3) := by decide +kernel
theorem dX3_gatherOf_16 : decode cX3_gatherOf 16 = .ok (.iconst 0, 1) := by decide +kernel
theorem dX3_gatherOf_17 : decode cX3_gatherOf 17 = .ok (.istore_n 2, 1) := by decide +kernel
theorem dX3_gatherOf_18 : decode cX3_gatherOf 18 = .ok (.aload_n 0, 1) := by decide +kernel
theorem dX3_gatherOf_19 : decode cX3_gatherOf 19 = .ok (.getfield 19, 3) := by decide +kernel
theorem dX3_gatherOf_22 : decode cX3_gatherOf 22 = .ok (.iload_n 1, 1) := by decide +kernel
theorem dX3_gatherOf_23 : decode cX3_gatherOf 23 = .ok (.invokevirtual 54, 3) := by decide +kernel
theorem dX3_gatherOf_26 : decode cX3_gatherOf 26 = .ok (.istore_n 3, 1) := by decide +kernel
theorem dX3_gatherOf_27 : decode cX3_gatherOf 27 = .ok (.iload_n 3, 1) := by decide +kernel
theorem dX3_gatherOf_28 : decode cX3_gatherOf 28 = .ok (.iconst (-1), 1) := by decide +kernel
theorem dX3_gatherOf_29 : decode cX3_gatherOf 29 = .ok (.if_icmp .eq 18, 3) := by decide +kernel
theorem dX3_gatherOf_32 : decode cX3_gatherOf 32 = .ok (.aload_n 0, 1) := by decide +kernel
theorem dX3_gatherOf_33 : decode cX3_gatherOf 33 = .ok (.iload_n 2, 1) := by decide +kernel
theorem dX3_gatherOf_34 : decode cX3_gatherOf 34 = .ok (.ifCond .eq 7, 3) := by decide +kernel
theorem dX3_gatherOf_37 : decode cX3_gatherOf 37 = .ok (.iconst 2, 1) := by decide +kernel
theorem dX3_gatherOf_38 : decode cX3_gatherOf 38 = .ok (.goto 4, 3) := by decide +kernel
theorem dX3_gatherOf_41 : decode cX3_gatherOf 41 = .ok (.iconst 1, 1) := by decide +kernel
theorem dX3_gatherOf_42 : decode cX3_gatherOf 42 = .ok (.iload_n 1, 1) := by decide +kernel
theorem dX3_gatherOf_43 : decode cX3_gatherOf 43 = .ok (.iload_n 3, 1) := by decide +kernel
theorem dX3_gatherOf_44 : decode cX3_gatherOf 44 = .ok (.invokevirtual 59, 3) := by decide +kernel
theorem dX3_gatherOf_47 : decode cX3_gatherOf 47 = .ok (.aload_n 0, 1) := by decide +kernel
theorem dX3_gatherOf_48 : decode cX3_gatherOf 48 = .ok (.getfield 9, 3) := by decide +kernel
theorem dX3_gatherOf_51 : decode cX3_gatherOf 51 = .ok (.iload_n 1, 1) := by decide +kernel
theorem dX3_gatherOf_52 : decode cX3_gatherOf 52 = .ok (.invokevirtual 63, 3) := by decide +kernel
theorem dX3_gatherOf_55 : decode cX3_gatherOf 55 = .ok (.astore 4, 2) := by decide +kernel
theorem dX3_gatherOf_57 : decode cX3_gatherOf 57 = .ok (.aload 4, 2) := by decide +kernel
theorem dX3_gatherOf_59 : decode cX3_gatherOf 59 = .ok (.ifnull 10, 3) := by decide +kernel
theorem dX3_gatherOf_62 : decode cX3_gatherOf 62 = .ok (.aload_n 0, 1) := by decide +kernel
theorem dX3_gatherOf_63 : decode cX3_gatherOf 63 = .ok (.iload_n 1, 1) := by decide +kernel
theorem dX3_gatherOf_64 : decode cX3_gatherOf 64 = .ok (.aload 4, 2) := by decide +kernel
theorem dX3_gatherOf_66 : decode cX3_gatherOf 66 = .ok (.invokevirtual 67, 3) := by decide +kernel
theorem dX3_gatherOf_69 : decode cX3_gatherOf 69 = .ok (.aload_n 0, 1) := by decide +kernel
theorem dX3_gatherOf_70 : decode cX3_gatherOf 70 = .ok (.getfield 27, 3) := by decide +kernel
theorem dX3_gatherOf_73 : decode cX3_gatherOf 73 = .ok (.iload_n 1, 1) := by decide +kernel
theorem dX3_gatherOf_74 : decode cX3_gatherOf 74 = .ok (.invokevirtual 71, 3) := by decide +kernel
theorem dX3_gatherOf_77 : decode cX3_gatherOf 77 = .ok (.istore 5, 2) := by decide +kernel
theorem dX3_gatherOf_79 : decode cX3_gatherOf 79 = .ok (.iload 5, 2) := by decide +kernel
theorem dX3_gatherOf_81 : decode cX3_gatherOf 81 = .ok (.iconst (-1), 1) := by decide +kernel
theorem dX3_gatherOf_82 : decode cX3_gatherOf 82 = .ok (.if_icmp .eq 11, 3) := by decide +kernel
theorem dX3_gatherOf_85 : decode cX3_gatherOf 85 = .ok (.aload_n 0, 1) := by decide +kernel
theorem dX3_gatherOf_86 : decode cX3_gatherOf 86 = .ok (.iconst 4, 1) := by decide +kernel
theorem dX3_gatherOf_87 : decode cX3_gatherOf 87 = .ok (.iload_n 1, 1) := by decide +kernel
theorem dX3_gatherOf_88 : decode cX3_gatherOf 88 = .ok (.iload 5, 2) := by decide +kernel
theorem dX3_gatherOf_90 : decode cX3_gatherOf 90 = .ok (.invokevirtual 59, 3) := by decide +kernel
theorem dX3_gatherOf_93 : decode cX3_gatherOf 93 = .ok (.aload_n 0, 1) := by decide +kernel
theorem dX3_gatherOf_94 : decode cX3_gatherOf 94 = .ok (.getfield 9, 3) := by decide +kernel
theorem dX3_gatherOf_97 : decode cX3_gatherOf 97 = .ok (.iload_n 1, 1) := by decide +kernel
theorem dX3_gatherOf_98 : decode cX3_gatherOf 98 = .ok (.invokevirtual 74, 3) := by decide +kernel
theorem dX3_gatherOf_101 : decode cX3_gatherOf 101 = .ok (.ifCond .ne 21, 3) := by decide +kernel
theorem dX3_gatherOf_104 : decode cX3_gatherOf 104 = .ok (.aload_n 0, 1) := by decide +kernel
theorem dX3_gatherOf_105 : decode cX3_gatherOf 105 = .ok (.getfield 15, 3) := by decide +kernel
theorem dX3_gatherOf_108 : decode cX3_gatherOf 108 = .ok (.iload_n 1, 1) := by decide +kernel
theorem dX3_gatherOf_109 : decode cX3_gatherOf 109 = .ok (.invokevirtual 78, 3) := by decide +kernel
theorem dX3_gatherOf_112 : decode cX3_gatherOf 112 = .ok (.ifCond .ne 10, 3) := by decide +kernel
theorem dX3_gatherOf_115 : decode cX3_gatherOf 115 = .ok (.aload_n 0, 1) := by decide +kernel
theorem dX3_gatherOf_116 : decode cX3_gatherOf 116 = .ok (.iconst 5, 1) := by decide +kernel
theorem dX3_gatherOf_117 : decode cX3_gatherOf 117 = .ok (.iload_n 1, 1) := by decide +kernel
theorem dX3_gatherOf_118 : decode cX3_gatherOf 118 = .ok (.iconst (-1), 1) := by decide +kernel
theorem dX3_gatherOf_119 : decode cX3_gatherOf 119 = .ok (.invokevirtual 59, 3) := by decide +kernel
theorem dX3_gatherOf_122 : decode cX3_gatherOf 122 = .ok (.aload_n 0, 1) := by decide +kernel
theorem dX3_gatherOf_123 : decode cX3_gatherOf 123 = .ok (.getfield 23, 3) := by decide +kernel
theorem dX3_gatherOf_126 : decode cX3_gatherOf 126 = .ok (.iload_n 1, 1) := by decide +kernel
theorem dX3_gatherOf_127 : decode cX3_gatherOf 127 = .ok (.invokevirtual 83, 3) := by decide +kernel
theorem dX3_gatherOf_130 : decode cX3_gatherOf 130 = .ok (.ifCond .eq 11, 3) := by decide +kernel
theorem dX3_gatherOf_133 : decode cX3_gatherOf 133 = .ok (.aload_n 0, 1) := by decide +kernel
theorem dX3_gatherOf_134 : decode cX3_gatherOf 134 = .ok (.bipush 6, 2) := by decide +kernel
theorem dX3_gatherOf_136 : decode cX3_gatherOf 136 = .ok (.iload_n 1, 1) := by decide +kernel
theorem dX3_gatherOf_137 : decode cX3_gatherOf 137 = .ok (.iconst (-1), 1) := by decide +kernel
theorem dX3_gatherOf_138 : decode cX3_gatherOf 138 = .ok (.invokevirtual 59, 3) := by decide +kernel
theorem dX3_gatherOf_141 : decode cX3_gatherOf 141 = .ok (.return_, 1) := by decide +kernel
theorem dX3_gatherShort_0 : decode cX3_gatherShort 0 = .ok (.iconst 0, 1) := by decide +kernel
theorem dX3_gatherShort_1 : decode cX3_gatherShort 1 = .ok (.istore_n 3, 1) := by decide +kernel
theorem dX3_gatherShort_2 : decode cX3_gatherShort 2 = .ok (.iload_n 3, 1) := by decide +kernel
theorem dX3_gatherShort_3 : decode cX3_gatherShort 3 = .ok (.aload_n 2, 1) := by decide +kernel
theorem dX3_gatherShort_4 : decode cX3_gatherShort 4 = .ok (.invokevirtual 88, 3) := by decide +kernel
theorem dX3_gatherShort_7 : decode cX3_gatherShort 7 = .ok (.if_icmp .ge 55, 3) := by decide +kernel
theorem dX3_gatherShort_10 : decode cX3_gatherShort 10 = .ok (.aload_n 0, 1) := by decide +kernel
theorem dX3_gatherShort_11 : decode cX3_gatherShort 11 = .ok (.iload_n 1, 1) := by decide +kernel
theorem dX3_gatherShort_12 : decode cX3_gatherShort 12 = .ok (.aload_n 2, 1) := by decide +kernel
theorem dX3_gatherShort_13 : decode cX3_gatherShort 13 = .ok (.iload_n 3, 1) := by decide +kernel
theorem dX3_gatherShort_14 : decode cX3_gatherShort 14 = .ok (.invokevirtual 93, 3) := by decide +kernel
theorem dX3_gatherShort_17 : decode cX3_gatherShort 17 = .ok (.istore 4, 2) := by decide +kernel
theorem dX3_gatherShort_19 : decode cX3_gatherShort 19 = .ok (.iload 4, 2) := by decide +kernel
theorem dX3_gatherShort_21 : decode cX3_gatherShort 21 = .ok (.iconst (-1), 1) := by decide +kernel
theorem dX3_gatherShort_22 : decode cX3_gatherShort 22 = .ok (.if_icmp .eq 11, 3) := by decide +kernel
theorem dX3_gatherShort_25 : decode cX3_gatherShort 25 = .ok (.aload_n 0, 1) := by decide +kernel
theorem dX3_gatherShort_26 : decode cX3_gatherShort 26 = .ok (.iconst 3, 1) := by decide +kernel
theorem dX3_gatherShort_27 : decode cX3_gatherShort 27 = .ok (.iload_n 1, 1) := by decide +kernel
theorem dX3_gatherShort_28 : decode cX3_gatherShort 28 = .ok (.iload 4, 2) := by decide +kernel
theorem dX3_gatherShort_30 : decode cX3_gatherShort 30 = .ok (.invokevirtual 59, 3) := by decide +kernel
theorem dX3_gatherShort_33 : decode cX3_gatherShort 33 = .ok (.aload_n 0, 1) := by decide +kernel
theorem dX3_gatherShort_34 : decode cX3_gatherShort 34 = .ok (.iload_n 1, 1) := by decide +kernel
theorem dX3_gatherShort_35 : decode cX3_gatherShort 35 = .ok (.aload_n 2, 1) := by decide +kernel
theorem dX3_gatherShort_36 : decode cX3_gatherShort 36 = .ok (.iload_n 3, 1) := by decide +kernel
theorem dX3_gatherShort_37 : decode cX3_gatherShort 37 = .ok (.invokevirtual 97, 3) := by decide +kernel
theorem dX3_gatherShort_40 : decode cX3_gatherShort 40 = .ok (.istore 5, 2) := by decide +kernel
theorem dX3_gatherShort_42 : decode cX3_gatherShort 42 = .ok (.iload 5, 2) := by decide +kernel
theorem dX3_gatherShort_44 : decode cX3_gatherShort 44 = .ok (.iconst (-1), 1) := by decide +kernel
theorem dX3_gatherShort_45 : decode cX3_gatherShort 45 = .ok (.if_icmp .eq 11, 3) := by decide +kernel
theorem dX3_gatherShort_48 : decode cX3_gatherShort 48 = .ok (.aload_n 0, 1) := by decide +kernel
theorem dX3_gatherShort_49 : decode cX3_gatherShort 49 = .ok (.iconst 3, 1) := by decide +kernel
theorem dX3_gatherShort_50 : decode cX3_gatherShort 50 = .ok (.iload_n 1, 1) := by decide +kernel
theorem dX3_gatherShort_51 : decode cX3_gatherShort 51 = .ok (.iload 5, 2) := by decide +kernel
theorem dX3_gatherShort_53 : decode cX3_gatherShort 53 = .ok (.invokevirtual 59, 3) := by decide +kernel
theorem dX3_gatherShort_56 : decode cX3_gatherShort 56 = .ok (.iinc 3 1, 3) := by decide +kernel
theorem dX3_gatherShort_59 : decode cX3_gatherShort 59 = .ok (.goto (-57), 3) := by decide +kernel
theorem dX3_gatherShort_62 : decode cX3_gatherShort 62 = .ok (.return_, 1) := by decide +kernel
theorem dX3_add_0 : decode cX3_add 0 = .ok (.aload_n 0, 1) := by decide +kernel
theorem dX3_add_1 : decode cX3_add 1 = .ok (.getfield 35, 3) := by decide +kernel
theorem dX3_add_4 : decode cX3_add 4 = .ok (.sipush 300, 3) := by decide +kernel
theorem dX3_add_7 : decode cX3_add 7 = .ok (.if_icmp .ge 43, 3) := by decide +kernel
theorem dX3_add_10 : decode cX3_add 10 = .ok (.aload_n 0, 1) := by decide +kernel
theorem dX3_add_11 : decode cX3_add 11 = .ok (.getfield 31, 3) := by decide +kernel
theorem dX3_add_14 : decode cX3_add 14 = .ok (.aload_n 0, 1) := by decide +kernel
theorem dX3_add_15 : decode cX3_add 15 = .ok (.getfield 35, 3) := by decide +kernel
theorem dX3_add_18 : decode cX3_add 18 = .ok (.iconst 3, 1) := by decide +kernel
theorem dX3_add_19 : decode cX3_add 19 = .ok (.imul, 1) := by decide +kernel
theorem dX3_add_20 : decode cX3_add 20 = .ok (.iload_n 1, 1) := by decide +kernel
theorem dX3_add_21 : decode cX3_add 21 = .ok (.iastore, 1) := by decide +kernel
theorem dX3_add_22 : decode cX3_add 22 = .ok (.aload_n 0, 1) := by decide +kernel
theorem dX3_add_23 : decode cX3_add 23 = .ok (.getfield 31, 3) := by decide +kernel
theorem dX3_add_26 : decode cX3_add 26 = .ok (.aload_n 0, 1) := by decide +kernel
theorem dX3_add_27 : decode cX3_add 27 = .ok (.getfield 35, 3) := by decide +kernel
theorem dX3_add_30 : decode cX3_add 30 = .ok (.iconst 3, 1) := by decide +kernel
theorem dX3_add_31 : decode cX3_add 31 = .ok (.imul, 1) := by decide +kernel
theorem dX3_add_32 : decode cX3_add 32 = .ok (.iconst 1, 1) := by decide +kernel
theorem dX3_add_33 : decode cX3_add 33 = .ok (.iadd, 1) := by decide +kernel
theorem dX3_add_34 : decode cX3_add 34 = .ok (.iload_n 2, 1) := by decide +kernel
theorem dX3_add_35 : decode cX3_add 35 = .ok (.iastore, 1) := by decide +kernel
theorem dX3_add_36 : decode cX3_add 36 = .ok (.aload_n 0, 1) := by decide +kernel
theorem dX3_add_37 : decode cX3_add 37 = .ok (.getfield 31, 3) := by decide +kernel
theorem dX3_add_40 : decode cX3_add 40 = .ok (.aload_n 0, 1) := by decide +kernel
theorem dX3_add_41 : decode cX3_add 41 = .ok (.getfield 35, 3) := by decide +kernel
theorem dX3_add_44 : decode cX3_add 44 = .ok (.iconst 3, 1) := by decide +kernel
theorem dX3_add_45 : decode cX3_add 45 = .ok (.imul, 1) := by decide +kernel
theorem dX3_add_46 : decode cX3_add 46 = .ok (.iconst 2, 1) := by decide +kernel
theorem dX3_add_47 : decode cX3_add 47 = .ok (.iadd, 1) := by decide +kernel
theorem dX3_add_48 : decode cX3_add 48 = .ok (.iload_n 3, 1) := by decide +kernel
theorem dX3_add_49 : decode cX3_add 49 = .ok (.iastore, 1) := by decide +kernel
theorem dX3_add_50 : decode cX3_add 50 = .ok (.aload_n 0, 1) := by decide +kernel
theorem dX3_add_51 : decode cX3_add 51 = .ok (.dup, 1) := by decide +kernel
theorem dX3_add_52 : decode cX3_add 52 = .ok (.getfield 35, 3) := by decide +kernel
theorem dX3_add_55 : decode cX3_add 55 = .ok (.iconst 1, 1) := by decide +kernel
theorem dX3_add_56 : decode cX3_add 56 = .ok (.iadd, 1) := by decide +kernel
theorem dX3_add_57 : decode cX3_add 57 = .ok (.putfield 35, 3) := by decide +kernel
theorem dX3_add_60 : decode cX3_add 60 = .ok (.return_, 1) := by decide +kernel
theorem dX3_shortBelow_0 : decode cX3_shortBelow 0 = .ok (.aload_n 2, 1) := by decide +kernel
theorem dX3_shortBelow_1 : decode cX3_shortBelow 1 = .ok (.iload_n 3, 1) := by decide +kernel
theorem dX3_shortBelow_2 : decode cX3_shortBelow 2 = .ok (.invokevirtual 100, 3) := by decide +kernel
theorem dX3_shortBelow_5 : decode cX3_shortBelow 5 = .ok (.iconst 2, 1) := by decide +kernel
theorem dX3_shortBelow_6 : decode cX3_shortBelow 6 = .ok (.if_icmp .ne 18, 3) := by decide +kernel
theorem dX3_shortBelow_9 : decode cX3_shortBelow 9 = .ok (.aload_n 2, 1) := by decide +kernel
theorem dX3_shortBelow_10 : decode cX3_shortBelow 10 = .ok (.iload_n 3, 1) := by decide +kernel
theorem dX3_shortBelow_11 : decode cX3_shortBelow 11 = .ok (.iload_n 1, 1) := by decide +kernel
theorem dX3_shortBelow_12 : decode cX3_shortBelow 12 = .ok (.invokevirtual 103, 3) := by decide +kernel
theorem dX3_shortBelow_15 : decode cX3_shortBelow 15 = .ok (.aload_n 2, 1) := by decide +kernel
theorem dX3_shortBelow_16 : decode cX3_shortBelow 16 = .ok (.iload_n 3, 1) := by decide +kernel
theorem dX3_shortBelow_17 : decode cX3_shortBelow 17 = .ok (.iload_n 1, 1) := by decide +kernel
theorem dX3_shortBelow_18 : decode cX3_shortBelow 18 = .ok (.invokevirtual 107, 3) := by decide +kernel
theorem dX3_shortBelow_21 : decode cX3_shortBelow 21 = .ok (.if_icmp .eq 5, 3) := by decide +kernel
theorem dX3_shortBelow_24 : decode cX3_shortBelow 24 = .ok (.iconst (-1), 1) := by decide +kernel
theorem dX3_shortBelow_25 : decode cX3_shortBelow 25 = .ok (.ireturn, 1) := by decide +kernel
theorem dX3_shortBelow_26 : decode cX3_shortBelow 26 = .ok (.aload_n 2, 1) := by decide +kernel
theorem dX3_shortBelow_27 : decode cX3_shortBelow 27 = .ok (.iload_n 3, 1) := by decide +kernel
theorem dX3_shortBelow_28 : decode cX3_shortBelow 28 = .ok (.iload_n 1, 1) := by decide +kernel
theorem dX3_shortBelow_29 : decode cX3_shortBelow 29 = .ok (.invokevirtual 110, 3) := by decide +kernel
theorem dX3_shortBelow_32 : decode cX3_shortBelow 32 = .ok (.istore 4, 2) := by decide +kernel
theorem dX3_shortBelow_34 : decode cX3_shortBelow 34 = .ok (.iload 4, 2) := by decide +kernel
theorem dX3_shortBelow_36 : decode cX3_shortBelow 36 = .ok (.bipush 12, 2) := by decide +kernel
theorem dX3_shortBelow_38 : decode cX3_shortBelow 38 = .ok (.imul, 1) := by decide +kernel
theorem dX3_shortBelow_39 : decode cX3_shortBelow 39 = .ok (.aload_n 2, 1) := by decide +kernel
theorem dX3_shortBelow_40 : decode cX3_shortBelow 40 = .ok (.iload_n 3, 1) := by decide +kernel
theorem dX3_shortBelow_41 : decode cX3_shortBelow 41 = .ok (.iload_n 1, 1) := by decide +kernel
theorem dX3_shortBelow_42 : decode cX3_shortBelow 42 = .ok (.invokevirtual 107, 3) := by decide +kernel
theorem dX3_shortBelow_45 : decode cX3_shortBelow 45 = .ok (.iadd, 1) := by decide +kernel
theorem dX3_shortBelow_46 : decode cX3_shortBelow 46 = .ok (.istore 5, 2) := by decide +kernel
theorem dX3_shortBelow_48 : decode cX3_shortBelow 48 = .ok (.iload 4, 2) := by decide +kernel
theorem dX3_shortBelow_50 : decode cX3_shortBelow 50 = .ok (.bipush 23, 2) := by decide +kernel
theorem dX3_shortBelow_52 : decode cX3_shortBelow 52 = .ok (.if_icmp .ge 26, 3) := by decide +kernel
theorem dX3_shortBelow_55 : decode cX3_shortBelow 55 = .ok (.aload_n 0, 1) := by decide +kernel
theorem dX3_shortBelow_56 : decode cX3_shortBelow 56 = .ok (.iload_n 1, 1) := by decide +kernel
theorem dX3_shortBelow_57 : decode cX3_shortBelow 57 = .ok (.iload 5, 2) := by decide +kernel
theorem dX3_shortBelow_59 : decode cX3_shortBelow 59 = .ok (.iload 5, 2) := by decide +kernel
theorem dX3_shortBelow_61 : decode cX3_shortBelow 61 = .ok (.bipush 12, 2) := by decide +kernel
theorem dX3_shortBelow_63 : decode cX3_shortBelow 63 = .ok (.iadd, 1) := by decide +kernel
theorem dX3_shortBelow_64 : decode cX3_shortBelow 64 = .ok (.invokevirtual 113, 3) := by decide +kernel
theorem dX3_shortBelow_67 : decode cX3_shortBelow 67 = .ok (.ifCond .eq 11, 3) := by decide +kernel
theorem dX3_shortBelow_70 : decode cX3_shortBelow 70 = .ok (.iload 5, 2) := by decide +kernel
theorem dX3_shortBelow_72 : decode cX3_shortBelow 72 = .ok (.bipush 12, 2) := by decide +kernel
theorem dX3_shortBelow_74 : decode cX3_shortBelow 74 = .ok (.iadd, 1) := by decide +kernel
theorem dX3_shortBelow_75 : decode cX3_shortBelow 75 = .ok (.goto 4, 3) := by decide +kernel
theorem dX3_shortBelow_78 : decode cX3_shortBelow 78 = .ok (.iconst (-1), 1) := by decide +kernel
theorem dX3_shortBelow_79 : decode cX3_shortBelow 79 = .ok (.ireturn, 1) := by decide +kernel
theorem dX3_shortRight_0 : decode cX3_shortRight 0 = .ok (.aload_n 2, 1) := by decide +kernel
theorem dX3_shortRight_1 : decode cX3_shortRight 1 = .ok (.iload_n 3, 1) := by decide +kernel
theorem dX3_shortRight_2 : decode cX3_shortRight 2 = .ok (.invokevirtual 100, 3) := by decide +kernel
theorem dX3_shortRight_5 : decode cX3_shortRight 5 = .ok (.iconst 2, 1) := by decide +kernel
theorem dX3_shortRight_6 : decode cX3_shortRight 6 = .ok (.if_icmp .ne 18, 3) := by decide +kernel
theorem dX3_shortRight_9 : decode cX3_shortRight 9 = .ok (.aload_n 2, 1) := by decide +kernel
theorem dX3_shortRight_10 : decode cX3_shortRight 10 = .ok (.iload_n 3, 1) := by decide +kernel
theorem dX3_shortRight_11 : decode cX3_shortRight 11 = .ok (.iload_n 1, 1) := by decide +kernel
theorem dX3_shortRight_12 : decode cX3_shortRight 12 = .ok (.invokevirtual 117, 3) := by decide +kernel
theorem dX3_shortRight_15 : decode cX3_shortRight 15 = .ok (.aload_n 2, 1) := by decide +kernel
theorem dX3_shortRight_16 : decode cX3_shortRight 16 = .ok (.iload_n 3, 1) := by decide +kernel
theorem dX3_shortRight_17 : decode cX3_shortRight 17 = .ok (.iload_n 1, 1) := by decide +kernel
theorem dX3_shortRight_18 : decode cX3_shortRight 18 = .ok (.invokevirtual 110, 3) := by decide +kernel
theorem dX3_shortRight_21 : decode cX3_shortRight 21 = .ok (.if_icmp .eq 5, 3) := by decide +kernel
theorem dX3_shortRight_24 : decode cX3_shortRight 24 = .ok (.iconst (-1), 1) := by decide +kernel
theorem dX3_shortRight_25 : decode cX3_shortRight 25 = .ok (.ireturn, 1) := by decide +kernel
theorem dX3_shortRight_26 : decode cX3_shortRight 26 = .ok (.aload_n 2, 1) := by decide +kernel
theorem dX3_shortRight_27 : decode cX3_shortRight 27 = .ok (.iload_n 3, 1) := by decide +kernel
theorem dX3_shortRight_28 : decode cX3_shortRight 28 = .ok (.iload_n 1, 1) := by decide +kernel
theorem dX3_shortRight_29 : decode cX3_shortRight 29 = .ok (.invokevirtual 107, 3) := by decide +kernel
theorem dX3_shortRight_32 : decode cX3_shortRight 32 = .ok (.istore 4, 2) := by decide +kernel
theorem dX3_shortRight_34 : decode cX3_shortRight 34 = .ok (.aload_n 2, 1) := by decide +kernel
theorem dX3_shortRight_35 : decode cX3_shortRight 35 = .ok (.iload_n 3, 1) := by decide +kernel
theorem dX3_shortRight_36 : decode cX3_shortRight 36 = .ok (.iload_n 1, 1) := by decide +kernel
theorem dX3_shortRight_37 : decode cX3_shortRight 37 = .ok (.invokevirtual 110, 3) := by decide +kernel
theorem dX3_shortRight_40 : decode cX3_shortRight 40 = .ok (.bipush 12, 2) := by decide +kernel
theorem dX3_shortRight_42 : decode cX3_shortRight 42 = .ok (.imul, 1) := by decide +kernel
theorem dX3_shortRight_43 : decode cX3_shortRight 43 = .ok (.iload 4, 2) := by decide +kernel
theorem dX3_shortRight_45 : decode cX3_shortRight 45 = .ok (.iadd, 1) := by decide +kernel
theorem dX3_shortRight_46 : decode cX3_shortRight 46 = .ok (.istore 5, 2) := by decide +kernel
theorem dX3_shortRight_48 : decode cX3_shortRight 48 = .ok (.iload 4, 2) := by decide +kernel
theorem dX3_shortRight_50 : decode cX3_shortRight 50 = .ok (.bipush 11, 2) := by decide +kernel
theorem dX3_shortRight_52 : decode cX3_shortRight 52 = .ok (.if_icmp .ge 24, 3) := by decide +kernel
theorem dX3_shortRight_55 : decode cX3_shortRight 55 = .ok (.aload_n 0, 1) := by decide +kernel
theorem dX3_shortRight_56 : decode cX3_shortRight 56 = .ok (.iload_n 1, 1) := by decide +kernel
theorem dX3_shortRight_57 : decode cX3_shortRight 57 = .ok (.iload 5, 2) := by decide +kernel
theorem dX3_shortRight_59 : decode cX3_shortRight 59 = .ok (.iload 5, 2) := by decide +kernel
theorem dX3_shortRight_61 : decode cX3_shortRight 61 = .ok (.iconst 1, 1) := by decide +kernel
theorem dX3_shortRight_62 : decode cX3_shortRight 62 = .ok (.iadd, 1) := by decide +kernel
theorem dX3_shortRight_63 : decode cX3_shortRight 63 = .ok (.invokevirtual 113, 3) := by decide +kernel
theorem dX3_shortRight_66 : decode cX3_shortRight 66 = .ok (.ifCond .eq 10, 3) := by decide +kernel
theorem dX3_shortRight_69 : decode cX3_shortRight 69 = .ok (.iload 5, 2) := by decide +kernel
theorem dX3_shortRight_71 : decode cX3_shortRight 71 = .ok (.iconst 1, 1) := by decide +kernel
theorem dX3_shortRight_72 : decode cX3_shortRight 72 = .ok (.iadd, 1) := by decide +kernel
theorem dX3_shortRight_73 : decode cX3_shortRight 73 = .ok (.goto 4, 3) := by decide +kernel
theorem dX3_shortRight_76 : decode cX3_shortRight 76 = .ok (.iconst (-1), 1) := by decide +kernel
theorem dX3_shortRight_77 : decode cX3_shortRight 77 = .ok (.ireturn, 1) := by decide +kernel
theorem dX3_goesOn_0 : decode cX3_goesOn 0 = .ok (.iload_n 3, 1) := by decide +kernel
theorem dX3_goesOn_1 : decode cX3_goesOn 1 = .ok (.iload_n 1, 1) := by decide +kernel
theorem dX3_goesOn_2 : decode cX3_goesOn 2 = .ok (.if_icmp .eq 31, 3) := by decide +kernel
theorem dX3_goesOn_5 : decode cX3_goesOn 5 = .ok (.aload_n 0, 1) := by decide +kernel
theorem dX3_goesOn_6 : decode cX3_goesOn 6 = .ok (.getfield 9, 3) := by decide +kernel
theorem dX3_goesOn_9 : decode cX3_goesOn 9 = .ok (.iload_n 3, 1) := by decide +kernel
theorem dX3_goesOn_10 : decode cX3_goesOn 10 = .ok (.invokevirtual 44, 3) := by decide +kernel
theorem dX3_goesOn_13 : decode cX3_goesOn 13 = .ok (.iconst 1, 1) := by decide +kernel
theorem dX3_goesOn_14 : decode cX3_goesOn 14 = .ok (.if_icmp .eq 15, 3) := by decide +kernel
theorem dX3_goesOn_17 : decode cX3_goesOn 17 = .ok (.aload_n 0, 1) := by decide +kernel
theorem dX3_goesOn_18 : decode cX3_goesOn 18 = .ok (.getfield 19, 3) := by decide +kernel
theorem dX3_goesOn_21 : decode cX3_goesOn 21 = .ok (.iload_n 2, 1) := by decide +kernel
theorem dX3_goesOn_22 : decode cX3_goesOn 22 = .ok (.iload_n 3, 1) := by decide +kernel
theorem dX3_goesOn_23 : decode cX3_goesOn 23 = .ok (.invokevirtual 120, 3) := by decide +kernel
theorem dX3_goesOn_26 : decode cX3_goesOn 26 = .ok (.ifCond .eq 7, 3) := by decide +kernel
theorem dX3_goesOn_29 : decode cX3_goesOn 29 = .ok (.iconst 1, 1) := by decide +kernel
theorem dX3_goesOn_30 : decode cX3_goesOn 30 = .ok (.goto 4, 3) := by decide +kernel
theorem dX3_goesOn_33 : decode cX3_goesOn 33 = .ok (.iconst 0, 1) := by decide +kernel
theorem dX3_goesOn_34 : decode cX3_goesOn 34 = .ok (.ireturn, 1) := by decide +kernel
theorem dX4_init_0 : decode cX4_init 0 = .ok (.aload_n 0, 1) := by decide +kernel
theorem dX4_init_1 : decode cX4_init 1 = .ok (.invokespecial 5, 3) := by decide +kernel
theorem dX4_init_4 : decode cX4_init 4 = .ok (.iload 4, 2) := by decide +kernel
theorem dX4_init_6 : decode cX4_init 6 = .ok (.ifCond .ge 7, 3) := by decide +kernel
theorem dX4_init_9 : decode cX4_init 9 = .ok (.iconst 0, 1) := by decide +kernel
theorem dX4_init_10 : decode cX4_init 10 = .ok (.goto 5, 3) := by decide +kernel
theorem dX4_init_13 : decode cX4_init 13 = .ok (.iload 4, 2) := by decide +kernel
theorem dX4_init_15 : decode cX4_init 15 = .ok (.istore 5, 2) := by decide +kernel
theorem dX4_init_17 : decode cX4_init 17 = .ok (.aload_n 0, 1) := by decide +kernel
theorem dX4_init_18 : decode cX4_init 18 = .ok (.aload_n 1, 1) := by decide +kernel
theorem dX4_init_19 : decode cX4_init 19 = .ok (.iload 5, 2) := by decide +kernel
theorem dX4_init_21 : decode cX4_init 21 = .ok (.invokestatic 11, 3) := by decide +kernel
theorem dX4_init_24 : decode cX4_init 24 = .ok (.putfield 17, 3) := by decide +kernel
theorem dX4_init_27 : decode cX4_init 27 = .ok (.aload_n 0, 1) := by decide +kernel
theorem dX4_init_28 : decode cX4_init 28 = .ok (.aload_n 2, 1) := by decide +kernel
theorem dX4_init_29 : decode cX4_init 29 = .ok (.iload 5, 2) := by decide +kernel
theorem dX4_init_31 : decode cX4_init 31 = .ok (.invokestatic 11, 3) := by decide +kernel
theorem dX4_init_34 : decode cX4_init 34 = .ok (.putfield 21, 3) := by decide +kernel
theorem dX4_init_37 : decode cX4_init 37 = .ok (.aload_n 0, 1) := by decide +kernel
theorem dX4_init_38 : decode cX4_init 38 = .ok (.aload_n 3, 1) := by decide +kernel
theorem dX4_init_39 : decode cX4_init 39 = .ok (.iload 5, 2) := by decide +kernel
theorem dX4_init_41 : decode cX4_init 41 = .ok (.invokestatic 11, 3) := by decide +kernel
theorem dX4_init_44 : decode cX4_init 44 = .ok (.putfield 24, 3) := by decide +kernel
theorem dX4_init_47 : decode cX4_init 47 = .ok (.return_, 1) := by decide +kernel
theorem dX4_reference_0 : decode cX4_reference 0 = .ok (.iload_n 0, 1) := by decide +kernel
theorem dX4_reference_1 : decode cX4_reference 1 = .ok (.bipush 12, 2) := by decide +kernel
theorem dX4_reference_3 : decode cX4_reference 3 = .ok (.irem, 1) := by decide +kernel
theorem dX4_reference_4 : decode cX4_reference 4 = .ok (.istore 4, 2) := by decide +kernel
theorem dX4_reference_6 : decode cX4_reference 6 = .ok (.iload_n 0, 1) := by decide +kernel
theorem dX4_reference_7 : decode cX4_reference 7 = .ok (.bipush 12, 2) := by decide +kernel
theorem dX4_reference_9 : decode cX4_reference 9 = .ok (.idiv, 1) := by decide +kernel
theorem dX4_reference_10 : decode cX4_reference 10 = .ok (.istore 5, 2) := by decide +kernel
theorem dX4_reference_12 : decode cX4_reference 12 = .ok (.iconst 0, 1) := by decide +kernel
theorem dX4_reference_13 : decode cX4_reference 13 = .ok (.istore 6, 2) := by decide +kernel
theorem dX4_reference_15 : decode cX4_reference 15 = .ok (.iload 6, 2) := by decide +kernel
theorem dX4_reference_17 : decode cX4_reference 17 = .ok (.iload_n 1, 1) := by decide +kernel
theorem dX4_reference_18 : decode cX4_reference 18 = .ok (.ifCond .eq 16, 3) := by decide +kernel
theorem dX4_reference_21 : decode cX4_reference 21 = .ok (.sipush 8192, 3) := by decide +kernel
theorem dX4_reference_24 : decode cX4_reference 24 = .ok (.iload 4, 2) := by decide +kernel
theorem dX4_reference_26 : decode cX4_reference 26 = .ok (.sipush 128, 3) := by decide +kernel
theorem dX4_reference_29 : decode cX4_reference 29 = .ok (.imul, 1) := by decide +kernel
theorem dX4_reference_30 : decode cX4_reference 30 = .ok (.iadd, 1) := by decide +kernel
theorem dX4_reference_31 : decode cX4_reference 31 = .ok (.goto 17, 3) := by decide +kernel
theorem dX4_reference_34 : decode cX4_reference 34 = .ok (.iload 4, 2) := by decide +kernel
theorem dX4_reference_36 : decode cX4_reference 36 = .ok (.iload_n 3, 1) := by decide +kernel
theorem dX4_reference_37 : decode cX4_reference 37 = .ok (.bipush 12, 2) := by decide +kernel
theorem dX4_reference_39 : decode cX4_reference 39 = .ok (.irem, 1) := by decide +kernel
theorem dX4_reference_40 : decode cX4_reference 40 = .ok (.isub, 1) := by decide +kernel
theorem dX4_reference_41 : decode cX4_reference 41 = .ok (.bipush 32, 2) := by decide +kernel
theorem dX4_reference_43 : decode cX4_reference 43 = .ok (.iadd, 1) := by decide +kernel
theorem dX4_reference_44 : decode cX4_reference 44 = .ok (.sipush 128, 3) := by decide +kernel
theorem dX4_reference_47 : decode cX4_reference 47 = .ok (.imul, 1) := by decide +kernel
theorem dX4_reference_48 : decode cX4_reference 48 = .ok (.iadd, 1) := by decide +kernel
theorem dX4_reference_49 : decode cX4_reference 49 = .ok (.istore 6, 2) := by decide +kernel
theorem dX4_reference_51 : decode cX4_reference 51 = .ok (.iload 6, 2) := by decide +kernel
theorem dX4_reference_53 : decode cX4_reference 53 = .ok (.iload_n 2, 1) := by decide +kernel
theorem dX4_reference_54 : decode cX4_reference 54 = .ok (.ifCond .eq 11, 3) := by decide +kernel
theorem dX4_reference_57 : decode cX4_reference 57 = .ok (.bipush 64, 2) := by decide +kernel
theorem dX4_reference_59 : decode cX4_reference 59 = .ok (.iload 5, 2) := by decide +kernel
theorem dX4_reference_61 : decode cX4_reference 61 = .ok (.iadd, 1) := by decide +kernel
theorem dX4_reference_62 : decode cX4_reference 62 = .ok (.goto 13, 3) := by decide +kernel
theorem dX4_reference_65 : decode cX4_reference 65 = .ok (.iload 5, 2) := by decide +kernel
theorem dX4_reference_67 : decode cX4_reference 67 = .ok (.iload_n 3, 1) := by decide +kernel
theorem dX4_reference_68 : decode cX4_reference 68 = .ok (.bipush 12, 2) := by decide +kernel
theorem dX4_reference_70 : decode cX4_reference 70 = .ok (.idiv, 1) := by decide +kernel
theorem dX4_reference_71 : decode cX4_reference 71 = .ok (.isub, 1) := by decide +kernel
theorem dX4_reference_72 : decode cX4_reference 72 = .ok (.bipush 32, 2) := by decide +kernel
theorem dX4_reference_74 : decode cX4_reference 74 = .ok (.iadd, 1) := by decide +kernel
theorem dX4_reference_75 : decode cX4_reference 75 = .ok (.iadd, 1) := by decide +kernel
theorem dX4_reference_76 : decode cX4_reference 76 = .ok (.istore 6, 2) := by decide +kernel
theorem dX4_reference_78 : decode cX4_reference 78 = .ok (.iload 6, 2) := by decide +kernel
theorem dX4_reference_80 : decode cX4_reference 80 = .ok (.ireturn, 1) := by decide +kernel
theorem dX4_columnOf_0 : decode cX4_columnOf 0 = .ok (.iload_n 0, 1) := by decide +kernel
theorem dX4_columnOf_1 : decode cX4_columnOf 1 = .ok (.sipush 128, 3) := by decide +kernel
theorem dX4_columnOf_4 : decode cX4_columnOf 4 = .ok (.idiv, 1) := by decide +kernel
theorem dX4_columnOf_5 : decode cX4_columnOf 5 = .ok (.bipush 64, 2) := by decide +kernel
theorem dX4_columnOf_7 : decode cX4_columnOf 7 = .ok (.irem, 1) := by decide +kernel
theorem dX4_columnOf_8 : decode cX4_columnOf 8 = .ok (.istore_n 2, 1) := by decide +kernel
theorem dX4_columnOf_9 : decode cX4_columnOf 9 = .ok (.iload_n 0, 1) := by decide +kernel
theorem dX4_columnOf_10 : decode cX4_columnOf 10 = .ok (.sipush 8192, 3) := by decide +kernel
theorem dX4_columnOf_13 : decode cX4_columnOf 13 = .ok (.if_icmp .lt 7, 3) := by decide +kernel
theorem dX4_columnOf_16 : decode cX4_columnOf 16 = .ok (.iload_n 2, 1) := by decide +kernel
theorem dX4_columnOf_17 : decode cX4_columnOf 17 = .ok (.goto 12, 3) := by decide +kernel
theorem dX4_columnOf_20 : decode cX4_columnOf 20 = .ok (.iload_n 2, 1) := by decide +kernel
theorem dX4_columnOf_21 : decode cX4_columnOf 21 = .ok (.bipush 32, 2) := by decide +kernel
theorem dX4_columnOf_23 : decode cX4_columnOf 23 = .ok (.isub, 1) := by decide +kernel
theorem dX4_columnOf_24 : decode cX4_columnOf 24 = .ok (.iload_n 1, 1) := by decide +kernel
theorem dX4_columnOf_25 : decode cX4_columnOf 25 = .ok (.bipush 12, 2) := by decide +kernel
theorem dX4_columnOf_27 : decode cX4_columnOf 27 = .ok (.irem, 1) := by decide +kernel
theorem dX4_columnOf_28 : decode cX4_columnOf 28 = .ok (.iadd, 1) := by decide +kernel
theorem dX4_columnOf_29 : decode cX4_columnOf 29 = .ok (.ireturn, 1) := by decide +kernel
theorem dX4_rowOf_0 : decode cX4_rowOf 0 = .ok (.iload_n 0, 1) := by decide +kernel
theorem dX4_rowOf_1 : decode cX4_rowOf 1 = .ok (.bipush 64, 2) := by decide +kernel
theorem dX4_rowOf_3 : decode cX4_rowOf 3 = .ok (.irem, 1) := by decide +kernel
theorem dX4_rowOf_4 : decode cX4_rowOf 4 = .ok (.istore_n 2, 1) := by decide +kernel
theorem dX4_rowOf_5 : decode cX4_rowOf 5 = .ok (.iload_n 0, 1) := by decide +kernel
theorem dX4_rowOf_6 : decode cX4_rowOf 6 = .ok (.bipush 64, 2) := by decide +kernel
theorem dX4_rowOf_8 : decode cX4_rowOf 8 = .ok (.idiv, 1) := by decide +kernel
theorem dX4_rowOf_9 : decode cX4_rowOf 9 = .ok (.iconst 2, 1) := by decide +kernel
theorem dX4_rowOf_10 : decode cX4_rowOf 10 = .ok (.irem, 1) := by decide +kernel
theorem dX4_rowOf_11 : decode cX4_rowOf 11 = .ok (.iconst 1, 1) := by decide +kernel
theorem dX4_rowOf_12 : decode cX4_rowOf 12 = .ok (.if_icmp .ne 7, 3) := by decide +kernel
theorem dX4_rowOf_15 : decode cX4_rowOf 15 = .ok (.iload_n 2, 1) := by decide +kernel
theorem dX4_rowOf_16 : decode cX4_rowOf 16 = .ok (.goto 12, 3) := by decide +kernel
theorem dX4_rowOf_19 : decode cX4_rowOf 19 = .ok (.iload_n 2, 1) := by decide +kernel
theorem dX4_rowOf_20 : decode cX4_rowOf 20 = .ok (.bipush 32, 2) := by decide +kernel
theorem dX4_rowOf_22 : decode cX4_rowOf 22 = .ok (.isub, 1) := by decide +kernel
theorem dX4_rowOf_23 : decode cX4_rowOf 23 = .ok (.iload_n 1, 1) := by decide +kernel
theorem dX4_rowOf_24 : decode cX4_rowOf 24 = .ok (.bipush 12, 2) := by decide +kernel
theorem dX4_rowOf_26 : decode cX4_rowOf 26 = .ok (.idiv, 1) := by decide +kernel
theorem dX4_rowOf_27 : decode cX4_rowOf 27 = .ok (.iadd, 1) := by decide +kernel
theorem dX4_rowOf_28 : decode cX4_rowOf 28 = .ok (.ireturn, 1) := by decide +kernel
theorem dX4_size_0 : decode cX4_size 0 = .ok (.aload_n 0, 1) := by decide +kernel
theorem dX4_size_1 : decode cX4_size 1 = .ok (.getfield 17, 3) := by decide +kernel
theorem dX4_size_4 : decode cX4_size 4 = .ok (.arraylength, 1) := by decide +kernel
theorem dX4_size_5 : decode cX4_size 5 = .ok (.ireturn, 1) := by decide +kernel
theorem dX4_stepAt_0 : decode cX4_stepAt 0 = .ok (.iload_n 1, 1) := by decide +kernel
theorem dX4_stepAt_1 : decode cX4_stepAt 1 = .ok (.ifCond .lt 21, 3) := by decide +kernel
theorem dX4_stepAt_4 : decode cX4_stepAt 4 = .ok (.iload_n 1, 1) := by decide +kernel
theorem dX4_stepAt_5 : decode cX4_stepAt 5 = .ok (.aload_n 0, 1) := by decide +kernel
theorem dX4_stepAt_6 : decode cX4_stepAt 6 = .ok (.getfield 17, 3) := by decide +kernel
theorem dX4_stepAt_9 : decode cX4_stepAt 9 = .ok (.arraylength, 1) := by decide +kernel
theorem dX4_stepAt_10 : decode cX4_stepAt 10 = .ok (.if_icmp .ge 12, 3) := by decide +kernel
theorem dX4_stepAt_13 : decode cX4_stepAt 13 = .ok (.aload_n 0, 1) := by decide +kernel
theorem dX4_stepAt_14 : decode cX4_stepAt 14 = .ok (.getfield 17, 3) := by decide +kernel
theorem dX4_stepAt_17 : decode cX4_stepAt 17 = .ok (.iload_n 1, 1) := by decide +kernel
theorem dX4_stepAt_18 : decode cX4_stepAt 18 = .ok (.iaload, 1) := by decide +kernel
theorem dX4_stepAt_19 : decode cX4_stepAt 19 = .ok (.goto 4, 3) := by decide +kernel
theorem dX4_stepAt_22 : decode cX4_stepAt 22 = .ok (.iconst (-1), 1) := by decide +kernel
theorem dX4_stepAt_23 : decode cX4_stepAt 23 = .ok (.ireturn, 1) := by decide +kernel
theorem dX4_constantAt_0 : decode cX4_constantAt 0 = .ok (.iload_n 1, 1) := by decide +kernel
theorem dX4_constantAt_1 : decode cX4_constantAt 1 = .ok (.ifCond .lt 21, 3) := by decide +kernel
theorem dX4_constantAt_4 : decode cX4_constantAt 4 = .ok (.iload_n 1, 1) := by decide +kernel
theorem dX4_constantAt_5 : decode cX4_constantAt 5 = .ok (.aload_n 0, 1) := by decide +kernel
theorem dX4_constantAt_6 : decode cX4_constantAt 6 = .ok (.getfield 21, 3) := by decide +kernel
theorem dX4_constantAt_9 : decode cX4_constantAt 9 = .ok (.arraylength, 1) := by decide +kernel
theorem dX4_constantAt_10 : decode cX4_constantAt 10 = .ok (.if_icmp .ge 12, 3) := by decide +kernel
theorem dX4_constantAt_13 : decode cX4_constantAt 13 = .ok (.aload_n 0, 1) := by decide +kernel
theorem dX4_constantAt_14 : decode cX4_constantAt 14 = .ok (.getfield 21, 3) := by decide +kernel
theorem dX4_constantAt_17 : decode cX4_constantAt 17 = .ok (.iload_n 1, 1) := by decide +kernel
theorem dX4_constantAt_18 : decode cX4_constantAt 18 = .ok (.iaload, 1) := by decide +kernel
theorem dX4_constantAt_19 : decode cX4_constantAt 19 = .ok (.goto 4, 3) := by decide +kernel
theorem dX4_constantAt_22 : decode cX4_constantAt 22 = .ok (.iconst 0, 1) := by decide +kernel
theorem dX4_constantAt_23 : decode cX4_constantAt 23 = .ok (.ireturn, 1) := by decide +kernel
theorem dX4_readsAt_0 : decode cX4_readsAt 0 = .ok (.aload_n 0, 1) := by decide +kernel
theorem dX4_readsAt_1 : decode cX4_readsAt 1 = .ok (.iload_n 1, 1) := by decide +kernel
theorem dX4_readsAt_2 : decode cX4_readsAt 2 = .ok (.invokevirtual 27, 3) := by decide +kernel
theorem dX4_readsAt_5 : decode cX4_readsAt 5 = .ok (.istore_n 2, 1) := by decide +kernel
theorem dX4_readsAt_6 : decode cX4_readsAt 6 = .ok (.iload_n 2, 1) := by decide +kernel
theorem dX4_readsAt_7 : decode cX4_readsAt 7 = .ok (.iconst 1, 1) := by decide +kernel
theorem dX4_readsAt_8 : decode cX4_readsAt 8 = .ok (.if_icmp .eq 8, 3) := by decide +kernel
theorem dX4_readsAt_11 : decode cX4_readsAt 11 = .ok (.iload_n 2, 1) := by decide +kernel
theorem dX4_readsAt_12 : decode cX4_readsAt 12 = .ok (.iconst 2, 1) := by decide +kernel
theorem dX4_readsAt_13 : decode cX4_readsAt 13 = .ok (.if_icmp .ne 7, 3) := by decide +kernel
theorem dX4_readsAt_16 : decode cX4_readsAt 16 = .ok (.iconst 1, 1) := by decide +kernel
theorem dX4_readsAt_17 : decode cX4_readsAt 17 = .ok (.goto 4, 3) := by decide +kernel
theorem dX4_readsAt_20 : decode cX4_readsAt 20 = .ok (.iconst 0, 1) := by decide +kernel
theorem dX4_readsAt_21 : decode cX4_readsAt 21 = .ok (.ireturn, 1) := by decide +kernel
theorem dX4_left_0 : decode cX4_left 0 = .ok (.iload_n 1, 1) := by decide +kernel
theorem dX4_left_1 : decode cX4_left 1 = .ok (.ifCond .lt 25, 3) := by decide +kernel
theorem dX4_left_4 : decode cX4_left 4 = .ok (.iload_n 1, 1) := by decide +kernel
theorem dX4_left_5 : decode cX4_left 5 = .ok (.aload_n 0, 1) := by decide +kernel
theorem dX4_left_6 : decode cX4_left 6 = .ok (.getfield 21, 3) := by decide +kernel
theorem dX4_left_9 : decode cX4_left 9 = .ok (.arraylength, 1) := by decide +kernel
theorem dX4_left_10 : decode cX4_left 10 = .ok (.if_icmp .ge 16, 3) := by decide +kernel
theorem dX4_left_13 : decode cX4_left 13 = .ok (.aload_n 0, 1) := by decide +kernel
theorem dX4_left_14 : decode cX4_left 14 = .ok (.getfield 21, 3) := by decide +kernel
theorem dX4_left_17 : decode cX4_left 17 = .ok (.iload_n 1, 1) := by decide +kernel
theorem dX4_left_18 : decode cX4_left 18 = .ok (.iaload, 1) := by decide +kernel
theorem dX4_left_19 : decode cX4_left 19 = .ok (.iload_n 2, 1) := by decide +kernel
theorem dX4_left_20 : decode cX4_left 20 = .ok (.invokestatic 31, 3) := by decide +kernel
theorem dX4_left_23 : decode cX4_left 23 = .ok (.goto 4, 3) := by decide +kernel
theorem dX4_left_26 : decode cX4_left 26 = .ok (.iconst (-1), 1) := by decide +kernel
theorem dX4_left_27 : decode cX4_left 27 = .ok (.ireturn, 1) := by decide +kernel
theorem dX4_top_0 : decode cX4_top 0 = .ok (.iload_n 1, 1) := by decide +kernel
theorem dX4_top_1 : decode cX4_top 1 = .ok (.ifCond .lt 25, 3) := by decide +kernel
theorem dX4_top_4 : decode cX4_top 4 = .ok (.iload_n 1, 1) := by decide +kernel
theorem dX4_top_5 : decode cX4_top 5 = .ok (.aload_n 0, 1) := by decide +kernel
theorem dX4_top_6 : decode cX4_top 6 = .ok (.getfield 21, 3) := by decide +kernel
theorem dX4_top_9 : decode cX4_top 9 = .ok (.arraylength, 1) := by decide +kernel
theorem dX4_top_10 : decode cX4_top 10 = .ok (.if_icmp .ge 16, 3) := by decide +kernel
theorem dX4_top_13 : decode cX4_top 13 = .ok (.aload_n 0, 1) := by decide +kernel
theorem dX4_top_14 : decode cX4_top 14 = .ok (.getfield 21, 3) := by decide +kernel
theorem dX4_top_17 : decode cX4_top 17 = .ok (.iload_n 1, 1) := by decide +kernel
theorem dX4_top_18 : decode cX4_top 18 = .ok (.iaload, 1) := by decide +kernel
theorem dX4_top_19 : decode cX4_top 19 = .ok (.iload_n 2, 1) := by decide +kernel
theorem dX4_top_20 : decode cX4_top 20 = .ok (.invokestatic 35, 3) := by decide +kernel
theorem dX4_top_23 : decode cX4_top 23 = .ok (.goto 4, 3) := by decide +kernel
theorem dX4_top_26 : decode cX4_top 26 = .ok (.iconst (-1), 1) := by decide +kernel
theorem dX4_top_27 : decode cX4_top 27 = .ok (.ireturn, 1) := by decide +kernel
theorem dX4_right_0 : decode cX4_right 0 = .ok (.iload_n 1, 1) := by decide +kernel
theorem dX4_right_1 : decode cX4_right 1 = .ok (.ifCond .lt 25, 3) := by decide +kernel
theorem dX4_right_4 : decode cX4_right 4 = .ok (.iload_n 1, 1) := by decide +kernel
theorem dX4_right_5 : decode cX4_right 5 = .ok (.aload_n 0, 1) := by decide +kernel
theorem dX4_right_6 : decode cX4_right 6 = .ok (.getfield 24, 3) := by decide +kernel
theorem dX4_right_9 : decode cX4_right 9 = .ok (.arraylength, 1) := by decide +kernel
theorem dX4_right_10 : decode cX4_right 10 = .ok (.if_icmp .ge 16, 3) := by decide +kernel
theorem dX4_right_13 : decode cX4_right 13 = .ok (.aload_n 0, 1) := by decide +kernel
theorem dX4_right_14 : decode cX4_right 14 = .ok (.getfield 24, 3) := by decide +kernel
theorem dX4_right_17 : decode cX4_right 17 = .ok (.iload_n 1, 1) := by decide +kernel
theorem dX4_right_18 : decode cX4_right 18 = .ok (.iaload, 1) := by decide +kernel
theorem dX4_right_19 : decode cX4_right 19 = .ok (.iload_n 2, 1) := by decide +kernel
theorem dX4_right_20 : decode cX4_right 20 = .ok (.invokestatic 31, 3) := by decide +kernel
theorem dX4_right_23 : decode cX4_right 23 = .ok (.goto 4, 3) := by decide +kernel
theorem dX4_right_26 : decode cX4_right 26 = .ok (.iconst (-1), 1) := by decide +kernel
theorem dX4_right_27 : decode cX4_right 27 = .ok (.ireturn, 1) := by decide +kernel
theorem dX4_bottom_0 : decode cX4_bottom 0 = .ok (.iload_n 1, 1) := by decide +kernel
theorem dX4_bottom_1 : decode cX4_bottom 1 = .ok (.ifCond .lt 25, 3) := by decide +kernel
theorem dX4_bottom_4 : decode cX4_bottom 4 = .ok (.iload_n 1, 1) := by decide +kernel
theorem dX4_bottom_5 : decode cX4_bottom 5 = .ok (.aload_n 0, 1) := by decide +kernel
theorem dX4_bottom_6 : decode cX4_bottom 6 = .ok (.getfield 24, 3) := by decide +kernel
theorem dX4_bottom_9 : decode cX4_bottom 9 = .ok (.arraylength, 1) := by decide +kernel
theorem dX4_bottom_10 : decode cX4_bottom 10 = .ok (.if_icmp .ge 16, 3) := by decide +kernel
theorem dX4_bottom_13 : decode cX4_bottom 13 = .ok (.aload_n 0, 1) := by decide +kernel
theorem dX4_bottom_14 : decode cX4_bottom 14 = .ok (.getfield 24, 3) := by decide +kernel
theorem dX4_bottom_17 : decode cX4_bottom 17 = .ok (.iload_n 1, 1) := by decide +kernel
theorem dX4_bottom_18 : decode cX4_bottom 18 = .ok (.iaload, 1) := by decide +kernel
theorem dX4_bottom_19 : decode cX4_bottom 19 = .ok (.iload_n 2, 1) := by decide +kernel
theorem dX4_bottom_20 : decode cX4_bottom 20 = .ok (.invokestatic 35, 3) := by decide +kernel
theorem dX4_bottom_23 : decode cX4_bottom 23 = .ok (.goto 4, 3) := by decide +kernel
theorem dX4_bottom_26 : decode cX4_bottom 26 = .ok (.iconst (-1), 1) := by decide +kernel
theorem dX4_bottom_27 : decode cX4_bottom 27 = .ok (.ireturn, 1) := by decide +kernel
theorem dX4_listPlaces_0 : decode cX4_listPlaces 0 = .ok (.iconst 0, 1) := by decide +kernel
theorem dX4_listPlaces_1 : decode cX4_listPlaces 1 = .ok (.istore 4, 2) := by decide +kernel
theorem dX4_listPlaces_3 : decode cX4_listPlaces 3 = .ok (.aload_n 0, 1) := by decide +kernel
theorem dX4_listPlaces_4 : decode cX4_listPlaces 4 = .ok (.iload_n 1, 1) := by decide +kernel
theorem dX4_listPlaces_5 : decode cX4_listPlaces 5 = .ok (.iload_n 2, 1) := by decide +kernel
theorem dX4_listPlaces_6 : decode cX4_listPlaces 6 = .ok (.invokevirtual 38, 3) := by decide +kernel
theorem dX4_listPlaces_9 : decode cX4_listPlaces 9 = .ok (.istore 5, 2) := by decide +kernel
theorem dX4_listPlaces_11 : decode cX4_listPlaces 11 = .ok (.aload_n 0, 1) := by decide +kernel
theorem dX4_listPlaces_12 : decode cX4_listPlaces 12 = .ok (.iload_n 1, 1) := by decide +kernel
theorem dX4_listPlaces_13 : decode cX4_listPlaces 13 = .ok (.iload_n 2, 1) := by decide +kernel
theorem dX4_listPlaces_14 : decode cX4_listPlaces 14 = .ok (.invokevirtual 41, 3) := by decide +kernel
theorem dX4_listPlaces_17 : decode cX4_listPlaces 17 = .ok (.istore 6, 2) := by decide +kernel
theorem dX4_listPlaces_19 : decode cX4_listPlaces 19 = .ok (.aload_n 0, 1) := by decide +kernel
theorem dX4_listPlaces_20 : decode cX4_listPlaces 20 = .ok (.iload_n 1, 1) := by decide +kernel
theorem dX4_listPlaces_21 : decode cX4_listPlaces 21 = .ok (.iload_n 2, 1) := by decide +kernel
theorem dX4_listPlaces_22 : decode cX4_listPlaces 22 = .ok (.invokevirtual 44, 3) := by decide +kernel
theorem dX4_listPlaces_25 : decode cX4_listPlaces 25 = .ok (.istore 7, 2) := by decide +kernel
theorem dX4_listPlaces_27 : decode cX4_listPlaces 27 = .ok (.aload_n 0, 1) := by decide +kernel
theorem dX4_listPlaces_28 : decode cX4_listPlaces 28 = .ok (.iload_n 1, 1) := by decide +kernel
theorem dX4_listPlaces_29 : decode cX4_listPlaces 29 = .ok (.iload_n 2, 1) := by decide +kernel
theorem dX4_listPlaces_30 : decode cX4_listPlaces 30 = .ok (.invokevirtual 47, 3) := by decide +kernel
theorem dX4_listPlaces_33 : decode cX4_listPlaces 33 = .ok (.istore 8, 2) := by decide +kernel
theorem dX4_listPlaces_35 : decode cX4_listPlaces 35 = .ok (.iload 8, 2) := by decide +kernel
theorem dX4_listPlaces_37 : decode cX4_listPlaces 37 = .ok (.iload 7, 2) := by decide +kernel
theorem dX4_listPlaces_39 : decode cX4_listPlaces 39 = .ok (.if_icmp .gt 48, 3) := by decide +kernel
theorem dX4_listPlaces_42 : decode cX4_listPlaces 42 = .ok (.iload 5, 2) := by decide +kernel
theorem dX4_listPlaces_44 : decode cX4_listPlaces 44 = .ok (.istore 9, 2) := by decide +kernel
theorem dX4_listPlaces_46 : decode cX4_listPlaces 46 = .ok (.iload 9, 2) := by decide +kernel
theorem dX4_listPlaces_48 : decode cX4_listPlaces 48 = .ok (.iload 6, 2) := by decide +kernel
theorem dX4_listPlaces_50 : decode cX4_listPlaces 50 = .ok (.if_icmp .gt 31, 3) := by decide +kernel
theorem dX4_listPlaces_53 : decode cX4_listPlaces 53 = .ok (.iload 4, 2) := by decide +kernel
theorem dX4_listPlaces_55 : decode cX4_listPlaces 55 = .ok (.aload_n 3, 1) := by decide +kernel
theorem dX4_listPlaces_56 : decode cX4_listPlaces 56 = .ok (.arraylength, 1) := by decide +kernel
theorem dX4_listPlaces_57 : decode cX4_listPlaces 57 = .ok (.if_icmp .ge 24, 3) := by decide +kernel
theorem dX4_listPlaces_60 : decode cX4_listPlaces 60 = .ok (.aload_n 3, 1) := by decide +kernel
theorem dX4_listPlaces_61 : decode cX4_listPlaces 61 = .ok (.iload 4, 2) := by decide +kernel
theorem dX4_listPlaces_63 : decode cX4_listPlaces 63 = .ok (.iload 8, 2) := by decide +kernel
theorem dX4_listPlaces_65 : decode cX4_listPlaces 65 = .ok (.bipush 12, 2) := by decide +kernel
theorem dX4_listPlaces_67 : decode cX4_listPlaces 67 = .ok (.imul, 1) := by decide +kernel
theorem dX4_listPlaces_68 : decode cX4_listPlaces 68 = .ok (.iload 9, 2) := by decide +kernel
theorem dX4_listPlaces_70 : decode cX4_listPlaces 70 = .ok (.iadd, 1) := by decide +kernel
theorem dX4_listPlaces_71 : decode cX4_listPlaces 71 = .ok (.iastore, 1) := by decide +kernel
theorem dX4_listPlaces_72 : decode cX4_listPlaces 72 = .ok (.iinc 4 1, 3) := by decide +kernel
theorem dX4_listPlaces_75 : decode cX4_listPlaces 75 = .ok (.iinc 9 1, 3) := by decide +kernel
theorem dX4_listPlaces_78 : decode cX4_listPlaces 78 = .ok (.goto (-32), 3) := by decide +kernel
theorem dX4_listPlaces_81 : decode cX4_listPlaces 81 = .ok (.iinc 8 1, 3) := by decide +kernel
theorem dX4_listPlaces_84 : decode cX4_listPlaces 84 = .ok (.goto (-49), 3) := by decide +kernel
theorem dX4_listPlaces_87 : decode cX4_listPlaces 87 = .ok (.iload 4, 2) := by decide +kernel
theorem dX4_listPlaces_89 : decode cX4_listPlaces 89 = .ok (.ireturn, 1) := by decide +kernel
theorem dX4_stepOfSum_0 : decode cX4_stepOfSum 0 = .ok (.iconst 0, 1) := by decide +kernel
theorem dX4_stepOfSum_1 : decode cX4_stepOfSum 1 = .ok (.istore_n 2, 1) := by decide +kernel
theorem dX4_stepOfSum_2 : decode cX4_stepOfSum 2 = .ok (.iconst 0, 1) := by decide +kernel
theorem dX4_stepOfSum_3 : decode cX4_stepOfSum 3 = .ok (.istore_n 3, 1) := by decide +kernel
theorem dX4_stepOfSum_4 : decode cX4_stepOfSum 4 = .ok (.iload_n 3, 1) := by decide +kernel
theorem dX4_stepOfSum_5 : decode cX4_stepOfSum 5 = .ok (.aload_n 0, 1) := by decide +kernel
theorem dX4_stepOfSum_6 : decode cX4_stepOfSum 6 = .ok (.getfield 17, 3) := by decide +kernel
theorem dX4_stepOfSum_9 : decode cX4_stepOfSum 9 = .ok (.arraylength, 1) := by decide +kernel
theorem dX4_stepOfSum_10 : decode cX4_stepOfSum 10 = .ok (.if_icmp .ge 29, 3) := by decide +kernel
theorem dX4_stepOfSum_13 : decode cX4_stepOfSum 13 = .ok (.aload_n 0, 1) := by decide +kernel
theorem dX4_stepOfSum_14 : decode cX4_stepOfSum 14 = .ok (.getfield 17, 3) := by decide +kernel
theorem dX4_stepOfSum_17 : decode cX4_stepOfSum 17 = .ok (.iload_n 3, 1) := by decide +kernel
theorem dX4_stepOfSum_18 : decode cX4_stepOfSum 18 = .ok (.iaload, 1) := by decide +kernel
theorem dX4_stepOfSum_19 : decode cX4_stepOfSum 19 = .ok (.iconst 2, 1) := by decide +kernel
theorem dX4_stepOfSum_20 : decode cX4_stepOfSum 20 = .ok (.if_icmp .ne 13, 3) := by decide +kernel
theorem dX4_stepOfSum_23 : decode cX4_stepOfSum 23 = .ok (.iload_n 2, 1) := by decide +kernel
theorem dX4_stepOfSum_24 : decode cX4_stepOfSum 24 = .ok (.iload_n 1, 1) := by decide +kernel
theorem dX4_stepOfSum_25 : decode cX4_stepOfSum 25 = .ok (.if_icmp .ne 5, 3) := by decide +kernel
theorem dX4_stepOfSum_28 : decode cX4_stepOfSum 28 = .ok (.iload_n 3, 1) := by decide +kernel
theorem dX4_stepOfSum_29 : decode cX4_stepOfSum 29 = .ok (.ireturn, 1) := by decide +kernel
theorem dX4_stepOfSum_30 : decode cX4_stepOfSum 30 = .ok (.iinc 2 1, 3) := by decide +kernel
theorem dX4_stepOfSum_33 : decode cX4_stepOfSum 33 = .ok (.iinc 3 1, 3) := by decide +kernel
theorem dX4_stepOfSum_36 : decode cX4_stepOfSum 36 = .ok (.goto (-32), 3) := by decide +kernel
theorem dX4_stepOfSum_39 : decode cX4_stepOfSum 39 = .ok (.iconst (-1), 1) := by decide +kernel
theorem dX4_stepOfSum_40 : decode cX4_stepOfSum 40 = .ok (.ireturn, 1) := by decide +kernel
theorem dX4_isOfReadsAndPlus_0 : decode cX4_isOfReadsAndPlus 0 = .ok (.iconst 0, 1) := by decide +kernel
theorem dX4_isOfReadsAndPlus_1 : decode cX4_isOfReadsAndPlus 1 = .ok (.istore_n 1, 1) := by decide +kernel
theorem dX4_isOfReadsAndPlus_2 : decode cX4_isOfReadsAndPlus 2 = .ok (.iload_n 1, 1) := by decide +kernel
theorem dX4_isOfReadsAndPlus_3 : decode cX4_isOfReadsAndPlus 3 = .ok (.aload_n 0, 1) := by decide +kernel
theorem dX4_isOfReadsAndPlus_4 : decode cX4_isOfReadsAndPlus 4 = .ok (.getfield 17, 3) := by decide +kernel
theorem dX4_isOfReadsAndPlus_7 : decode cX4_isOfReadsAndPlus 7 = .ok (.arraylength, 1) := by decide +kernel
theorem dX4_isOfReadsAndPlus_8 : decode cX4_isOfReadsAndPlus 8 = .ok (.if_icmp .ge 41, 3) := by decide +kernel
theorem dX4_isOfReadsAndPlus_11 : decode cX4_isOfReadsAndPlus 11 = .ok (.aload_n 0, 1) := by decide +kernel
theorem dX4_isOfReadsAndPlus_12 : decode cX4_isOfReadsAndPlus 12 = .ok (.getfield 17, 3) := by decide +kernel
theorem dX4_isOfReadsAndPlus_15 : decode cX4_isOfReadsAndPlus 15 = .ok (.iload_n 1, 1) := by decide +kernel
theorem dX4_isOfReadsAndPlus_16 : decode cX4_isOfReadsAndPlus 16 = .ok (.iaload, 1) := by decide +kernel
theorem dX4_isOfReadsAndPlus_17 : decode cX4_isOfReadsAndPlus 17 = .ok (.iconst 1, 1) := by decide +kernel
theorem dX4_isOfReadsAndPlus_18 : decode cX4_isOfReadsAndPlus 18 = .ok (.if_icmp .eq 25, 3) := by decide +kernel
theorem dX4_isOfReadsAndPlus_21 : decode cX4_isOfReadsAndPlus 21 = .ok (.aload_n 0, 1) := by decide +kernel
theorem dX4_isOfReadsAndPlus_22 : decode cX4_isOfReadsAndPlus 22 = .ok (.getfield 17, 3) := by decide +kernel
theorem dX4_isOfReadsAndPlus_25 : decode cX4_isOfReadsAndPlus 25 = .ok (.iload_n 1, 1) := by decide +kernel
theorem dX4_isOfReadsAndPlus_26 : decode cX4_isOfReadsAndPlus 26 = .ok (.iaload, 1) := by decide +kernel
theorem dX4_isOfReadsAndPlus_27 : decode cX4_isOfReadsAndPlus 27 = .ok (.iconst 2, 1) := by decide +kernel
theorem dX4_isOfReadsAndPlus_28 : decode cX4_isOfReadsAndPlus 28 = .ok (.if_icmp .eq 15, 3) := by decide +kernel
theorem dX4_isOfReadsAndPlus_31 : decode cX4_isOfReadsAndPlus 31 = .ok (.aload_n 0, 1) := by decide +kernel
theorem dX4_isOfReadsAndPlus_32 : decode cX4_isOfReadsAndPlus 32 = .ok (.getfield 17, 3) := by decide +kernel
theorem dX4_isOfReadsAndPlus_35 : decode cX4_isOfReadsAndPlus 35 = .ok (.iload_n 1, 1) := by decide +kernel
theorem dX4_isOfReadsAndPlus_36 : decode cX4_isOfReadsAndPlus 36 = .ok (.iaload, 1) := by decide +kernel
theorem dX4_isOfReadsAndPlus_37 : decode cX4_isOfReadsAndPlus 37 = .ok (.iconst 5, 1) := by decide +kernel
theorem dX4_isOfReadsAndPlus_38 : decode cX4_isOfReadsAndPlus 38 = .ok (.if_icmp .eq 5, 3) := by decide +kernel
theorem dX4_isOfReadsAndPlus_41 : decode cX4_isOfReadsAndPlus 41 = .ok (.iconst 0, 1) := by decide +kernel
theorem dX4_isOfReadsAndPlus_42 : decode cX4_isOfReadsAndPlus 42 = .ok (.ireturn, 1) := by decide +kernel
theorem dX4_isOfReadsAndPlus_43 : decode cX4_isOfReadsAndPlus 43 = .ok (.iinc 1 1, 3) := by decide +kernel
theorem dX4_isOfReadsAndPlus_46 : decode cX4_isOfReadsAndPlus 46 = .ok (.goto (-44), 3) := by decide +kernel
theorem dX4_isOfReadsAndPlus_49 : decode cX4_isOfReadsAndPlus 49 = .ok (.iconst 1, 1) := by decide +kernel
theorem dX4_isOfReadsAndPlus_50 : decode cX4_isOfReadsAndPlus 50 = .ok (.ireturn, 1) := by decide +kernel
theorem dX4_isKinOf_0 : decode cX4_isKinOf 0 = .ok (.aload_n 1, 1) := by decide +kernel
theorem dX4_isKinOf_1 : decode cX4_isKinOf 1 = .ok (.getfield 17, 3) := by decide +kernel
theorem dX4_isKinOf_4 : decode cX4_isKinOf 4 = .ok (.arraylength, 1) := by decide +kernel
theorem dX4_isKinOf_5 : decode cX4_isKinOf 5 = .ok (.aload_n 0, 1) := by decide +kernel
theorem dX4_isKinOf_6 : decode cX4_isKinOf 6 = .ok (.getfield 17, 3) := by decide +kernel
theorem dX4_isKinOf_9 : decode cX4_isKinOf 9 = .ok (.arraylength, 1) := by decide +kernel
theorem dX4_isKinOf_10 : decode cX4_isKinOf 10 = .ok (.if_icmp .eq 5, 3) := by decide +kernel
theorem dX4_isKinOf_13 : decode cX4_isKinOf 13 = .ok (.iconst 0, 1) := by decide +kernel
theorem dX4_isKinOf_14 : decode cX4_isKinOf 14 = .ok (.ireturn, 1) := by decide +kernel
theorem dX4_isKinOf_15 : decode cX4_isKinOf 15 = .ok (.iconst 0, 1) := by decide +kernel
theorem dX4_isKinOf_16 : decode cX4_isKinOf 16 = .ok (.istore_n 2, 1) := by decide +kernel
theorem dX4_isKinOf_17 : decode cX4_isKinOf 17 = .ok (.iload_n 2, 1) := by decide +kernel
theorem dX4_isKinOf_18 : decode cX4_isKinOf 18 = .ok (.aload_n 0, 1) := by decide +kernel
theorem dX4_isKinOf_19 : decode cX4_isKinOf 19 = .ok (.getfield 17, 3) := by decide +kernel
theorem dX4_isKinOf_22 : decode cX4_isKinOf 22 = .ok (.arraylength, 1) := by decide +kernel
theorem dX4_isKinOf_23 : decode cX4_isKinOf 23 = .ok (.if_icmp .ge 56, 3) := by decide +kernel
theorem dX4_isKinOf_26 : decode cX4_isKinOf 26 = .ok (.aload_n 0, 1) := by decide +kernel
theorem dX4_isKinOf_27 : decode cX4_isKinOf 27 = .ok (.getfield 17, 3) := by decide +kernel
theorem dX4_isKinOf_30 : decode cX4_isKinOf 30 = .ok (.iload_n 2, 1) := by decide +kernel
theorem dX4_isKinOf_31 : decode cX4_isKinOf 31 = .ok (.iaload, 1) := by decide +kernel
theorem dX4_isKinOf_32 : decode cX4_isKinOf 32 = .ok (.aload_n 1, 1) := by decide +kernel
theorem dX4_isKinOf_33 : decode cX4_isKinOf 33 = .ok (.getfield 17, 3) := by decide +kernel
theorem dX4_isKinOf_36 : decode cX4_isKinOf 36 = .ok (.iload_n 2, 1) := by decide +kernel
theorem dX4_isKinOf_37 : decode cX4_isKinOf 37 = .ok (.iaload, 1) := by decide +kernel
theorem dX4_isKinOf_38 : decode cX4_isKinOf 38 = .ok (.if_icmp .ne 33, 3) := by decide +kernel
theorem dX4_isKinOf_41 : decode cX4_isKinOf 41 = .ok (.aload_n 0, 1) := by decide +kernel
theorem dX4_isKinOf_42 : decode cX4_isKinOf 42 = .ok (.getfield 21, 3) := by decide +kernel
theorem dX4_isKinOf_45 : decode cX4_isKinOf 45 = .ok (.iload_n 2, 1) := by decide +kernel
theorem dX4_isKinOf_46 : decode cX4_isKinOf 46 = .ok (.iaload, 1) := by decide +kernel
theorem dX4_isKinOf_47 : decode cX4_isKinOf 47 = .ok (.aload_n 1, 1) := by decide +kernel
theorem dX4_isKinOf_48 : decode cX4_isKinOf 48 = .ok (.getfield 21, 3) := by decide +kernel
theorem dX4_isKinOf_51 : decode cX4_isKinOf 51 = .ok (.iload_n 2, 1) := by decide +kernel
theorem dX4_isKinOf_52 : decode cX4_isKinOf 52 = .ok (.iaload, 1) := by decide +kernel
theorem dX4_isKinOf_53 : decode cX4_isKinOf 53 = .ok (.if_icmp .ne 18, 3) := by decide +kernel
theorem dX4_isKinOf_56 : decode cX4_isKinOf 56 = .ok (.aload_n 0, 1) := by decide +kernel
theorem dX4_isKinOf_57 : decode cX4_isKinOf 57 = .ok (.getfield 24, 3) := by decide +kernel
theorem dX4_isKinOf_60 : decode cX4_isKinOf 60 = .ok (.iload_n 2, 1) := by decide +kernel
theorem dX4_isKinOf_61 : decode cX4_isKinOf 61 = .ok (.iaload, 1) := by decide +kernel
theorem dX4_isKinOf_62 : decode cX4_isKinOf 62 = .ok (.aload_n 1, 1) := by decide +kernel
theorem dX4_isKinOf_63 : decode cX4_isKinOf 63 = .ok (.getfield 24, 3) := by decide +kernel
theorem dX4_isKinOf_66 : decode cX4_isKinOf 66 = .ok (.iload_n 2, 1) := by decide +kernel
theorem dX4_isKinOf_67 : decode cX4_isKinOf 67 = .ok (.iaload, 1) := by decide +kernel
theorem dX4_isKinOf_68 : decode cX4_isKinOf 68 = .ok (.if_icmp .eq 5, 3) := by decide +kernel
theorem dX4_isKinOf_71 : decode cX4_isKinOf 71 = .ok (.iconst 0, 1) := by decide +kernel
theorem dX4_isKinOf_72 : decode cX4_isKinOf 72 = .ok (.ireturn, 1) := by decide +kernel
theorem dX4_isKinOf_73 : decode cX4_isKinOf 73 = .ok (.iinc 2 1, 3) := by decide +kernel
theorem dX4_isKinOf_76 : decode cX4_isKinOf 76 = .ok (.goto (-59), 3) := by decide +kernel
theorem dX4_isKinOf_79 : decode cX4_isKinOf 79 = .ok (.iconst 1, 1) := by decide +kernel
theorem dX4_isKinOf_80 : decode cX4_isKinOf 80 = .ok (.ireturn, 1) := by decide +kernel
theorem dX4_fits_0 : decode cX4_fits 0 = .ok (.iconst 0, 1) := by decide +kernel
theorem dX4_fits_1 : decode cX4_fits 1 = .ok (.istore_n 2, 1) := by decide +kernel
theorem dX4_fits_2 : decode cX4_fits 2 = .ok (.iload_n 2, 1) := by decide +kernel
theorem dX4_fits_3 : decode cX4_fits 3 = .ok (.aload_n 0, 1) := by decide +kernel
theorem dX4_fits_4 : decode cX4_fits 4 = .ok (.getfield 17, 3) := by decide +kernel
theorem dX4_fits_7 : decode cX4_fits 7 = .ok (.arraylength, 1) := by decide +kernel
theorem dX4_fits_8 : decode cX4_fits 8 = .ok (.if_icmp .ge 28, 3) := by decide +kernel
theorem dX4_fits_11 : decode cX4_fits 11 = .ok (.aload_n 0, 1) := by decide +kernel
theorem dX4_fits_12 : decode cX4_fits 12 = .ok (.iload_n 2, 1) := by decide +kernel
theorem dX4_fits_13 : decode cX4_fits 13 = .ok (.invokevirtual 50, 3) := by decide +kernel
theorem dX4_fits_16 : decode cX4_fits 16 = .ok (.ifCond .eq 14, 3) := by decide +kernel
theorem dX4_fits_19 : decode cX4_fits 19 = .ok (.aload_n 0, 1) := by decide +kernel
theorem dX4_fits_20 : decode cX4_fits 20 = .ok (.iload_n 2, 1) := by decide +kernel
theorem dX4_fits_21 : decode cX4_fits 21 = .ok (.iload_n 1, 1) := by decide +kernel
theorem dX4_fits_22 : decode cX4_fits 22 = .ok (.invokevirtual 54, 3) := by decide +kernel
theorem dX4_fits_25 : decode cX4_fits 25 = .ok (.ifCond .ne 5, 3) := by decide +kernel
theorem dX4_fits_28 : decode cX4_fits 28 = .ok (.iconst 0, 1) := by decide +kernel
theorem dX4_fits_29 : decode cX4_fits 29 = .ok (.ireturn, 1) := by decide +kernel
theorem dX4_fits_30 : decode cX4_fits 30 = .ok (.iinc 2 1, 3) := by decide +kernel
theorem dX4_fits_33 : decode cX4_fits 33 = .ok (.goto (-31), 3) := by decide +kernel
theorem dX4_fits_36 : decode cX4_fits 36 = .ok (.iconst 1, 1) := by decide +kernel
theorem dX4_fits_37 : decode cX4_fits 37 = .ok (.ireturn, 1) := by decide +kernel
theorem dX4_spanFits_0 : decode cX4_spanFits 0 = .ok (.aload_n 0, 1) := by decide +kernel
theorem dX4_spanFits_1 : decode cX4_spanFits 1 = .ok (.iload_n 1, 1) := by decide +kernel
theorem dX4_spanFits_2 : decode cX4_spanFits 2 = .ok (.iload_n 2, 1) := by decide +kernel
theorem dX4_spanFits_3 : decode cX4_spanFits 3 = .ok (.invokevirtual 38, 3) := by decide +kernel
theorem dX4_spanFits_6 : decode cX4_spanFits 6 = .ok (.ifCond .lt 68, 3) := by decide +kernel
theorem dX4_spanFits_9 : decode cX4_spanFits 9 = .ok (.aload_n 0, 1) := by decide +kernel
theorem dX4_spanFits_10 : decode cX4_spanFits 10 = .ok (.iload_n 1, 1) := by decide +kernel
theorem dX4_spanFits_11 : decode cX4_spanFits 11 = .ok (.iload_n 2, 1) := by decide +kernel
theorem dX4_spanFits_12 : decode cX4_spanFits 12 = .ok (.invokevirtual 38, 3) := by decide +kernel
theorem dX4_spanFits_15 : decode cX4_spanFits 15 = .ok (.aload_n 0, 1) := by decide +kernel
theorem dX4_spanFits_16 : decode cX4_spanFits 16 = .ok (.iload_n 1, 1) := by decide +kernel
theorem dX4_spanFits_17 : decode cX4_spanFits 17 = .ok (.iload_n 2, 1) := by decide +kernel
theorem dX4_spanFits_18 : decode cX4_spanFits 18 = .ok (.invokevirtual 41, 3) := by decide +kernel
theorem dX4_spanFits_21 : decode cX4_spanFits 21 = .ok (.if_icmp .gt 53, 3) := by decide +kernel
theorem dX4_spanFits_24 : decode cX4_spanFits 24 = .ok (.aload_n 0, 1) := by decide +kernel
theorem dX4_spanFits_25 : decode cX4_spanFits 25 = .ok (.iload_n 1, 1) := by decide +kernel
theorem dX4_spanFits_26 : decode cX4_spanFits 26 = .ok (.iload_n 2, 1) := by decide +kernel
theorem dX4_spanFits_27 : decode cX4_spanFits 27 = .ok (.invokevirtual 41, 3) := by decide +kernel
theorem dX4_spanFits_30 : decode cX4_spanFits 30 = .ok (.bipush 12, 2) := by decide +kernel
theorem dX4_spanFits_32 : decode cX4_spanFits 32 = .ok (.if_icmp .ge 42, 3) := by decide +kernel
theorem dX4_spanFits_35 : decode cX4_spanFits 35 = .ok (.aload_n 0, 1) := by decide +kernel
theorem dX4_spanFits_36 : decode cX4_spanFits 36 = .ok (.iload_n 1, 1) := by decide +kernel
theorem dX4_spanFits_37 : decode cX4_spanFits 37 = .ok (.iload_n 2, 1) := by decide +kernel
theorem dX4_spanFits_38 : decode cX4_spanFits 38 = .ok (.invokevirtual 47, 3) := by decide +kernel
theorem dX4_spanFits_41 : decode cX4_spanFits 41 = .ok (.ifCond .lt 33, 3) := by decide +kernel
theorem dX4_spanFits_44 : decode cX4_spanFits 44 = .ok (.aload_n 0, 1) := by decide +kernel
theorem dX4_spanFits_45 : decode cX4_spanFits 45 = .ok (.iload_n 1, 1) := by decide +kernel
theorem dX4_spanFits_46 : decode cX4_spanFits 46 = .ok (.iload_n 2, 1) := by decide +kernel
theorem dX4_spanFits_47 : decode cX4_spanFits 47 = .ok (.invokevirtual 47, 3) := by decide +kernel
theorem dX4_spanFits_50 : decode cX4_spanFits 50 = .ok (.aload_n 0, 1) := by decide +kernel
theorem dX4_spanFits_51 : decode cX4_spanFits 51 = .ok (.iload_n 1, 1) := by decide +kernel
theorem dX4_spanFits_52 : decode cX4_spanFits 52 = .ok (.iload_n 2, 1) := by decide +kernel
theorem dX4_spanFits_53 : decode cX4_spanFits 53 = .ok (.invokevirtual 44, 3) := by decide +kernel
theorem dX4_spanFits_56 : decode cX4_spanFits 56 = .ok (.if_icmp .gt 18, 3) := by decide +kernel
theorem dX4_spanFits_59 : decode cX4_spanFits 59 = .ok (.aload_n 0, 1) := by decide +kernel
theorem dX4_spanFits_60 : decode cX4_spanFits 60 = .ok (.iload_n 1, 1) := by decide +kernel
theorem dX4_spanFits_61 : decode cX4_spanFits 61 = .ok (.iload_n 2, 1) := by decide +kernel
theorem dX4_spanFits_62 : decode cX4_spanFits 62 = .ok (.invokevirtual 44, 3) := by decide +kernel
theorem dX4_spanFits_65 : decode cX4_spanFits 65 = .ok (.bipush 24, 2) := by decide +kernel
theorem dX4_spanFits_67 : decode cX4_spanFits 67 = .ok (.if_icmp .ge 7, 3) := by decide +kernel
theorem dX4_spanFits_70 : decode cX4_spanFits 70 = .ok (.iconst 1, 1) := by decide +kernel
theorem dX4_spanFits_71 : decode cX4_spanFits 71 = .ok (.goto 4, 3) := by decide +kernel
theorem dX4_spanFits_74 : decode cX4_spanFits 74 = .ok (.iconst 0, 1) := by decide +kernel
theorem dX4_spanFits_75 : decode cX4_spanFits 75 = .ok (.ireturn, 1) := by decide +kernel
theorem dX4_stretched_0 : decode cX4_stretched 0 = .ok (.new 1, 3) := by decide +kernel
theorem dX4_stretched_3 : decode cX4_stretched 3 = .ok (.dup, 1) := by decide +kernel
theorem dX4_stretched_4 : decode cX4_stretched 4 = .ok (.aload_n 0, 1) := by decide +kernel
theorem dX4_stretched_5 : decode cX4_stretched 5 = .ok (.getfield 17, 3) := by decide +kernel
theorem dX4_stretched_8 : decode cX4_stretched 8 = .ok (.aload_n 0, 1) := by decide +kernel
theorem dX4_stretched_9 : decode cX4_stretched 9 = .ok (.getfield 21, 3) := by decide +kernel
theorem dX4_stretched_12 : decode cX4_stretched 12 = .ok (.aload_n 0, 1) := by decide +kernel
theorem dX4_stretched_13 : decode cX4_stretched 13 = .ok (.getfield 24, 3) := by decide +kernel
theorem dX4_stretched_16 : decode cX4_stretched 16 = .ok (.aload_n 0, 1) := by decide +kernel
theorem dX4_stretched_17 : decode cX4_stretched 17 = .ok (.getfield 17, 3) := by decide +kernel
theorem dX4_stretched_20 : decode cX4_stretched 20 = .ok (.arraylength, 1) := by decide +kernel
theorem dX4_stretched_21 : decode cX4_stretched 21 = .ok (.invokespecial 58, 3) := by decide +kernel
theorem dX4_stretched_24 : decode cX4_stretched 24 = .ok (.astore 4, 2) := by decide +kernel
theorem dX4_stretched_26 : decode cX4_stretched 26 = .ok (.iload_n 1, 1) := by decide +kernel
theorem dX4_stretched_27 : decode cX4_stretched 27 = .ok (.ifCond .lt 30, 3) := by decide +kernel
theorem dX4_stretched_30 : decode cX4_stretched 30 = .ok (.iload_n 1, 1) := by decide +kernel
theorem dX4_stretched_31 : decode cX4_stretched 31 = .ok (.aload 4, 2) := by decide +kernel
theorem dX4_stretched_33 : decode cX4_stretched 33 = .ok (.getfield 24, 3) := by decide +kernel
theorem dX4_stretched_36 : decode cX4_stretched 36 = .ok (.arraylength, 1) := by decide +kernel
theorem dX4_stretched_37 : decode cX4_stretched 37 = .ok (.if_icmp .ge 20, 3) := by decide +kernel
theorem dX4_stretched_40 : decode cX4_stretched 40 = .ok (.aload 4, 2) := by decide +kernel
theorem dX4_stretched_42 : decode cX4_stretched 42 = .ok (.getfield 24, 3) := by decide +kernel
theorem dX4_stretched_45 : decode cX4_stretched 45 = .ok (.iload_n 1, 1) := by decide +kernel
theorem dX4_stretched_46 : decode cX4_stretched 46 = .ok (.dup2, 1) := by decide +kernel
theorem dX4_stretched_47 : decode cX4_stretched 47 = .ok (.iaload, 1) := by decide +kernel
theorem dX4_stretched_48 : decode cX4_stretched 48 = .ok (.iload_n 2, 1) := by decide +kernel
theorem dX4_stretched_49 : decode cX4_stretched 49 = .ok (.iload_n 3, 1) := by decide +kernel
theorem dX4_stretched_50 : decode cX4_stretched 50 = .ok (.sipush 128, 3) := by decide +kernel
theorem dX4_stretched_53 : decode cX4_stretched 53 = .ok (.imul, 1) := by decide +kernel
theorem dX4_stretched_54 : decode cX4_stretched 54 = .ok (.iadd, 1) := by decide +kernel
theorem dX4_stretched_55 : decode cX4_stretched 55 = .ok (.iadd, 1) := by decide +kernel
theorem dX4_stretched_56 : decode cX4_stretched 56 = .ok (.iastore, 1) := by decide +kernel
theorem dX4_stretched_57 : decode cX4_stretched 57 = .ok (.aload 4, 2) := by decide +kernel
theorem dX4_stretched_59 : decode cX4_stretched 59 = .ok (.areturn, 1) := by decide +kernel
theorem dX5_init_0 : decode cX5_init 0 = .ok (.aload_n 0, 1) := by decide +kernel
theorem dX5_init_1 : decode cX5_init 1 = .ok (.invokespecial 3, 3) := by decide +kernel
theorem dX5_init_4 : decode cX5_init 4 = .ok (.aload_n 0, 1) := by decide +kernel
theorem dX5_init_5 : decode cX5_init 5 = .ok (.aload_n 1, 1) := by decide +kernel
theorem dX5_init_6 : decode cX5_init 6 = .ok (.putfield 9, 3) := by decide +kernel
theorem dX5_init_9 : decode cX5_init 9 = .ok (.aload_n 0, 1) := by decide +kernel
theorem dX5_init_10 : decode cX5_init 10 = .ok (.sipush 288, 3) := by decide +kernel
theorem dX5_init_13 : decode cX5_init 13 = .ok (.newarray .int, 2) := by decide +kernel
theorem dX5_init_15 : decode cX5_init 15 = .ok (.putfield 15, 3) := by decide +kernel
theorem dX5_init_18 : decode cX5_init 18 = .ok (.aload_n 0, 1) := by decide +kernel
theorem dX5_init_19 : decode cX5_init 19 = .ok (.iconst 5, 1) := by decide +kernel
theorem dX5_init_20 : decode cX5_init 20 = .ok (.newarray .long, 2) := by decide +kernel
theorem dX5_init_22 : decode cX5_init 22 = .ok (.putfield 19, 3) := by decide +kernel
theorem dX5_init_25 : decode cX5_init 25 = .ok (.aload_n 0, 1) := by decide +kernel
theorem dX5_init_26 : decode cX5_init 26 = .ok (.sipush 1440, 3) := by decide +kernel
theorem dX5_init_29 : decode cX5_init 29 = .ok (.newarray .long, 2) := by decide +kernel
theorem dX5_init_31 : decode cX5_init 31 = .ok (.putfield 23, 3) := by decide +kernel
theorem dX5_init_34 : decode cX5_init 34 = .ok (.aload_n 0, 1) := by decide +kernel
theorem dX5_init_35 : decode cX5_init 35 = .ok (.sipush 1440, 3) := by decide +kernel
theorem dX5_init_38 : decode cX5_init 38 = .ok (.newarray .long, 2) := by decide +kernel
theorem dX5_init_40 : decode cX5_init 40 = .ok (.putfield 26, 3) := by decide +kernel
theorem dX5_init_43 : decode cX5_init 43 = .ok (.aload_n 0, 1) := by decide +kernel
theorem dX5_init_44 : decode cX5_init 44 = .ok (.sipush 288, 3) := by decide +kernel
theorem dX5_init_47 : decode cX5_init 47 = .ok (.newarray .boolean, 2) := by decide +kernel
theorem dX5_init_49 : decode cX5_init 49 = .ok (.putfield 29, 3) := by decide +kernel
theorem dX5_init_52 : decode cX5_init 52 = .ok (.aload_n 0, 1) := by decide +kernel
theorem dX5_init_53 : decode cX5_init 53 = .ok (.sipush 288, 3) := by decide +kernel
theorem dX5_init_56 : decode cX5_init 56 = .ok (.newarray .int, 2) := by decide +kernel
theorem dX5_init_58 : decode cX5_init 58 = .ok (.putfield 33, 3) := by decide +kernel
theorem dX5_init_61 : decode cX5_init 61 = .ok (.aload_n 0, 1) := by decide +kernel
theorem dX5_init_62 : decode cX5_init 62 = .ok (.sipush 288, 3) := by decide +kernel
theorem dX5_init_65 : decode cX5_init 65 = .ok (.newarray .int, 2) := by decide +kernel
theorem dX5_init_67 : decode cX5_init 67 = .ok (.putfield 36, 3) := by decide +kernel
theorem dX5_init_70 : decode cX5_init 70 = .ok (.aload_n 0, 1) := by decide +kernel
theorem dX5_init_71 : decode cX5_init 71 = .ok (.sipush 288, 3) := by decide +kernel
theorem dX5_init_74 : decode cX5_init 74 = .ok (.newarray .int, 2) := by decide +kernel
theorem dX5_init_76 : decode cX5_init 76 = .ok (.putfield 39, 3) := by decide +kernel
theorem dX5_init_79 : decode cX5_init 79 = .ok (.aload_n 0, 1) := by decide +kernel
theorem dX5_init_80 : decode cX5_init 80 = .ok (.iconst (-1), 1) := by decide +kernel
theorem dX5_init_81 : decode cX5_init 81 = .ok (.putfield 42, 3) := by decide +kernel
theorem dX5_init_84 : decode cX5_init 84 = .ok (.return_, 1) := by decide +kernel
theorem dX5_settle_0 : decode cX5_settle 0 = .ok (.aload_n 0, 1) := by decide +kernel
theorem dX5_settle_1 : decode cX5_settle 1 = .ok (.getfield 42, 3) := by decide +kernel
theorem dX5_settle_4 : decode cX5_settle 4 = .ok (.aload_n 0, 1) := by decide +kernel
theorem dX5_settle_5 : decode cX5_settle 5 = .ok (.getfield 9, 3) := by decide +kernel
theorem dX5_settle_8 : decode cX5_settle 8 = .ok (.getfield 46, 3) := by decide +kernel
theorem dX5_settle_11 : decode cX5_settle 11 = .ok (.if_icmp .ne 4, 3) := by decide +kernel
theorem dX5_settle_14 : decode cX5_settle 14 = .ok (.return_, 1) := by decide +kernel
theorem dX5_settle_15 : decode cX5_settle 15 = .ok (.aload_n 0, 1) := by decide +kernel
theorem dX5_settle_16 : decode cX5_settle 16 = .ok (.aload_n 0, 1) := by decide +kernel
theorem dX5_settle_17 : decode cX5_settle 17 = .ok (.getfield 9, 3) := by decide +kernel
theorem dX5_settle_20 : decode cX5_settle 20 = .ok (.getfield 46, 3) := by decide +kernel
theorem dX5_settle_23 : decode cX5_settle 23 = .ok (.putfield 42, 3) := by decide +kernel
theorem dX5_settle_26 : decode cX5_settle 26 = .ok (.aload_n 0, 1) := by decide +kernel
theorem dX5_settle_27 : decode cX5_settle 27 = .ok (.invokevirtual 49, 3) := by decide +kernel
theorem dX5_settle_30 : decode cX5_settle 30 = .ok (.aload_n 0, 1) := by decide +kernel
theorem dX5_settle_31 : decode cX5_settle 31 = .ok (.invokevirtual 52, 3) := by decide +kernel
theorem dX5_settle_34 : decode cX5_settle 34 = .ok (.aload_n 0, 1) := by decide +kernel
theorem dX5_settle_35 : decode cX5_settle 35 = .ok (.iconst 0, 1) := by decide +kernel
theorem dX5_settle_36 : decode cX5_settle 36 = .ok (.putfield 55, 3) := by decide +kernel
theorem dX5_settle_39 : decode cX5_settle 39 = .ok (.iconst 0, 1) := by decide +kernel
theorem dX5_settle_40 : decode cX5_settle 40 = .ok (.istore_n 1, 1) := by decide +kernel
theorem dX5_settle_41 : decode cX5_settle 41 = .ok (.iload_n 1, 1) := by decide +kernel
theorem dX5_settle_42 : decode cX5_settle 42 = .ok (.aload_n 0, 1) := by decide +kernel
theorem dX5_settle_43 : decode cX5_settle 43 = .ok (.getfield 58, 3) := by decide +kernel
theorem dX5_settle_46 : decode cX5_settle 46 = .ok (.if_icmp .ge 41, 3) := by decide +kernel
theorem dX5_settle_49 : decode cX5_settle 49 = .ok (.aload_n 0, 1) := by decide +kernel
theorem dX5_settle_50 : decode cX5_settle 50 = .ok (.getfield 15, 3) := by decide +kernel
theorem dX5_settle_53 : decode cX5_settle 53 = .ok (.iload_n 1, 1) := by decide +kernel
theorem dX5_settle_54 : decode cX5_settle 54 = .ok (.iaload, 1) := by decide +kernel
theorem dX5_settle_55 : decode cX5_settle 55 = .ok (.istore_n 2, 1) := by decide +kernel
theorem dX5_settle_56 : decode cX5_settle 56 = .ok (.aload_n 0, 1) := by decide +kernel
theorem dX5_settle_57 : decode cX5_settle 57 = .ok (.getfield 33, 3) := by decide +kernel
theorem dX5_settle_60 : decode cX5_settle 60 = .ok (.iload_n 2, 1) := by decide +kernel
theorem dX5_settle_61 : decode cX5_settle 61 = .ok (.aload_n 0, 1) := by decide +kernel
theorem dX5_settle_62 : decode cX5_settle 62 = .ok (.iload_n 2, 1) := by decide +kernel
theorem dX5_settle_63 : decode cX5_settle 63 = .ok (.invokevirtual 61, 3) := by decide +kernel
theorem dX5_settle_66 : decode cX5_settle 66 = .ok (.iastore, 1) := by decide +kernel
theorem dX5_settle_67 : decode cX5_settle 67 = .ok (.aload_n 0, 1) := by decide +kernel
theorem dX5_settle_68 : decode cX5_settle 68 = .ok (.getfield 33, 3) := by decide +kernel
theorem dX5_settle_71 : decode cX5_settle 71 = .ok (.iload_n 2, 1) := by decide +kernel
theorem dX5_settle_72 : decode cX5_settle 72 = .ok (.iaload, 1) := by decide +kernel
theorem dX5_settle_73 : decode cX5_settle 73 = .ok (.ifCond .ne 8, 3) := by decide +kernel
theorem dX5_settle_76 : decode cX5_settle 76 = .ok (.aload_n 0, 1) := by decide +kernel
theorem dX5_settle_77 : decode cX5_settle 77 = .ok (.iload_n 2, 1) := by decide +kernel
theorem dX5_settle_78 : decode cX5_settle 78 = .ok (.invokevirtual 65, 3) := by decide +kernel
theorem dX5_settle_81 : decode cX5_settle 81 = .ok (.iinc 1 1, 3) := by decide +kernel
theorem dX5_settle_84 : decode cX5_settle 84 = .ok (.goto (-43), 3) := by decide +kernel
theorem dX5_settle_87 : decode cX5_settle 87 = .ok (.aload_n 0, 1) := by decide +kernel
theorem dX5_settle_88 : decode cX5_settle 88 = .ok (.iconst 0, 1) := by decide +kernel
theorem dX5_settle_89 : decode cX5_settle 89 = .ok (.invokevirtual 69, 3) := by decide +kernel
theorem dX5_settle_92 : decode cX5_settle 92 = .ok (.aload_n 0, 1) := by decide +kernel
theorem dX5_settle_93 : decode cX5_settle 93 = .ok (.getfield 55, 3) := by decide +kernel
theorem dX5_settle_96 : decode cX5_settle 96 = .ok (.aload_n 0, 1) := by decide +kernel
theorem dX5_settle_97 : decode cX5_settle 97 = .ok (.getfield 58, 3) := by decide +kernel
theorem dX5_settle_100 : decode cX5_settle 100 = .ok (.if_icmp .ge 17, 3) := by decide +kernel
theorem dX5_settle_103 : decode cX5_settle 103 = .ok (.aload_n 0, 1) := by decide +kernel
theorem dX5_settle_104 : decode cX5_settle 104 = .ok (.getfield 55, 3) := by decide +kernel
theorem dX5_settle_107 : decode cX5_settle 107 = .ok (.istore_n 1, 1) := by decide +kernel
theorem dX5_settle_108 : decode cX5_settle 108 = .ok (.aload_n 0, 1) := by decide +kernel
theorem dX5_settle_109 : decode cX5_settle 109 = .ok (.invokevirtual 72, 3) := by decide +kernel
theorem dX5_settle_112 : decode cX5_settle 112 = .ok (.aload_n 0, 1) := by decide +kernel
theorem dX5_settle_113 : decode cX5_settle 113 = .ok (.iload_n 1, 1) := by decide +kernel
theorem dX5_settle_114 : decode cX5_settle 114 = .ok (.invokevirtual 69, 3) := by decide +kernel
theorem dX5_settle_117 : decode cX5_settle 117 = .ok (.return_, 1) := by decide +kernel
theorem dX5_inRing_0 : decode cX5_inRing 0 = .ok (.iload_n 1, 1) := by decide +kernel
theorem dX5_inRing_1 : decode cX5_inRing 1 = .ok (.invokestatic 75, 3) := by decide +kernel
theorem dX5_inRing_4 : decode cX5_inRing 4 = .ok (.ifCond .eq 16, 3) := by decide +kernel
theorem dX5_inRing_7 : decode cX5_inRing 7 = .ok (.aload_n 0, 1) := by decide +kernel
theorem dX5_inRing_8 : decode cX5_inRing 8 = .ok (.getfield 29, 3) := by decide +kernel
theorem dX5_inRing_11 : decode cX5_inRing 11 = .ok (.iload_n 1, 1) := by decide +kernel
theorem dX5_inRing_12 : decode cX5_inRing 12 = .ok (.baload, 1) := by decide +kernel
theorem dX5_inRing_13 : decode cX5_inRing 13 = .ok (.ifCond .eq 7, 3) := by decide +kernel
theorem dX5_inRing_16 : decode cX5_inRing 16 = .ok (.iconst 1, 1) := by decide +kernel
theorem dX5_inRing_17 : decode cX5_inRing 17 = .ok (.goto 4, 3) := by decide +kernel
theorem dX5_inRing_20 : decode cX5_inRing 20 = .ok (.iconst 0, 1) := by decide +kernel
theorem dX5_inRing_21 : decode cX5_inRing 21 = .ok (.ireturn, 1) := by decide +kernel
theorem dX5_orderSize_0 : decode cX5_orderSize 0 = .ok (.aload_n 0, 1) := by decide +kernel
theorem dX5_orderSize_1 : decode cX5_orderSize 1 = .ok (.getfield 55, 3) := by decide +kernel
theorem dX5_orderSize_4 : decode cX5_orderSize 4 = .ok (.ireturn, 1) := by decide +kernel
theorem dX5_inOrder_0 : decode cX5_inOrder 0 = .ok (.iload_n 1, 1) := by decide +kernel
theorem dX5_inOrder_1 : decode cX5_inOrder 1 = .ok (.ifCond .lt 27, 3) := by decide +kernel
theorem dX5_inOrder_4 : decode cX5_inOrder 4 = .ok (.iload_n 1, 1) := by decide +kernel
theorem dX5_inOrder_5 : decode cX5_inOrder 5 = .ok (.aload_n 0, 1) := by decide +kernel
theorem dX5_inOrder_6 : decode cX5_inOrder 6 = .ok (.getfield 55, 3) := by decide +kernel
theorem dX5_inOrder_9 : decode cX5_inOrder 9 = .ok (.if_icmp .ge 19, 3) := by decide +kernel
theorem dX5_inOrder_12 : decode cX5_inOrder 12 = .ok (.iload_n 1, 1) := by decide +kernel
theorem dX5_inOrder_13 : decode cX5_inOrder 13 = .ok (.sipush 288, 3) := by decide +kernel
theorem dX5_inOrder_16 : decode cX5_inOrder 16 = .ok (.if_icmp .ge 12, 3) := by decide +kernel
theorem dX5_inOrder_19 : decode cX5_inOrder 19 = .ok (.aload_n 0, 1) := by decide +kernel
theorem dX5_inOrder_20 : decode cX5_inOrder 20 = .ok (.getfield 36, 3) := by decide +kernel
theorem dX5_inOrder_23 : decode cX5_inOrder 23 = .ok (.iload_n 1, 1) := by decide +kernel
theorem dX5_inOrder_24 : decode cX5_inOrder 24 = .ok (.iaload, 1) := by decide +kernel
theorem dX5_inOrder_25 : decode cX5_inOrder 25 = .ok (.goto 4, 3) := by decide +kernel
theorem dX5_inOrder_28 : decode cX5_inOrder 28 = .ok (.iconst (-1), 1) := by decide +kernel
theorem dX5_inOrder_29 : decode cX5_inOrder 29 = .ok (.ireturn, 1) := by decide +kernel
theorem dX5_cellsReadBy_0 : decode cX5_cellsReadBy 0 = .ok (.iconst 0, 1) := by decide +kernel
theorem dX5_cellsReadBy_1 : decode cX5_cellsReadBy 1 = .ok (.istore_n 2, 1) := by decide +kernel
theorem dX5_cellsReadBy_2 : decode cX5_cellsReadBy 2 = .ok (.iload_n 1, 1) := by decide +kernel
theorem dX5_cellsReadBy_3 : decode cX5_cellsReadBy 3 = .ok (.invokestatic 75, 3) := by decide +kernel
theorem dX5_cellsReadBy_6 : decode cX5_cellsReadBy 6 = .ok (.ifCond .eq 32, 3) := by decide +kernel
theorem dX5_cellsReadBy_9 : decode cX5_cellsReadBy 9 = .ok (.iconst 0, 1) := by decide +kernel
theorem dX5_cellsReadBy_10 : decode cX5_cellsReadBy 10 = .ok (.istore_n 3, 1) := by decide +kernel
theorem dX5_cellsReadBy_11 : decode cX5_cellsReadBy 11 = .ok (.iload_n 3, 1) := by decide +kernel
theorem dX5_cellsReadBy_12 : decode cX5_cellsReadBy 12 = .ok (.iconst 5, 1) := by decide +kernel
theorem dX5_cellsReadBy_13 : decode cX5_cellsReadBy 13 = .ok (.if_icmp .ge 25, 3) := by decide +kernel
theorem dX5_cellsReadBy_16 : decode cX5_cellsReadBy 16 = .ok (.iload_n 2, 1) := by decide +kernel
theorem dX5_cellsReadBy_17 : decode cX5_cellsReadBy 17 = .ok (.aload_n 0, 1) := by decide +kernel
theorem dX5_cellsReadBy_18 : decode cX5_cellsReadBy 18 = .ok (.getfield 23, 3) := by decide +kernel
theorem dX5_cellsReadBy_21 : decode cX5_cellsReadBy 21 = .ok (.iload_n 1, 1) := by decide +kernel
theorem dX5_cellsReadBy_22 : decode cX5_cellsReadBy 22 = .ok (.iconst 5, 1) := by decide +kernel
theorem dX5_cellsReadBy_23 : decode cX5_cellsReadBy 23 = .ok (.imul, 1) := by decide +kernel
theorem dX5_cellsReadBy_24 : decode cX5_cellsReadBy 24 = .ok (.iload_n 3, 1) := by decide +kernel
theorem dX5_cellsReadBy_25 : decode cX5_cellsReadBy 25 = .ok (.iadd, 1) := by decide +kernel
theorem dX5_cellsReadBy_26 : decode cX5_cellsReadBy 26 = .ok (.laload, 1) := by decide +kernel
theorem dX5_cellsReadBy_27 : decode cX5_cellsReadBy 27 = .ok (.invokestatic 79, 3) := by decide +kernel
theorem dX5_cellsReadBy_30 : decode cX5_cellsReadBy 30 = .ok (.iadd, 1) := by decide +kernel
theorem dX5_cellsReadBy_31 : decode cX5_cellsReadBy 31 = .ok (.istore_n 2, 1) := by decide +kernel
theorem dX5_cellsReadBy_32 : decode cX5_cellsReadBy 32 = .ok (.iinc 3 1, 3) := by decide +kernel
theorem dX5_cellsReadBy_35 : decode cX5_cellsReadBy 35 = .ok (.goto (-24), 3) := by decide +kernel
theorem dX5_cellsReadBy_38 : decode cX5_cellsReadBy 38 = .ok (.iload_n 2, 1) := by decide +kernel
theorem dX5_cellsReadBy_39 : decode cX5_cellsReadBy 39 = .ok (.ireturn, 1) := by decide +kernel
theorem dX5_readersOf_0 : decode cX5_readersOf 0 = .ok (.iconst 0, 1) := by decide +kernel
theorem dX5_readersOf_1 : decode cX5_readersOf 1 = .ok (.istore_n 2, 1) := by decide +kernel
theorem dX5_readersOf_2 : decode cX5_readersOf 2 = .ok (.iconst 0, 1) := by decide +kernel
theorem dX5_readersOf_3 : decode cX5_readersOf 3 = .ok (.istore_n 3, 1) := by decide +kernel
theorem dX5_readersOf_4 : decode cX5_readersOf 4 = .ok (.iload_n 3, 1) := by decide +kernel
theorem dX5_readersOf_5 : decode cX5_readersOf 5 = .ok (.aload_n 0, 1) := by decide +kernel
theorem dX5_readersOf_6 : decode cX5_readersOf 6 = .ok (.getfield 58, 3) := by decide +kernel
theorem dX5_readersOf_9 : decode cX5_readersOf 9 = .ok (.if_icmp .ge 29, 3) := by decide +kernel
theorem dX5_readersOf_12 : decode cX5_readersOf 12 = .ok (.aload_n 0, 1) := by decide +kernel
theorem dX5_readersOf_13 : decode cX5_readersOf 13 = .ok (.getfield 23, 3) := by decide +kernel
theorem dX5_readersOf_16 : decode cX5_readersOf 16 = .ok (.aload_n 0, 1) := by decide +kernel
theorem dX5_readersOf_17 : decode cX5_readersOf 17 = .ok (.getfield 15, 3) := by decide +kernel
theorem dX5_readersOf_20 : decode cX5_readersOf 20 = .ok (.iload_n 3, 1) := by decide +kernel
theorem dX5_readersOf_21 : decode cX5_readersOf 21 = .ok (.iaload, 1) := by decide +kernel
theorem dX5_readersOf_22 : decode cX5_readersOf 22 = .ok (.iload_n 1, 1) := by decide +kernel
theorem dX5_readersOf_23 : decode cX5_readersOf 23 = .ok (.invokestatic 85, 3) := by decide +kernel
theorem dX5_readersOf_26 : decode cX5_readersOf 26 = .ok (.ifCond .eq 6, 3) := by decide +kernel
theorem dX5_readersOf_29 : decode cX5_readersOf 29 = .ok (.iinc 2 1, 3) := by decide +kernel
theorem dX5_readersOf_32 : decode cX5_readersOf 32 = .ok (.iinc 3 1, 3) := by decide +kernel
theorem dX5_readersOf_35 : decode cX5_readersOf 35 = .ok (.goto (-31), 3) := by decide +kernel
theorem dX5_readersOf_38 : decode cX5_readersOf 38 = .ok (.iload_n 2, 1) := by decide +kernel
theorem dX5_readersOf_39 : decode cX5_readersOf 39 = .ok (.ireturn, 1) := by decide +kernel
theorem dX5_forgetReads_0 : decode cX5_forgetReads 0 = .ok (.iconst 0, 1) := by decide +kernel
theorem dX5_forgetReads_1 : decode cX5_forgetReads 1 = .ok (.istore_n 1, 1) := by decide +kernel
theorem dX5_forgetReads_2 : decode cX5_forgetReads 2 = .ok (.iload_n 1, 1) := by decide +kernel
theorem dX5_forgetReads_3 : decode cX5_forgetReads 3 = .ok (.aload_n 0, 1) := by decide +kernel
theorem dX5_forgetReads_4 : decode cX5_forgetReads 4 = .ok (.getfield 58, 3) := by decide +kernel
theorem dX5_forgetReads_7 : decode cX5_forgetReads 7 = .ok (.if_icmp .ge 38, 3) := by decide +kernel
theorem dX5_forgetReads_10 : decode cX5_forgetReads 10 = .ok (.iconst 0, 1) := by decide +kernel
theorem dX5_forgetReads_11 : decode cX5_forgetReads 11 = .ok (.istore_n 2, 1) := by decide +kernel
theorem dX5_forgetReads_12 : decode cX5_forgetReads 12 = .ok (.iload_n 2, 1) := by decide +kernel
theorem dX5_forgetReads_13 : decode cX5_forgetReads 13 = .ok (.iconst 5, 1) := by decide +kernel
theorem dX5_forgetReads_14 : decode cX5_forgetReads 14 = .ok (.if_icmp .ge 25, 3) := by decide +kernel
theorem dX5_forgetReads_17 : decode cX5_forgetReads 17 = .ok (.aload_n 0, 1) := by decide +kernel
theorem dX5_forgetReads_18 : decode cX5_forgetReads 18 = .ok (.getfield 23, 3) := by decide +kernel
theorem dX5_forgetReads_21 : decode cX5_forgetReads 21 = .ok (.aload_n 0, 1) := by decide +kernel
theorem dX5_forgetReads_22 : decode cX5_forgetReads 22 = .ok (.getfield 15, 3) := by decide +kernel
theorem dX5_forgetReads_25 : decode cX5_forgetReads 25 = .ok (.iload_n 1, 1) := by decide +kernel
theorem dX5_forgetReads_26 : decode cX5_forgetReads 26 = .ok (.iaload, 1) := by decide +kernel
theorem dX5_forgetReads_27 : decode cX5_forgetReads 27 = .ok (.iconst 5, 1) := by decide +kernel
theorem dX5_forgetReads_28 : decode cX5_forgetReads 28 = .ok (.imul, 1) := by decide +kernel
theorem dX5_forgetReads_29 : decode cX5_forgetReads 29 = .ok (.iload_n 2, 1) := by decide +kernel
theorem dX5_forgetReads_30 : decode cX5_forgetReads 30 = .ok (.iadd, 1) := by decide +kernel
theorem dX5_forgetReads_31 : decode cX5_forgetReads 31 = .ok (.lconst 0, 1) := by decide +kernel
theorem dX5_forgetReads_32 : decode cX5_forgetReads 32 = .ok (.lastore, 1) := by decide +kernel
theorem dX5_forgetReads_33 : decode cX5_forgetReads 33 = .ok (.iinc 2 1, 3) := by decide +kernel
theorem dX5_forgetReads_36 : decode cX5_forgetReads 36 = .ok (.goto (-24), 3) := by decide +kernel
theorem dX5_forgetReads_39 : decode cX5_forgetReads 39 = .ok (.iinc 1 1, 3) := by decide +kernel
theorem dX5_forgetReads_42 : decode cX5_forgetReads 42 = .ok (.goto (-40), 3) := by decide +kernel
theorem dX5_forgetReads_45 : decode cX5_forgetReads 45 = .ok (.iconst 0, 1) := by decide +kernel
theorem dX5_forgetReads_46 : decode cX5_forgetReads 46 = .ok (.istore_n 1, 1) := by decide +kernel
theorem dX5_forgetReads_47 : decode cX5_forgetReads 47 = .ok (.iload_n 1, 1) := by decide +kernel
theorem dX5_forgetReads_48 : decode cX5_forgetReads 48 = .ok (.iconst 5, 1) := by decide +kernel
theorem dX5_forgetReads_49 : decode cX5_forgetReads 49 = .ok (.if_icmp .ge 16, 3) := by decide +kernel
theorem dX5_forgetReads_52 : decode cX5_forgetReads 52 = .ok (.aload_n 0, 1) := by decide +kernel
theorem dX5_forgetReads_53 : decode cX5_forgetReads 53 = .ok (.getfield 19, 3) := by decide +kernel
theorem dX5_forgetReads_56 : decode cX5_forgetReads 56 = .ok (.iload_n 1, 1) := by decide +kernel
theorem dX5_forgetReads_57 : decode cX5_forgetReads 57 = .ok (.lconst 0, 1) := by decide +kernel
theorem dX5_forgetReads_58 : decode cX5_forgetReads 58 = .ok (.lastore, 1) := by decide +kernel
theorem dX5_forgetReads_59 : decode cX5_forgetReads 59 = .ok (.iinc 1 1, 3) := by decide +kernel
theorem dX5_forgetReads_62 : decode cX5_forgetReads 62 = .ok (.goto (-15), 3) := by decide +kernel
theorem dX5_forgetReads_65 : decode cX5_forgetReads 65 = .ok (.aload_n 0, 1) := by decide +kernel
theorem dX5_forgetReads_66 : decode cX5_forgetReads 66 = .ok (.iconst 0, 1) := by decide +kernel
theorem dX5_forgetReads_67 : decode cX5_forgetReads 67 = .ok (.putfield 58, 3) := by decide +kernel
theorem dX5_forgetReads_70 : decode cX5_forgetReads 70 = .ok (.return_, 1) := by decide +kernel
theorem dX5_gatherReads_0 : decode cX5_gatherReads 0 = .ok (.iconst 0, 1) := by decide +kernel
theorem dX5_gatherReads_1 : decode cX5_gatherReads 1 = .ok (.istore_n 1, 1) := by decide +kernel
theorem dX5_gatherReads_2 : decode cX5_gatherReads 2 = .ok (.iload_n 1, 1) := by decide +kernel
theorem dX5_gatherReads_3 : decode cX5_gatherReads 3 = .ok (.sipush 288, 3) := by decide +kernel
theorem dX5_gatherReads_6 : decode cX5_gatherReads 6 = .ok (.if_icmp .ge 81, 3) := by decide +kernel
theorem dX5_gatherReads_9 : decode cX5_gatherReads 9 = .ok (.aload_n 0, 1) := by decide +kernel
theorem dX5_gatherReads_10 : decode cX5_gatherReads 10 = .ok (.getfield 29, 3) := by decide +kernel
theorem dX5_gatherReads_13 : decode cX5_gatherReads 13 = .ok (.iload_n 1, 1) := by decide +kernel
theorem dX5_gatherReads_14 : decode cX5_gatherReads 14 = .ok (.iconst 0, 1) := by decide +kernel
theorem dX5_gatherReads_15 : decode cX5_gatherReads 15 = .ok (.bastore, 1) := by decide +kernel
theorem dX5_gatherReads_16 : decode cX5_gatherReads 16 = .ok (.aload_n 0, 1) := by decide +kernel
theorem dX5_gatherReads_17 : decode cX5_gatherReads 17 = .ok (.getfield 33, 3) := by decide +kernel
theorem dX5_gatherReads_20 : decode cX5_gatherReads 20 = .ok (.iload_n 1, 1) := by decide +kernel
theorem dX5_gatherReads_21 : decode cX5_gatherReads 21 = .ok (.iconst 0, 1) := by decide +kernel
theorem dX5_gatherReads_22 : decode cX5_gatherReads 22 = .ok (.iastore, 1) := by decide +kernel
theorem dX5_gatherReads_23 : decode cX5_gatherReads 23 = .ok (.aload_n 0, 1) := by decide +kernel
theorem dX5_gatherReads_24 : decode cX5_gatherReads 24 = .ok (.getfield 9, 3) := by decide +kernel
theorem dX5_gatherReads_27 : decode cX5_gatherReads 27 = .ok (.iload_n 1, 1) := by decide +kernel
theorem dX5_gatherReads_28 : decode cX5_gatherReads 28 = .ok (.invokevirtual 89, 3) := by decide +kernel
theorem dX5_gatherReads_31 : decode cX5_gatherReads 31 = .ok (.astore_n 2, 1) := by decide +kernel
theorem dX5_gatherReads_32 : decode cX5_gatherReads 32 = .ok (.aload_n 2, 1) := by decide +kernel
theorem dX5_gatherReads_33 : decode cX5_gatherReads 33 = .ok (.ifnull 48, 3) := by decide +kernel
theorem dX5_gatherReads_36 : decode cX5_gatherReads 36 = .ok (.aload_n 0, 1) := by decide +kernel
theorem dX5_gatherReads_37 : decode cX5_gatherReads 37 = .ok (.getfield 58, 3) := by decide +kernel
theorem dX5_gatherReads_40 : decode cX5_gatherReads 40 = .ok (.sipush 288, 3) := by decide +kernel
theorem dX5_gatherReads_43 : decode cX5_gatherReads 43 = .ok (.if_icmp .ge 38, 3) := by decide +kernel
theorem dX5_gatherReads_46 : decode cX5_gatherReads 46 = .ok (.aload_n 0, 1) := by decide +kernel
theorem dX5_gatherReads_47 : decode cX5_gatherReads 47 = .ok (.getfield 15, 3) := by decide +kernel
theorem dX5_gatherReads_50 : decode cX5_gatherReads 50 = .ok (.aload_n 0, 1) := by decide +kernel
theorem dX5_gatherReads_51 : decode cX5_gatherReads 51 = .ok (.getfield 58, 3) := by decide +kernel
theorem dX5_gatherReads_54 : decode cX5_gatherReads 54 = .ok (.iload_n 1, 1) := by decide +kernel
theorem dX5_gatherReads_55 : decode cX5_gatherReads 55 = .ok (.iastore, 1) := by decide +kernel
theorem dX5_gatherReads_56 : decode cX5_gatherReads 56 = .ok (.aload_n 0, 1) := by decide +kernel
theorem dX5_gatherReads_57 : decode cX5_gatherReads 57 = .ok (.dup, 1) := by decide +kernel
theorem dX5_gatherReads_58 : decode cX5_gatherReads 58 = .ok (.getfield 58, 3) := by decide +kernel
theorem dX5_gatherReads_61 : decode cX5_gatherReads 61 = .ok (.iconst 1, 1) := by decide +kernel
theorem dX5_gatherReads_62 : decode cX5_gatherReads 62 = .ok (.iadd, 1) := by decide +kernel
theorem dX5_gatherReads_63 : decode cX5_gatherReads 63 = .ok (.putfield 58, 3) := by decide +kernel
theorem dX5_gatherReads_66 : decode cX5_gatherReads 66 = .ok (.aload_n 0, 1) := by decide +kernel
theorem dX5_gatherReads_67 : decode cX5_gatherReads 67 = .ok (.getfield 19, 3) := by decide +kernel
theorem dX5_gatherReads_70 : decode cX5_gatherReads 70 = .ok (.iconst 0, 1) := by decide +kernel
theorem dX5_gatherReads_71 : decode cX5_gatherReads 71 = .ok (.iload_n 1, 1) := by decide +kernel
theorem dX5_gatherReads_72 : decode cX5_gatherReads 72 = .ok (.invokestatic 93, 3) := by decide +kernel
theorem dX5_gatherReads_75 : decode cX5_gatherReads 75 = .ok (.aload_n 0, 1) := by decide +kernel
theorem dX5_gatherReads_76 : decode cX5_gatherReads 76 = .ok (.iload_n 1, 1) := by decide +kernel
theorem dX5_gatherReads_77 : decode cX5_gatherReads 77 = .ok (.aload_n 2, 1) := by decide +kernel
theorem dX5_gatherReads_78 : decode cX5_gatherReads 78 = .ok (.invokevirtual 97, 3) := by decide +kernel
theorem dX5_gatherReads_81 : decode cX5_gatherReads 81 = .ok (.iinc 1 1, 3) := by decide +kernel
theorem dX5_gatherReads_84 : decode cX5_gatherReads 84 = .ok (.goto (-82), 3) := by decide +kernel
theorem dX5_gatherReads_87 : decode cX5_gatherReads 87 = .ok (.return_, 1) := by decide +kernel
theorem dX5_gatherReadsOf_0 : decode cX5_gatherReadsOf 0 = .ok (.iconst 0, 1) := by decide +kernel
theorem dX5_gatherReadsOf_1 : decode cX5_gatherReadsOf 1 = .ok (.istore_n 3, 1) := by decide +kernel
theorem dX5_gatherReadsOf_2 : decode cX5_gatherReadsOf 2 = .ok (.iload_n 3, 1) := by decide +kernel
theorem dX5_gatherReadsOf_3 : decode cX5_gatherReadsOf 3 = .ok (.aload_n 2, 1) := by decide +kernel
theorem dX5_gatherReadsOf_4 : decode cX5_gatherReadsOf 4 = .ok (.invokevirtual 101, 3) := by decide +kernel
theorem dX5_gatherReadsOf_7 : decode cX5_gatherReadsOf 7 = .ok (.if_icmp .ge 72, 3) := by decide +kernel
theorem dX5_gatherReadsOf_10 : decode cX5_gatherReadsOf 10 = .ok (.aload_n 2, 1) := by decide +kernel
theorem dX5_gatherReadsOf_11 : decode cX5_gatherReadsOf 11 = .ok (.iload_n 3, 1) := by decide +kernel
theorem dX5_gatherReadsOf_12 : decode cX5_gatherReadsOf 12 = .ok (.invokevirtual 107, 3) := by decide +kernel
theorem dX5_gatherReadsOf_15 : decode cX5_gatherReadsOf 15 = .ok (.ifCond .eq 16, 3) := by decide +kernel
theorem dX5_gatherReadsOf_18 : decode cX5_gatherReadsOf 18 = .ok (.aload_n 2, 1) := by decide +kernel
theorem dX5_gatherReadsOf_19 : decode cX5_gatherReadsOf 19 = .ok (.iload_n 3, 1) := by decide +kernel
theorem dX5_gatherReadsOf_20 : decode cX5_gatherReadsOf 20 = .ok (.iload_n 1, 1) := by decide +kernel
theorem dX5_gatherReadsOf_21 : decode cX5_gatherReadsOf 21 = .ok (.aload_n 0, 1) := by decide +kernel
theorem dX5_gatherReadsOf_22 : decode cX5_gatherReadsOf 22 = .ok (.getfield 39, 3) := by decide +kernel
theorem dX5_gatherReadsOf_25 : decode cX5_gatherReadsOf 25 = .ok (.invokevirtual 110, 3) := by decide +kernel
theorem dX5_gatherReadsOf_28 : decode cX5_gatherReadsOf 28 = .ok (.goto 4, 3) := by decide +kernel
theorem dX5_gatherReadsOf_31 : decode cX5_gatherReadsOf 31 = .ok (.iconst 0, 1) := by decide +kernel
theorem dX5_gatherReadsOf_32 : decode cX5_gatherReadsOf 32 = .ok (.istore 4, 2) := by decide +kernel
theorem dX5_gatherReadsOf_34 : decode cX5_gatherReadsOf 34 = .ok (.iconst 0, 1) := by decide +kernel
theorem dX5_gatherReadsOf_35 : decode cX5_gatherReadsOf 35 = .ok (.istore 5, 2) := by decide +kernel
theorem dX5_gatherReadsOf_37 : decode cX5_gatherReadsOf 37 = .ok (.iload 5, 2) := by decide +kernel
theorem dX5_gatherReadsOf_39 : decode cX5_gatherReadsOf 39 = .ok (.iload 4, 2) := by decide +kernel
theorem dX5_gatherReadsOf_41 : decode cX5_gatherReadsOf 41 = .ok (.if_icmp .ge 32, 3) := by decide +kernel
theorem dX5_gatherReadsOf_44 : decode cX5_gatherReadsOf 44 = .ok (.iload 5, 2) := by decide +kernel
theorem dX5_gatherReadsOf_46 : decode cX5_gatherReadsOf 46 = .ok (.sipush 288, 3) := by decide +kernel
theorem dX5_gatherReadsOf_49 : decode cX5_gatherReadsOf 49 = .ok (.if_icmp .ge 24, 3) := by decide +kernel
theorem dX5_gatherReadsOf_52 : decode cX5_gatherReadsOf 52 = .ok (.aload_n 0, 1) := by decide +kernel
theorem dX5_gatherReadsOf_53 : decode cX5_gatherReadsOf 53 = .ok (.getfield 23, 3) := by decide +kernel
theorem dX5_gatherReadsOf_56 : decode cX5_gatherReadsOf 56 = .ok (.iload_n 1, 1) := by decide +kernel
theorem dX5_gatherReadsOf_57 : decode cX5_gatherReadsOf 57 = .ok (.aload_n 0, 1) := by decide +kernel
theorem dX5_gatherReadsOf_58 : decode cX5_gatherReadsOf 58 = .ok (.getfield 39, 3) := by decide +kernel
theorem dX5_gatherReadsOf_61 : decode cX5_gatherReadsOf 61 = .ok (.iload 5, 2) := by decide +kernel
theorem dX5_gatherReadsOf_63 : decode cX5_gatherReadsOf 63 = .ok (.iaload, 1) := by decide +kernel
theorem dX5_gatherReadsOf_64 : decode cX5_gatherReadsOf 64 = .ok (.invokestatic 93, 3) := by decide +kernel
theorem dX5_gatherReadsOf_67 : decode cX5_gatherReadsOf 67 = .ok (.iinc 5 1, 3) := by decide +kernel
theorem dX5_gatherReadsOf_70 : decode cX5_gatherReadsOf 70 = .ok (.goto (-33), 3) := by decide +kernel
theorem dX5_gatherReadsOf_73 : decode cX5_gatherReadsOf 73 = .ok (.iinc 3 1, 3) := by decide +kernel
theorem dX5_gatherReadsOf_76 : decode cX5_gatherReadsOf 76 = .ok (.goto (-74), 3) := by decide +kernel
theorem dX5_gatherReadsOf_79 : decode cX5_gatherReadsOf 79 = .ok (.return_, 1) := by decide +kernel
theorem dX5_formulasReadBy_0 : decode cX5_formulasReadBy 0 = .ok (.iconst 0, 1) := by decide +kernel
theorem dX5_formulasReadBy_1 : decode cX5_formulasReadBy 1 = .ok (.istore_n 2, 1) := by decide +kernel
theorem dX5_formulasReadBy_2 : decode cX5_formulasReadBy 2 = .ok (.iconst 0, 1) := by decide +kernel
theorem dX5_formulasReadBy_3 : decode cX5_formulasReadBy 3 = .ok (.istore_n 3, 1) := by decide +kernel
theorem dX5_formulasReadBy_4 : decode cX5_formulasReadBy 4 = .ok (.iload_n 3, 1) := by decide +kernel
theorem dX5_formulasReadBy_5 : decode cX5_formulasReadBy 5 = .ok (.iconst 5, 1) := by decide +kernel
theorem dX5_formulasReadBy_6 : decode cX5_formulasReadBy 6 = .ok (.if_icmp .ge 32, 3) := by decide +kernel
theorem dX5_formulasReadBy_9 : decode cX5_formulasReadBy 9 = .ok (.iload_n 2, 1) := by decide +kernel
theorem dX5_formulasReadBy_10 : decode cX5_formulasReadBy 10 = .ok (.aload_n 0, 1) := by decide +kernel
theorem dX5_formulasReadBy_11 : decode cX5_formulasReadBy 11 = .ok (.getfield 23, 3) := by decide +kernel
theorem dX5_formulasReadBy_14 : decode cX5_formulasReadBy 14 = .ok (.iload_n 1, 1) := by decide +kernel
theorem dX5_formulasReadBy_15 : decode cX5_formulasReadBy 15 = .ok (.iconst 5, 1) := by decide +kernel
theorem dX5_formulasReadBy_16 : decode cX5_formulasReadBy 16 = .ok (.imul, 1) := by decide +kernel
theorem dX5_formulasReadBy_17 : decode cX5_formulasReadBy 17 = .ok (.iload_n 3, 1) := by decide +kernel
theorem dX5_formulasReadBy_18 : decode cX5_formulasReadBy 18 = .ok (.iadd, 1) := by decide +kernel
theorem dX5_formulasReadBy_19 : decode cX5_formulasReadBy 19 = .ok (.laload, 1) := by decide +kernel
theorem dX5_formulasReadBy_20 : decode cX5_formulasReadBy 20 = .ok (.aload_n 0, 1) := by decide +kernel
theorem dX5_formulasReadBy_21 : decode cX5_formulasReadBy 21 = .ok (.getfield 19, 3) := by decide +kernel
theorem dX5_formulasReadBy_24 : decode cX5_formulasReadBy 24 = .ok (.iload_n 3, 1) := by decide +kernel
theorem dX5_formulasReadBy_25 : decode cX5_formulasReadBy 25 = .ok (.laload, 1) := by decide +kernel
theorem dX5_formulasReadBy_26 : decode cX5_formulasReadBy 26 = .ok (.land, 1) := by decide +kernel
theorem dX5_formulasReadBy_27 : decode cX5_formulasReadBy 27 = .ok (.invokestatic 79, 3) := by decide +kernel
theorem dX5_formulasReadBy_30 : decode cX5_formulasReadBy 30 = .ok (.iadd, 1) := by decide +kernel
theorem dX5_formulasReadBy_31 : decode cX5_formulasReadBy 31 = .ok (.istore_n 2, 1) := by decide +kernel
theorem dX5_formulasReadBy_32 : decode cX5_formulasReadBy 32 = .ok (.iinc 3 1, 3) := by decide +kernel
theorem dX5_formulasReadBy_35 : decode cX5_formulasReadBy 35 = .ok (.goto (-31), 3) := by decide +kernel
theorem dX5_formulasReadBy_38 : decode cX5_formulasReadBy 38 = .ok (.iload_n 2, 1) := by decide +kernel
theorem dX5_formulasReadBy_39 : decode cX5_formulasReadBy 39 = .ok (.ireturn, 1) := by decide +kernel
theorem dX5_appendToOrder_0 : decode cX5_appendToOrder 0 = .ok (.aload_n 0, 1) := by decide +kernel
theorem dX5_appendToOrder_1 : decode cX5_appendToOrder 1 = .ok (.getfield 55, 3) := by decide +kernel
theorem dX5_appendToOrder_4 : decode cX5_appendToOrder 4 = .ok (.sipush 288, 3) := by decide +kernel
theorem dX5_appendToOrder_7 : decode cX5_appendToOrder 7 = .ok (.if_icmp .ge 23, 3) := by decide +kernel
theorem dX5_appendToOrder_10 : decode cX5_appendToOrder 10 = .ok (.aload_n 0, 1) := by decide +kernel
theorem dX5_appendToOrder_11 : decode cX5_appendToOrder 11 = .ok (.getfield 36, 3) := by decide +kernel
theorem dX5_appendToOrder_14 : decode cX5_appendToOrder 14 = .ok (.aload_n 0, 1) := by decide +kernel
theorem dX5_appendToOrder_15 : decode cX5_appendToOrder 15 = .ok (.getfield 55, 3) := by decide +kernel
theorem dX5_appendToOrder_18 : decode cX5_appendToOrder 18 = .ok (.iload_n 1, 1) := by decide +kernel
theorem dX5_appendToOrder_19 : decode cX5_appendToOrder 19 = .ok (.iastore, 1) := by decide +kernel
theorem dX5_appendToOrder_20 : decode cX5_appendToOrder 20 = .ok (.aload_n 0, 1) := by decide +kernel
theorem dX5_appendToOrder_21 : decode cX5_appendToOrder 21 = .ok (.dup, 1) := by decide +kernel
theorem dX5_appendToOrder_22 : decode cX5_appendToOrder 22 = .ok (.getfield 55, 3) := by decide +kernel
theorem dX5_appendToOrder_25 : decode cX5_appendToOrder 25 = .ok (.iconst 1, 1) := by decide +kernel
theorem dX5_appendToOrder_26 : decode cX5_appendToOrder 26 = .ok (.iadd, 1) := by decide +kernel
theorem dX5_appendToOrder_27 : decode cX5_appendToOrder 27 = .ok (.putfield 55, 3) := by decide +kernel
theorem dX5_appendToOrder_30 : decode cX5_appendToOrder 30 = .ok (.return_, 1) := by decide +kernel
theorem dX5_release_0 : decode cX5_release 0 = .ok (.iload_n 1, 1) := by decide +kernel
theorem dX5_release_1 : decode cX5_release 1 = .ok (.istore_n 2, 1) := by decide +kernel
theorem dX5_release_2 : decode cX5_release 2 = .ok (.iload_n 2, 1) := by decide +kernel
theorem dX5_release_3 : decode cX5_release 3 = .ok (.aload_n 0, 1) := by decide +kernel
theorem dX5_release_4 : decode cX5_release 4 = .ok (.getfield 55, 3) := by decide +kernel
theorem dX5_release_7 : decode cX5_release 7 = .ok (.if_icmp .ge 95, 3) := by decide +kernel
theorem dX5_release_10 : decode cX5_release 10 = .ok (.iload_n 2, 1) := by decide +kernel
theorem dX5_release_11 : decode cX5_release 11 = .ok (.sipush 288, 3) := by decide +kernel
theorem dX5_release_14 : decode cX5_release 14 = .ok (.if_icmp .ge 88, 3) := by decide +kernel
theorem dX5_release_17 : decode cX5_release 17 = .ok (.iconst 0, 1) := by decide +kernel
theorem dX5_release_18 : decode cX5_release 18 = .ok (.istore_n 3, 1) := by decide +kernel
theorem dX5_release_19 : decode cX5_release 19 = .ok (.iload_n 3, 1) := by decide +kernel
theorem dX5_release_20 : decode cX5_release 20 = .ok (.aload_n 0, 1) := by decide +kernel
theorem dX5_release_21 : decode cX5_release 21 = .ok (.getfield 58, 3) := by decide +kernel
theorem dX5_release_24 : decode cX5_release 24 = .ok (.if_icmp .ge 72, 3) := by decide +kernel
theorem dX5_release_27 : decode cX5_release 27 = .ok (.aload_n 0, 1) := by decide +kernel
theorem dX5_release_28 : decode cX5_release 28 = .ok (.getfield 15, 3) := by decide +kernel
theorem dX5_release_31 : decode cX5_release 31 = .ok (.iload_n 3, 1) := by decide +kernel
theorem dX5_release_32 : decode cX5_release 32 = .ok (.iaload, 1) := by decide +kernel
theorem dX5_release_33 : decode cX5_release 33 = .ok (.istore 4, 2) := by decide +kernel
theorem dX5_release_35 : decode cX5_release 35 = .ok (.aload_n 0, 1) := by decide +kernel
theorem dX5_release_36 : decode cX5_release 36 = .ok (.getfield 33, 3) := by decide +kernel
theorem dX5_release_39 : decode cX5_release 39 = .ok (.iload 4, 2) := by decide +kernel
theorem dX5_release_41 : decode cX5_release 41 = .ok (.iaload, 1) := by decide +kernel
theorem dX5_release_42 : decode cX5_release 42 = .ok (.ifCond .le 48, 3) := by decide +kernel
theorem dX5_release_45 : decode cX5_release 45 = .ok (.aload_n 0, 1) := by decide +kernel
theorem dX5_release_46 : decode cX5_release 46 = .ok (.getfield 23, 3) := by decide +kernel
theorem dX5_release_49 : decode cX5_release 49 = .ok (.iload 4, 2) := by decide +kernel
theorem dX5_release_51 : decode cX5_release 51 = .ok (.aload_n 0, 1) := by decide +kernel
theorem dX5_release_52 : decode cX5_release 52 = .ok (.getfield 36, 3) := by decide +kernel
theorem dX5_release_55 : decode cX5_release 55 = .ok (.iload_n 2, 1) := by decide +kernel
theorem dX5_release_56 : decode cX5_release 56 = .ok (.iaload, 1) := by decide +kernel
theorem dX5_release_57 : decode cX5_release 57 = .ok (.invokestatic 85, 3) := by decide +kernel
theorem dX5_release_60 : decode cX5_release 60 = .ok (.ifCond .eq 30, 3) := by decide +kernel
theorem dX5_release_63 : decode cX5_release 63 = .ok (.aload_n 0, 1) := by decide +kernel
theorem dX5_release_64 : decode cX5_release 64 = .ok (.getfield 33, 3) := by decide +kernel
theorem dX5_release_67 : decode cX5_release 67 = .ok (.iload 4, 2) := by decide +kernel
theorem dX5_release_69 : decode cX5_release 69 = .ok (.dup2, 1) := by decide +kernel
theorem dX5_release_70 : decode cX5_release 70 = .ok (.iaload, 1) := by decide +kernel
theorem dX5_release_71 : decode cX5_release 71 = .ok (.iconst 1, 1) := by decide +kernel
theorem dX5_release_72 : decode cX5_release 72 = .ok (.isub, 1) := by decide +kernel
theorem dX5_release_73 : decode cX5_release 73 = .ok (.iastore, 1) := by decide +kernel
theorem dX5_release_74 : decode cX5_release 74 = .ok (.aload_n 0, 1) := by decide +kernel
theorem dX5_release_75 : decode cX5_release 75 = .ok (.getfield 33, 3) := by decide +kernel
theorem dX5_release_78 : decode cX5_release 78 = .ok (.iload 4, 2) := by decide +kernel
theorem dX5_release_80 : decode cX5_release 80 = .ok (.iaload, 1) := by decide +kernel
theorem dX5_release_81 : decode cX5_release 81 = .ok (.ifCond .ne 9, 3) := by decide +kernel
theorem dX5_release_84 : decode cX5_release 84 = .ok (.aload_n 0, 1) := by decide +kernel
theorem dX5_release_85 : decode cX5_release 85 = .ok (.iload 4, 2) := by decide +kernel
theorem dX5_release_87 : decode cX5_release 87 = .ok (.invokevirtual 65, 3) := by decide +kernel
theorem dX5_release_90 : decode cX5_release 90 = .ok (.iinc 3 1, 3) := by decide +kernel
theorem dX5_release_93 : decode cX5_release 93 = .ok (.goto (-74), 3) := by decide +kernel
theorem dX5_release_96 : decode cX5_release 96 = .ok (.iinc 2 1, 3) := by decide +kernel
theorem dX5_release_99 : decode cX5_release 99 = .ok (.goto (-97), 3) := by decide +kernel
theorem dX5_release_102 : decode cX5_release 102 = .ok (.return_, 1) := by decide +kernel
theorem dX5_findRings_0 : decode cX5_findRings 0 = .ok (.aload_n 0, 1) := by decide +kernel
theorem dX5_findRings_1 : decode cX5_findRings 1 = .ok (.getfield 23, 3) := by decide +kernel
theorem dX5_findRings_4 : decode cX5_findRings 4 = .ok (.iconst 0, 1) := by decide +kernel
theorem dX5_findRings_5 : decode cX5_findRings 5 = .ok (.aload_n 0, 1) := by decide +kernel
theorem dX5_findRings_6 : decode cX5_findRings 6 = .ok (.getfield 26, 3) := by decide +kernel
theorem dX5_findRings_9 : decode cX5_findRings 9 = .ok (.iconst 0, 1) := by decide +kernel
theorem dX5_findRings_10 : decode cX5_findRings 10 = .ok (.aload_n 0, 1) := by decide +kernel
theorem dX5_findRings_11 : decode cX5_findRings 11 = .ok (.getfield 23, 3) := by decide +kernel
theorem dX5_findRings_14 : decode cX5_findRings 14 = .ok (.arraylength, 1) := by decide +kernel
theorem dX5_findRings_15 : decode cX5_findRings 15 = .ok (.invokestatic 114, 3) := by decide +kernel
theorem dX5_findRings_18 : decode cX5_findRings 18 = .ok (.iconst 0, 1) := by decide +kernel
theorem dX5_findRings_19 : decode cX5_findRings 19 = .ok (.istore_n 1, 1) := by decide +kernel
theorem dX5_findRings_20 : decode cX5_findRings 20 = .ok (.iload_n 1, 1) := by decide +kernel
theorem dX5_findRings_21 : decode cX5_findRings 21 = .ok (.aload_n 0, 1) := by decide +kernel
theorem dX5_findRings_22 : decode cX5_findRings 22 = .ok (.getfield 58, 3) := by decide +kernel
theorem dX5_findRings_25 : decode cX5_findRings 25 = .ok (.if_icmp .ge 33, 3) := by decide +kernel
theorem dX5_findRings_28 : decode cX5_findRings 28 = .ok (.aload_n 0, 1) := by decide +kernel
theorem dX5_findRings_29 : decode cX5_findRings 29 = .ok (.getfield 33, 3) := by decide +kernel
theorem dX5_findRings_32 : decode cX5_findRings 32 = .ok (.aload_n 0, 1) := by decide +kernel
theorem dX5_findRings_33 : decode cX5_findRings 33 = .ok (.getfield 15, 3) := by decide +kernel
theorem dX5_findRings_36 : decode cX5_findRings 36 = .ok (.iload_n 1, 1) := by decide +kernel
theorem dX5_findRings_37 : decode cX5_findRings 37 = .ok (.iaload, 1) := by decide +kernel
theorem dX5_findRings_38 : decode cX5_findRings 38 = .ok (.iaload, 1) := by decide +kernel
theorem dX5_findRings_39 : decode cX5_findRings 39 = .ok (.ifCond .le 13, 3) := by decide +kernel
theorem dX5_findRings_42 : decode cX5_findRings 42 = .ok (.aload_n 0, 1) := by decide +kernel
theorem dX5_findRings_43 : decode cX5_findRings 43 = .ok (.aload_n 0, 1) := by decide +kernel
theorem dX5_findRings_44 : decode cX5_findRings 44 = .ok (.getfield 15, 3) := by decide +kernel
theorem dX5_findRings_47 : decode cX5_findRings 47 = .ok (.iload_n 1, 1) := by decide +kernel
theorem dX5_findRings_48 : decode cX5_findRings 48 = .ok (.iaload, 1) := by decide +kernel
