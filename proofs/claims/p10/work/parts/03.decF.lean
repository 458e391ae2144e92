theorem dX12_undo_38 : decode cX12_undo 38 = .ok (.getfield 93, 3) := by decide +kernel
theorem dX12_undo_41 : decode cX12_undo 41 = .ok (.aload_n 0, 1) := by decide +kernel
theorem dX12_undo_42 : decode cX12_undo 42 = .ok (.getfield 188, 3) := by decide +kernel
theorem dX12_undo_45 : decode cX12_undo 45 = .ok (.iaload, 1) := by decide +kernel
theorem dX12_undo_46 : decode cX12_undo 46 = .ok (.invokevirtual 191, 3) := by decide +kernel
theorem dX12_undo_49 : decode cX12_undo 49 = .ok (.aload_n 0, 1) := by decide +kernel
theorem dX12_undo_50 : decode cX12_undo 50 = .ok (.invokevirtual 195, 3) := by decide +kernel
theorem dX12_undo_53 : decode cX12_undo 53 = .ok (.aload_n 0, 1) := by decide +kernel
theorem dX12_undo_54 : decode cX12_undo 54 = .ok (.invokevirtual 345, 3) := by decide +kernel
theorem dX12_undo_57 : decode cX12_undo 57 = .ok (.ireturn, 1) := by decide +kernel
theorem dX12_readMany_0 : decode cX12_readMany 0 = .ok (.iconst 0, 1) := by decide +kernel
theorem dX12_readMany_1 : decode cX12_readMany 1 = .ok (.istore_n 2, 1) := by decide +kernel
theorem dX12_readMany_2 : decode cX12_readMany 2 = .ok (.iconst 0, 1) := by decide +kernel
theorem dX12_readMany_3 : decode cX12_readMany 3 = .ok (.istore_n 3, 1) := by decide +kernel
theorem dX12_readMany_4 : decode cX12_readMany 4 = .ok (.iload_n 3, 1) := by decide +kernel
theorem dX12_readMany_5 : decode cX12_readMany 5 = .ok (.sipush 288, 3) := by decide +kernel
theorem dX12_readMany_8 : decode cX12_readMany 8 = .ok (.if_icmp .ge 29, 3) := by decide +kernel
theorem dX12_readMany_11 : decode cX12_readMany 11 = .ok (.iload_n 2, 1) := by decide +kernel
theorem dX12_readMany_12 : decode cX12_readMany 12 = .ok (.aload_n 0, 1) := by decide +kernel
theorem dX12_readMany_13 : decode cX12_readMany 13 = .ok (.getfield 96, 3) := by decide +kernel
theorem dX12_readMany_16 : decode cX12_readMany 16 = .ok (.iload_n 1, 1) := by decide +kernel
theorem dX12_readMany_17 : decode cX12_readMany 17 = .ok (.iload_n 3, 1) := by decide +kernel
theorem dX12_readMany_18 : decode cX12_readMany 18 = .ok (.invokestatic 222, 3) := by decide +kernel
theorem dX12_readMany_21 : decode cX12_readMany 21 = .ok (.ifCond .eq 7, 3) := by decide +kernel
theorem dX12_readMany_24 : decode cX12_readMany 24 = .ok (.iconst 1, 1) := by decide +kernel
theorem dX12_readMany_25 : decode cX12_readMany 25 = .ok (.goto 4, 3) := by decide +kernel
theorem dX12_readMany_28 : decode cX12_readMany 28 = .ok (.iconst 0, 1) := by decide +kernel
theorem dX12_readMany_29 : decode cX12_readMany 29 = .ok (.iadd, 1) := by decide +kernel
theorem dX12_readMany_30 : decode cX12_readMany 30 = .ok (.istore_n 2, 1) := by decide +kernel
theorem dX12_readMany_31 : decode cX12_readMany 31 = .ok (.iinc 3 1, 3) := by decide +kernel
theorem dX12_readMany_34 : decode cX12_readMany 34 = .ok (.goto (-30), 3) := by decide +kernel
theorem dX12_readMany_37 : decode cX12_readMany 37 = .ok (.iload_n 2, 1) := by decide +kernel
theorem dX12_readMany_38 : decode cX12_readMany 38 = .ok (.ireturn, 1) := by decide +kernel
theorem dX12_cell_0 : decode cX12_cell 0 = .ok (.aload_n 0, 1) := by decide +kernel
theorem dX12_cell_1 : decode cX12_cell 1 = .ok (.iload_n 1, 1) := by decide +kernel
theorem dX12_cell_2 : decode cX12_cell 2 = .ok (.invokestatic 198, 3) := by decide +kernel
theorem dX12_cell_5 : decode cX12_cell 5 = .ok (.ifCond .eq 17, 3) := by decide +kernel
theorem dX12_cell_8 : decode cX12_cell 8 = .ok (.iload_n 2, 1) := by decide +kernel
theorem dX12_cell_9 : decode cX12_cell 9 = .ok (.ifCond .lt 13, 3) := by decide +kernel
theorem dX12_cell_12 : decode cX12_cell 12 = .ok (.iload_n 2, 1) := by decide +kernel
theorem dX12_cell_13 : decode cX12_cell 13 = .ok (.bipush 10, 2) := by decide +kernel
theorem dX12_cell_15 : decode cX12_cell 15 = .ok (.if_icmp .gt 7, 3) := by decide +kernel
theorem dX12_cell_18 : decode cX12_cell 18 = .ok (.iconst 0, 1) := by decide +kernel
theorem dX12_cell_19 : decode cX12_cell 19 = .ok (.goto 4, 3) := by decide +kernel
theorem dX12_cell_22 : decode cX12_cell 22 = .ok (.iconst 1, 1) := by decide +kernel
theorem dX12_cell_23 : decode cX12_cell 23 = .ok (.putfield 1, 3) := by decide +kernel
theorem dX12_cell_26 : decode cX12_cell 26 = .ok (.aload_n 0, 1) := by decide +kernel
theorem dX12_cell_27 : decode cX12_cell 27 = .ok (.getfield 1, 3) := by decide +kernel
theorem dX12_cell_30 : decode cX12_cell 30 = .ok (.ifCond .le 5, 3) := by decide +kernel
theorem dX12_cell_33 : decode cX12_cell 33 = .ok (.iconst 0, 1) := by decide +kernel
theorem dX12_cell_34 : decode cX12_cell 34 = .ok (.ireturn, 1) := by decide +kernel
theorem dX12_cell_35 : decode cX12_cell 35 = .ok (.iload_n 2, 1) := by decide +kernel
theorem dX12_cell_36 : decode cX12_cell 36 = .ok (.tableswitch 124 0 9 #[56, 63, 70, 77, 84, 84, 84, 97, 112, 118], 56) := by decide +kernel
theorem dX12_cell_92 : decode cX12_cell 92 = .ok (.aload_n 0, 1) := by decide +kernel
theorem dX12_cell_93 : decode cX12_cell 93 = .ok (.getfield 80, 3) := by decide +kernel
theorem dX12_cell_96 : decode cX12_cell 96 = .ok (.iload_n 1, 1) := by decide +kernel
theorem dX12_cell_97 : decode cX12_cell 97 = .ok (.iaload, 1) := by decide +kernel
theorem dX12_cell_98 : decode cX12_cell 98 = .ok (.ireturn, 1) := by decide +kernel
theorem dX12_cell_99 : decode cX12_cell 99 = .ok (.aload_n 0, 1) := by decide +kernel
theorem dX12_cell_100 : decode cX12_cell 100 = .ok (.getfield 102, 3) := by decide +kernel
theorem dX12_cell_103 : decode cX12_cell 103 = .ok (.iload_n 1, 1) := by decide +kernel
theorem dX12_cell_104 : decode cX12_cell 104 = .ok (.iaload, 1) := by decide +kernel
theorem dX12_cell_105 : decode cX12_cell 105 = .ok (.ireturn, 1) := by decide +kernel
theorem dX12_cell_106 : decode cX12_cell 106 = .ok (.aload_n 0, 1) := by decide +kernel
theorem dX12_cell_107 : decode cX12_cell 107 = .ok (.getfield 105, 3) := by decide +kernel
theorem dX12_cell_110 : decode cX12_cell 110 = .ok (.iload_n 1, 1) := by decide +kernel
theorem dX12_cell_111 : decode cX12_cell 111 = .ok (.iaload, 1) := by decide +kernel
theorem dX12_cell_112 : decode cX12_cell 112 = .ok (.ireturn, 1) := by decide +kernel
theorem dX12_cell_113 : decode cX12_cell 113 = .ok (.aload_n 0, 1) := by decide +kernel
theorem dX12_cell_114 : decode cX12_cell 114 = .ok (.getfield 117, 3) := by decide +kernel
theorem dX12_cell_117 : decode cX12_cell 117 = .ok (.iload_n 1, 1) := by decide +kernel
theorem dX12_cell_118 : decode cX12_cell 118 = .ok (.iaload, 1) := by decide +kernel
theorem dX12_cell_119 : decode cX12_cell 119 = .ok (.ireturn, 1) := by decide +kernel
theorem dX12_cell_120 : decode cX12_cell 120 = .ok (.aload_n 0, 1) := by decide +kernel
theorem dX12_cell_121 : decode cX12_cell 121 = .ok (.getfield 108, 3) := by decide +kernel
theorem dX12_cell_124 : decode cX12_cell 124 = .ok (.iconst 3, 1) := by decide +kernel
theorem dX12_cell_125 : decode cX12_cell 125 = .ok (.iload_n 1, 1) := by decide +kernel
theorem dX12_cell_126 : decode cX12_cell 126 = .ok (.imul, 1) := by decide +kernel
theorem dX12_cell_127 : decode cX12_cell 127 = .ok (.iload_n 2, 1) := by decide +kernel
theorem dX12_cell_128 : decode cX12_cell 128 = .ok (.iadd, 1) := by decide +kernel
theorem dX12_cell_129 : decode cX12_cell 129 = .ok (.iconst 4, 1) := by decide +kernel
theorem dX12_cell_130 : decode cX12_cell 130 = .ok (.isub, 1) := by decide +kernel
theorem dX12_cell_131 : decode cX12_cell 131 = .ok (.iaload, 1) := by decide +kernel
theorem dX12_cell_132 : decode cX12_cell 132 = .ok (.ireturn, 1) := by decide +kernel
theorem dX12_cell_133 : decode cX12_cell 133 = .ok (.aload_n 0, 1) := by decide +kernel
theorem dX12_cell_134 : decode cX12_cell 134 = .ok (.getfield 114, 3) := by decide +kernel
theorem dX12_cell_137 : decode cX12_cell 137 = .ok (.iload_n 1, 1) := by decide +kernel
theorem dX12_cell_138 : decode cX12_cell 138 = .ok (.baload, 1) := by decide +kernel
theorem dX12_cell_139 : decode cX12_cell 139 = .ok (.ifCond .eq 7, 3) := by decide +kernel
theorem dX12_cell_142 : decode cX12_cell 142 = .ok (.iconst 1, 1) := by decide +kernel
theorem dX12_cell_143 : decode cX12_cell 143 = .ok (.goto 4, 3) := by decide +kernel
theorem dX12_cell_146 : decode cX12_cell 146 = .ok (.iconst 0, 1) := by decide +kernel
theorem dX12_cell_147 : decode cX12_cell 147 = .ok (.ireturn, 1) := by decide +kernel
theorem dX12_cell_148 : decode cX12_cell 148 = .ok (.aload_n 0, 1) := by decide +kernel
theorem dX12_cell_149 : decode cX12_cell 149 = .ok (.iload_n 1, 1) := by decide +kernel
theorem dX12_cell_150 : decode cX12_cell 150 = .ok (.invokevirtual 351, 3) := by decide +kernel
theorem dX12_cell_153 : decode cX12_cell 153 = .ok (.ireturn, 1) := by decide +kernel
theorem dX12_cell_154 : decode cX12_cell 154 = .ok (.aload_n 0, 1) := by decide +kernel
theorem dX12_cell_155 : decode cX12_cell 155 = .ok (.iload_n 1, 1) := by decide +kernel
theorem dX12_cell_156 : decode cX12_cell 156 = .ok (.invokevirtual 336, 3) := by decide +kernel
theorem dX12_cell_159 : decode cX12_cell 159 = .ok (.ireturn, 1) := by decide +kernel
theorem dX12_cell_160 : decode cX12_cell 160 = .ok (.aload_n 0, 1) := by decide +kernel
theorem dX12_cell_161 : decode cX12_cell 161 = .ok (.getfield 89, 3) := by decide +kernel
theorem dX12_cell_164 : decode cX12_cell 164 = .ok (.iload_n 1, 1) := by decide +kernel
theorem dX12_cell_165 : decode cX12_cell 165 = .ok (.baload, 1) := by decide +kernel
theorem dX12_cell_166 : decode cX12_cell 166 = .ok (.ifCond .eq 7, 3) := by decide +kernel
theorem dX12_cell_169 : decode cX12_cell 169 = .ok (.iconst 1, 1) := by decide +kernel
theorem dX12_cell_170 : decode cX12_cell 170 = .ok (.goto 4, 3) := by decide +kernel
theorem dX12_cell_173 : decode cX12_cell 173 = .ok (.iconst 0, 1) := by decide +kernel
theorem dX12_cell_174 : decode cX12_cell 174 = .ok (.ireturn, 1) := by decide +kernel
theorem dX12_ways_0 : decode cX12_ways 0 = .ok (.aload_n 0, 1) := by decide +kernel
theorem dX12_ways_1 : decode cX12_ways 1 = .ok (.iconst 0, 1) := by decide +kernel
theorem dX12_ways_2 : decode cX12_ways 2 = .ok (.putfield 1, 3) := by decide +kernel
theorem dX12_ways_5 : decode cX12_ways 5 = .ok (.iload_n 1, 1) := by decide +kernel
theorem dX12_ways_6 : decode cX12_ways 6 = .ok (.invokestatic 198, 3) := by decide +kernel
theorem dX12_ways_9 : decode cX12_ways 9 = .ok (.ifCond .eq 19, 3) := by decide +kernel
theorem dX12_ways_12 : decode cX12_ways 12 = .ok (.iload_n 2, 1) := by decide +kernel
theorem dX12_ways_13 : decode cX12_ways 13 = .ok (.invokestatic 198, 3) := by decide +kernel
theorem dX12_ways_16 : decode cX12_ways 16 = .ok (.ifCond .eq 12, 3) := by decide +kernel
theorem dX12_ways_19 : decode cX12_ways 19 = .ok (.aload_n 0, 1) := by decide +kernel
theorem dX12_ways_20 : decode cX12_ways 20 = .ok (.getfield 114, 3) := by decide +kernel
theorem dX12_ways_23 : decode cX12_ways 23 = .ok (.iload_n 2, 1) := by decide +kernel
theorem dX12_ways_24 : decode cX12_ways 24 = .ok (.baload, 1) := by decide +kernel
theorem dX12_ways_25 : decode cX12_ways 25 = .ok (.ifCond .ne 5, 3) := by decide +kernel
theorem dX12_ways_28 : decode cX12_ways 28 = .ok (.iconst (-1), 1) := by decide +kernel
theorem dX12_ways_29 : decode cX12_ways 29 = .ok (.ireturn, 1) := by decide +kernel
theorem dX12_ways_30 : decode cX12_ways 30 = .ok (.aload_n 0, 1) := by decide +kernel
theorem dX12_ways_31 : decode cX12_ways 31 = .ok (.getfield 121, 3) := by decide +kernel
theorem dX12_ways_34 : decode cX12_ways 34 = .ok (.sipush 288, 3) := by decide +kernel
theorem dX12_ways_37 : decode cX12_ways 37 = .ok (.iload_n 2, 1) := by decide +kernel
theorem dX12_ways_38 : decode cX12_ways 38 = .ok (.imul, 1) := by decide +kernel
theorem dX12_ways_39 : decode cX12_ways 39 = .ok (.iload_n 1, 1) := by decide +kernel
theorem dX12_ways_40 : decode cX12_ways 40 = .ok (.iadd, 1) := by decide +kernel
theorem dX12_ways_41 : decode cX12_ways 41 = .ok (.iaload, 1) := by decide +kernel
theorem dX12_ways_42 : decode cX12_ways 42 = .ok (.istore_n 3, 1) := by decide +kernel
theorem dX12_ways_43 : decode cX12_ways 43 = .ok (.iload_n 3, 1) := by decide +kernel
theorem dX12_ways_44 : decode cX12_ways 44 = .ok (.bipush 9, 2) := by decide +kernel
theorem dX12_ways_46 : decode cX12_ways 46 = .ok (.if_icmp .le 8, 3) := by decide +kernel
theorem dX12_ways_49 : decode cX12_ways 49 = .ok (.bipush 9, 2) := by decide +kernel
theorem dX12_ways_51 : decode cX12_ways 51 = .ok (.goto 4, 3) := by decide +kernel
theorem dX12_ways_54 : decode cX12_ways 54 = .ok (.iload_n 3, 1) := by decide +kernel
theorem dX12_ways_55 : decode cX12_ways 55 = .ok (.ireturn, 1) := by decide +kernel
theorem dX12_count_0 : decode cX12_count 0 = .ok (.aload_n 0, 1) := by decide +kernel
theorem dX12_count_1 : decode cX12_count 1 = .ok (.iconst 0, 1) := by decide +kernel
theorem dX12_count_2 : decode cX12_count 2 = .ok (.putfield 1, 3) := by decide +kernel
theorem dX12_count_5 : decode cX12_count 5 = .ok (.iconst 0, 1) := by decide +kernel
theorem dX12_count_6 : decode cX12_count 6 = .ok (.istore_n 2, 1) := by decide +kernel
theorem dX12_count_7 : decode cX12_count 7 = .ok (.iconst 0, 1) := by decide +kernel
theorem dX12_count_8 : decode cX12_count 8 = .ok (.istore_n 3, 1) := by decide +kernel
theorem dX12_count_9 : decode cX12_count 9 = .ok (.iconst 0, 1) := by decide +kernel
theorem dX12_count_10 : decode cX12_count 10 = .ok (.istore 4, 2) := by decide +kernel
theorem dX12_count_12 : decode cX12_count 12 = .ok (.iconst 0, 1) := by decide +kernel
theorem dX12_count_13 : decode cX12_count 13 = .ok (.istore 5, 2) := by decide +kernel
theorem dX12_count_15 : decode cX12_count 15 = .ok (.iconst 0, 1) := by decide +kernel
theorem dX12_count_16 : decode cX12_count 16 = .ok (.istore 6, 2) := by decide +kernel
theorem dX12_count_18 : decode cX12_count 18 = .ok (.iload 6, 2) := by decide +kernel
theorem dX12_count_20 : decode cX12_count 20 = .ok (.sipush 288, 3) := by decide +kernel
theorem dX12_count_23 : decode cX12_count 23 = .ok (.if_icmp .ge 100, 3) := by decide +kernel
theorem dX12_count_26 : decode cX12_count 26 = .ok (.iload_n 2, 1) := by decide +kernel
theorem dX12_count_27 : decode cX12_count 27 = .ok (.aload_n 0, 1) := by decide +kernel
theorem dX12_count_28 : decode cX12_count 28 = .ok (.getfield 80, 3) := by decide +kernel
theorem dX12_count_31 : decode cX12_count 31 = .ok (.iload 6, 2) := by decide +kernel
theorem dX12_count_33 : decode cX12_count 33 = .ok (.iaload, 1) := by decide +kernel
theorem dX12_count_34 : decode cX12_count 34 = .ok (.iconst 1, 1) := by decide +kernel
theorem dX12_count_35 : decode cX12_count 35 = .ok (.if_icmp .ne 7, 3) := by decide +kernel
theorem dX12_count_38 : decode cX12_count 38 = .ok (.iconst 1, 1) := by decide +kernel
theorem dX12_count_39 : decode cX12_count 39 = .ok (.goto 4, 3) := by decide +kernel
theorem dX12_count_42 : decode cX12_count 42 = .ok (.iconst 0, 1) := by decide +kernel
theorem dX12_count_43 : decode cX12_count 43 = .ok (.iadd, 1) := by decide +kernel
theorem dX12_count_44 : decode cX12_count 44 = .ok (.istore_n 2, 1) := by decide +kernel
theorem dX12_count_45 : decode cX12_count 45 = .ok (.iload_n 3, 1) := by decide +kernel
theorem dX12_count_46 : decode cX12_count 46 = .ok (.aload_n 0, 1) := by decide +kernel
theorem dX12_count_47 : decode cX12_count 47 = .ok (.getfield 80, 3) := by decide +kernel
theorem dX12_count_50 : decode cX12_count 50 = .ok (.iload 6, 2) := by decide +kernel
theorem dX12_count_52 : decode cX12_count 52 = .ok (.iaload, 1) := by decide +kernel
theorem dX12_count_53 : decode cX12_count 53 = .ok (.iconst 2, 1) := by decide +kernel
theorem dX12_count_54 : decode cX12_count 54 = .ok (.if_icmp .ne 7, 3) := by decide +kernel
theorem dX12_count_57 : decode cX12_count 57 = .ok (.iconst 1, 1) := by decide +kernel
theorem dX12_count_58 : decode cX12_count 58 = .ok (.goto 4, 3) := by decide +kernel
theorem dX12_count_61 : decode cX12_count 61 = .ok (.iconst 0, 1) := by decide +kernel
theorem dX12_count_62 : decode cX12_count 62 = .ok (.iadd, 1) := by decide +kernel
theorem dX12_count_63 : decode cX12_count 63 = .ok (.istore_n 3, 1) := by decide +kernel
theorem dX12_count_64 : decode cX12_count 64 = .ok (.iload 4, 2) := by decide +kernel
theorem dX12_count_66 : decode cX12_count 66 = .ok (.aload_n 0, 1) := by decide +kernel
theorem dX12_count_67 : decode cX12_count 67 = .ok (.getfield 80, 3) := by decide +kernel
theorem dX12_count_70 : decode cX12_count 70 = .ok (.iload 6, 2) := by decide +kernel
theorem dX12_count_72 : decode cX12_count 72 = .ok (.iaload, 1) := by decide +kernel
theorem dX12_count_73 : decode cX12_count 73 = .ok (.iconst 2, 1) := by decide +kernel
theorem dX12_count_74 : decode cX12_count 74 = .ok (.if_icmp .ne 19, 3) := by decide +kernel
theorem dX12_count_77 : decode cX12_count 77 = .ok (.aload_n 0, 1) := by decide +kernel
theorem dX12_count_78 : decode cX12_count 78 = .ok (.getfield 117, 3) := by decide +kernel
theorem dX12_count_81 : decode cX12_count 81 = .ok (.iload 6, 2) := by decide +kernel
theorem dX12_count_83 : decode cX12_count 83 = .ok (.iaload, 1) := by decide +kernel
theorem dX12_count_84 : decode cX12_count 84 = .ok (.iload 6, 2) := by decide +kernel
theorem dX12_count_86 : decode cX12_count 86 = .ok (.if_icmp .ne 7, 3) := by decide +kernel
theorem dX12_count_89 : decode cX12_count 89 = .ok (.iconst 1, 1) := by decide +kernel
theorem dX12_count_90 : decode cX12_count 90 = .ok (.goto 4, 3) := by decide +kernel
theorem dX12_count_93 : decode cX12_count 93 = .ok (.iconst 0, 1) := by decide +kernel
theorem dX12_count_94 : decode cX12_count 94 = .ok (.iadd, 1) := by decide +kernel
theorem dX12_count_95 : decode cX12_count 95 = .ok (.istore 4, 2) := by decide +kernel
theorem dX12_count_97 : decode cX12_count 97 = .ok (.iload 5, 2) := by decide +kernel
theorem dX12_count_99 : decode cX12_count 99 = .ok (.aload_n 0, 1) := by decide +kernel
theorem dX12_count_100 : decode cX12_count 100 = .ok (.getfield 105, 3) := by decide +kernel
theorem dX12_count_103 : decode cX12_count 103 = .ok (.iload 6, 2) := by decide +kernel
theorem dX12_count_105 : decode cX12_count 105 = .ok (.iaload, 1) := by decide +kernel
theorem dX12_count_106 : decode cX12_count 106 = .ok (.ifCond .le 7, 3) := by decide +kernel
theorem dX12_count_109 : decode cX12_count 109 = .ok (.iconst 1, 1) := by decide +kernel
theorem dX12_count_110 : decode cX12_count 110 = .ok (.goto 4, 3) := by decide +kernel
theorem dX12_count_113 : decode cX12_count 113 = .ok (.iconst 0, 1) := by decide +kernel
theorem dX12_count_114 : decode cX12_count 114 = .ok (.iadd, 1) := by decide +kernel
theorem dX12_count_115 : decode cX12_count 115 = .ok (.istore 5, 2) := by decide +kernel
theorem dX12_count_117 : decode cX12_count 117 = .ok (.iinc 6 1, 3) := by decide +kernel
theorem dX12_count_120 : decode cX12_count 120 = .ok (.goto (-102), 3) := by decide +kernel
theorem dX12_count_123 : decode cX12_count 123 = .ok (.iload_n 1, 1) := by decide +kernel
theorem dX12_count_124 : decode cX12_count 124 = .ok (.ifCond .ne 7, 3) := by decide +kernel
theorem dX12_count_127 : decode cX12_count 127 = .ok (.iload_n 2, 1) := by decide +kernel
theorem dX12_count_128 : decode cX12_count 128 = .ok (.goto 57, 3) := by decide +kernel
theorem dX12_count_131 : decode cX12_count 131 = .ok (.iload_n 1, 1) := by decide +kernel
theorem dX12_count_132 : decode cX12_count 132 = .ok (.iconst 1, 1) := by decide +kernel
theorem dX12_count_133 : decode cX12_count 133 = .ok (.if_icmp .ne 7, 3) := by decide +kernel
theorem dX12_count_136 : decode cX12_count 136 = .ok (.iload_n 3, 1) := by decide +kernel
theorem dX12_count_137 : decode cX12_count 137 = .ok (.goto 48, 3) := by decide +kernel
theorem dX12_count_140 : decode cX12_count 140 = .ok (.iload_n 1, 1) := by decide +kernel
theorem dX12_count_141 : decode cX12_count 141 = .ok (.iconst 2, 1) := by decide +kernel
theorem dX12_count_142 : decode cX12_count 142 = .ok (.if_icmp .ne 8, 3) := by decide +kernel
theorem dX12_count_145 : decode cX12_count 145 = .ok (.iload 4, 2) := by decide +kernel
theorem dX12_count_147 : decode cX12_count 147 = .ok (.goto 38, 3) := by decide +kernel
theorem dX12_count_150 : decode cX12_count 150 = .ok (.iload_n 1, 1) := by decide +kernel
theorem dX12_count_151 : decode cX12_count 151 = .ok (.iconst 3, 1) := by decide +kernel
theorem dX12_count_152 : decode cX12_count 152 = .ok (.if_icmp .ne 8, 3) := by decide +kernel
theorem dX12_count_155 : decode cX12_count 155 = .ok (.iload 5, 2) := by decide +kernel
theorem dX12_count_157 : decode cX12_count 157 = .ok (.goto 28, 3) := by decide +kernel
theorem dX12_count_160 : decode cX12_count 160 = .ok (.iload_n 1, 1) := by decide +kernel
theorem dX12_count_161 : decode cX12_count 161 = .ok (.iconst 4, 1) := by decide +kernel
theorem dX12_count_162 : decode cX12_count 162 = .ok (.if_icmp .ne 10, 3) := by decide +kernel
theorem dX12_count_165 : decode cX12_count 165 = .ok (.aload_n 0, 1) := by decide +kernel
theorem dX12_count_166 : decode cX12_count 166 = .ok (.getfield 11, 3) := by decide +kernel
theorem dX12_count_169 : decode cX12_count 169 = .ok (.goto 16, 3) := by decide +kernel
theorem dX12_count_172 : decode cX12_count 172 = .ok (.iload_n 1, 1) := by decide +kernel
theorem dX12_count_173 : decode cX12_count 173 = .ok (.iconst 5, 1) := by decide +kernel
theorem dX12_count_174 : decode cX12_count 174 = .ok (.if_icmp .ne 10, 3) := by decide +kernel
theorem dX12_count_177 : decode cX12_count 177 = .ok (.aload_n 0, 1) := by decide +kernel
theorem dX12_count_178 : decode cX12_count 178 = .ok (.getfield 188, 3) := by decide +kernel
theorem dX12_count_181 : decode cX12_count 181 = .ok (.goto 4, 3) := by decide +kernel
theorem dX12_count_184 : decode cX12_count 184 = .ok (.iconst (-1), 1) := by decide +kernel
theorem dX12_count_185 : decode cX12_count 185 = .ok (.ireturn, 1) := by decide +kernel
theorem dJ13_bitCount_95d88_0 : decode cJ13_bitCount_95d88 0 = .ok (.lload_n 0, 1) := by decide +kernel
theorem dJ13_bitCount_95d88_1 : decode cJ13_bitCount_95d88 1 = .ok (.lload_n 0, 1) := by decide +kernel
theorem dJ13_bitCount_95d88_2 : decode cJ13_bitCount_95d88 2 = .ok (.iconst 1, 1) := by decide +kernel
theorem dJ13_bitCount_95d88_3 : decode cJ13_bitCount_95d88 3 = .ok (.lushr, 1) := by decide +kernel
theorem dJ13_bitCount_95d88_4 : decode cJ13_bitCount_95d88 4 = .ok (.ldc2_w 314, 3) := by decide +kernel
theorem dJ13_bitCount_95d88_7 : decode cJ13_bitCount_95d88 7 = .ok (.land, 1) := by decide +kernel
theorem dJ13_bitCount_95d88_8 : decode cJ13_bitCount_95d88 8 = .ok (.lsub, 1) := by decide +kernel
theorem dJ13_bitCount_95d88_9 : decode cJ13_bitCount_95d88 9 = .ok (.lstore_n 0, 1) := by decide +kernel
theorem dJ13_bitCount_95d88_10 : decode cJ13_bitCount_95d88 10 = .ok (.lload_n 0, 1) := by decide +kernel
theorem dJ13_bitCount_95d88_11 : decode cJ13_bitCount_95d88 11 = .ok (.ldc2_w 316, 3) := by decide +kernel
theorem dJ13_bitCount_95d88_14 : decode cJ13_bitCount_95d88 14 = .ok (.land, 1) := by decide +kernel
theorem dJ13_bitCount_95d88_15 : decode cJ13_bitCount_95d88 15 = .ok (.lload_n 0, 1) := by decide +kernel
theorem dJ13_bitCount_95d88_16 : decode cJ13_bitCount_95d88 16 = .ok (.iconst 2, 1) := by decide +kernel
theorem dJ13_bitCount_95d88_17 : decode cJ13_bitCount_95d88 17 = .ok (.lushr, 1) := by decide +kernel
theorem dJ13_bitCount_95d88_18 : decode cJ13_bitCount_95d88 18 = .ok (.ldc2_w 316, 3) := by decide +kernel
theorem dJ13_bitCount_95d88_21 : decode cJ13_bitCount_95d88 21 = .ok (.land, 1) := by decide +kernel
theorem dJ13_bitCount_95d88_22 : decode cJ13_bitCount_95d88 22 = .ok (.ladd, 1) := by decide +kernel
theorem dJ13_bitCount_95d88_23 : decode cJ13_bitCount_95d88 23 = .ok (.lstore_n 0, 1) := by decide +kernel
theorem dJ13_bitCount_95d88_24 : decode cJ13_bitCount_95d88 24 = .ok (.lload_n 0, 1) := by decide +kernel
theorem dJ13_bitCount_95d88_25 : decode cJ13_bitCount_95d88 25 = .ok (.lload_n 0, 1) := by decide +kernel
theorem dJ13_bitCount_95d88_26 : decode cJ13_bitCount_95d88 26 = .ok (.iconst 4, 1) := by decide +kernel
theorem dJ13_bitCount_95d88_27 : decode cJ13_bitCount_95d88 27 = .ok (.lushr, 1) := by decide +kernel
theorem dJ13_bitCount_95d88_28 : decode cJ13_bitCount_95d88 28 = .ok (.ladd, 1) := by decide +kernel
theorem dJ13_bitCount_95d88_29 : decode cJ13_bitCount_95d88 29 = .ok (.ldc2_w 318, 3) := by decide +kernel
theorem dJ13_bitCount_95d88_32 : decode cJ13_bitCount_95d88 32 = .ok (.land, 1) := by decide +kernel
theorem dJ13_bitCount_95d88_33 : decode cJ13_bitCount_95d88 33 = .ok (.lstore_n 0, 1) := by decide +kernel
theorem dJ13_bitCount_95d88_34 : decode cJ13_bitCount_95d88 34 = .ok (.lload_n 0, 1) := by decide +kernel
theorem dJ13_bitCount_95d88_35 : decode cJ13_bitCount_95d88 35 = .ok (.lload_n 0, 1) := by decide +kernel
theorem dJ13_bitCount_95d88_36 : decode cJ13_bitCount_95d88 36 = .ok (.bipush 8, 2) := by decide +kernel
theorem dJ13_bitCount_95d88_38 : decode cJ13_bitCount_95d88 38 = .ok (.lushr, 1) := by decide +kernel
theorem dJ13_bitCount_95d88_39 : decode cJ13_bitCount_95d88 39 = .ok (.ladd, 1) := by decide +kernel
theorem dJ13_bitCount_95d88_40 : decode cJ13_bitCount_95d88 40 = .ok (.lstore_n 0, 1) := by decide +kernel
theorem dJ13_bitCount_95d88_41 : decode cJ13_bitCount_95d88 41 = .ok (.lload_n 0, 1) := by decide +kernel
theorem dJ13_bitCount_95d88_42 : decode cJ13_bitCount_95d88 42 = .ok (.lload_n 0, 1) := by decide +kernel
theorem dJ13_bitCount_95d88_43 : decode cJ13_bitCount_95d88 43 = .ok (.bipush 16, 2) := by decide +kernel
theorem dJ13_bitCount_95d88_45 : decode cJ13_bitCount_95d88 45 = .ok (.lushr, 1) := by decide +kernel
theorem dJ13_bitCount_95d88_46 : decode cJ13_bitCount_95d88 46 = .ok (.ladd, 1) := by decide +kernel
theorem dJ13_bitCount_95d88_47 : decode cJ13_bitCount_95d88 47 = .ok (.lstore_n 0, 1) := by decide +kernel
theorem dJ13_bitCount_95d88_48 : decode cJ13_bitCount_95d88 48 = .ok (.lload_n 0, 1) := by decide +kernel
theorem dJ13_bitCount_95d88_49 : decode cJ13_bitCount_95d88 49 = .ok (.lload_n 0, 1) := by decide +kernel
theorem dJ13_bitCount_95d88_50 : decode cJ13_bitCount_95d88 50 = .ok (.bipush 32, 2) := by decide +kernel
theorem dJ13_bitCount_95d88_52 : decode cJ13_bitCount_95d88 52 = .ok (.lushr, 1) := by decide +kernel
theorem dJ13_bitCount_95d88_53 : decode cJ13_bitCount_95d88 53 = .ok (.ladd, 1) := by decide +kernel
theorem dJ13_bitCount_95d88_54 : decode cJ13_bitCount_95d88 54 = .ok (.lstore_n 0, 1) := by decide +kernel
theorem dJ13_bitCount_95d88_55 : decode cJ13_bitCount_95d88 55 = .ok (.lload_n 0, 1) := by decide +kernel
theorem dJ13_bitCount_95d88_56 : decode cJ13_bitCount_95d88 56 = .ok (.l2i, 1) := by decide +kernel
theorem dJ13_bitCount_95d88_57 : decode cJ13_bitCount_95d88 57 = .ok (.bipush 127, 2) := by decide +kernel
theorem dJ13_bitCount_95d88_59 : decode cJ13_bitCount_95d88 59 = .ok (.iand, 1) := by decide +kernel
theorem dJ13_bitCount_95d88_60 : decode cJ13_bitCount_95d88 60 = .ok (.ireturn, 1) := by decide +kernel
theorem dJ9_max_7cf53_0 : decode cJ9_max_7cf53 0 = .ok (.iload_n 0, 1) := by decide +kernel
theorem dJ9_max_7cf53_1 : decode cJ9_max_7cf53 1 = .ok (.iload_n 1, 1) := by decide +kernel
theorem dJ9_max_7cf53_2 : decode cJ9_max_7cf53 2 = .ok (.if_icmp .lt 7, 3) := by decide +kernel
theorem dJ9_max_7cf53_5 : decode cJ9_max_7cf53 5 = .ok (.iload_n 0, 1) := by decide +kernel
theorem dJ9_max_7cf53_6 : decode cJ9_max_7cf53 6 = .ok (.goto 4, 3) := by decide +kernel
theorem dJ9_max_7cf53_9 : decode cJ9_max_7cf53 9 = .ok (.iload_n 1, 1) := by decide +kernel
theorem dJ9_max_7cf53_10 : decode cJ9_max_7cf53 10 = .ok (.ireturn, 1) := by decide +kernel
theorem dJ9_min_7cf53_0 : decode cJ9_min_7cf53 0 = .ok (.iload_n 0, 1) := by decide +kernel
theorem dJ9_min_7cf53_1 : decode cJ9_min_7cf53 1 = .ok (.iload_n 1, 1) := by decide +kernel
theorem dJ9_min_7cf53_2 : decode cJ9_min_7cf53 2 = .ok (.if_icmp .gt 7, 3) := by decide +kernel
theorem dJ9_min_7cf53_5 : decode cJ9_min_7cf53 5 = .ok (.iload_n 0, 1) := by decide +kernel
theorem dJ9_min_7cf53_6 : decode cJ9_min_7cf53 6 = .ok (.goto 4, 3) := by decide +kernel
theorem dJ9_min_7cf53_9 : decode cJ9_min_7cf53 9 = .ok (.iload_n 1, 1) := by decide +kernel
theorem dJ9_min_7cf53_10 : decode cJ9_min_7cf53 10 = .ok (.ireturn, 1) := by decide +kernel
theorem dJ0_length_8abf5_0 : decode cJ0_length_8abf5 0 = .ok (.aload_n 0, 1) := by decide +kernel
theorem dJ0_length_8abf5_1 : decode cJ0_length_8abf5 1 = .ok (.getfield 9, 3) := by decide +kernel
theorem dJ0_length_8abf5_4 : decode cJ0_length_8abf5 4 = .ok (.arraylength, 1) := by decide +kernel
theorem dJ0_length_8abf5_5 : decode cJ0_length_8abf5 5 = .ok (.aload_n 0, 1) := by decide +kernel
theorem dJ0_length_8abf5_6 : decode cJ0_length_8abf5 6 = .ok (.invokevirtual 335, 3) := by decide +kernel
theorem dJ0_length_8abf5_9 : decode cJ0_length_8abf5 9 = .ok (.ishr, 1) := by decide +kernel
theorem dJ0_length_8abf5_10 : decode cJ0_length_8abf5 10 = .ok (.ireturn, 1) := by decide +kernel
theorem dJ0_indexOf_0f7a4_0 : decode cJ0_indexOf_0f7a4 0 = .ok (.aload_n 0, 1) := by decide +kernel
theorem dJ0_indexOf_0f7a4_1 : decode cJ0_indexOf_0f7a4 1 = .ok (.iload_n 1, 1) := by decide +kernel
theorem dJ0_indexOf_0f7a4_2 : decode cJ0_indexOf_0f7a4 2 = .ok (.iconst 0, 1) := by decide +kernel
theorem dJ0_indexOf_0f7a4_3 : decode cJ0_indexOf_0f7a4 3 = .ok (.invokevirtual 633, 3) := by decide +kernel
theorem dJ0_indexOf_0f7a4_6 : decode cJ0_indexOf_0f7a4 6 = .ok (.ireturn, 1) := by decide +kernel
theorem dJ0_indexOf_7cf53_0 : decode cJ0_indexOf_7cf53 0 = .ok (.aload_n 0, 1) := by decide +kernel
theorem dJ0_indexOf_7cf53_1 : decode cJ0_indexOf_7cf53 1 = .ok (.invokevirtual 492, 3) := by decide +kernel
theorem dJ0_indexOf_7cf53_4 : decode cJ0_indexOf_7cf53 4 = .ok (.ifCond .eq 19, 3) := by decide +kernel
theorem dJ0_indexOf_7cf53_7 : decode cJ0_indexOf_7cf53 7 = .ok (.aload_n 0, 1) := by decide +kernel
theorem dJ0_indexOf_7cf53_8 : decode cJ0_indexOf_7cf53 8 = .ok (.getfield 9, 3) := by decide +kernel
theorem dJ0_indexOf_7cf53_11 : decode cJ0_indexOf_7cf53 11 = .ok (.iload_n 1, 1) := by decide +kernel
theorem dJ0_indexOf_7cf53_12 : decode cJ0_indexOf_7cf53 12 = .ok (.iload_n 2, 1) := by decide +kernel
theorem dJ0_indexOf_7cf53_13 : decode cJ0_indexOf_7cf53 13 = .ok (.aload_n 0, 1) := by decide +kernel
theorem dJ0_indexOf_7cf53_14 : decode cJ0_indexOf_7cf53 14 = .ok (.invokevirtual 505, 3) := by decide +kernel
theorem dJ0_indexOf_7cf53_17 : decode cJ0_indexOf_7cf53 17 = .ok (.invokestatic 637, 3) := by decide +kernel
theorem dJ0_indexOf_7cf53_20 : decode cJ0_indexOf_7cf53 20 = .ok (.goto 16, 3) := by decide +kernel
theorem dJ0_indexOf_7cf53_23 : decode cJ0_indexOf_7cf53 23 = .ok (.aload_n 0, 1) := by decide +kernel
theorem dJ0_indexOf_7cf53_24 : decode cJ0_indexOf_7cf53 24 = .ok (.getfield 9, 3) := by decide +kernel
theorem dJ0_indexOf_7cf53_27 : decode cJ0_indexOf_7cf53 27 = .ok (.iload_n 1, 1) := by decide +kernel
theorem dJ0_indexOf_7cf53_28 : decode cJ0_indexOf_7cf53 28 = .ok (.iload_n 2, 1) := by decide +kernel
theorem dJ0_indexOf_7cf53_29 : decode cJ0_indexOf_7cf53 29 = .ok (.aload_n 0, 1) := by decide +kernel
theorem dJ0_indexOf_7cf53_30 : decode cJ0_indexOf_7cf53 30 = .ok (.invokevirtual 505, 3) := by decide +kernel
theorem dJ0_indexOf_7cf53_33 : decode cJ0_indexOf_7cf53 33 = .ok (.invokestatic 640, 3) := by decide +kernel
theorem dJ0_indexOf_7cf53_36 : decode cJ0_indexOf_7cf53 36 = .ok (.ireturn, 1) := by decide +kernel
theorem dJ0_coder_7d493_0 : decode cJ0_coder_7d493 0 = .ok (.getstatic 38, 3) := by decide +kernel
theorem dJ0_coder_7d493_3 : decode cJ0_coder_7d493 3 = .ok (.ifCond .eq 10, 3) := by decide +kernel
theorem dJ0_coder_7d493_6 : decode cJ0_coder_7d493 6 = .ok (.aload_n 0, 1) := by decide +kernel
theorem dJ0_coder_7d493_7 : decode cJ0_coder_7d493 7 = .ok (.getfield 15, 3) := by decide +kernel
theorem dJ0_coder_7d493_10 : decode cJ0_coder_7d493 10 = .ok (.goto 4, 3) := by decide +kernel
theorem dJ0_coder_7d493_13 : decode cJ0_coder_7d493 13 = .ok (.iconst 1, 1) := by decide +kernel
theorem dJ0_coder_7d493_14 : decode cJ0_coder_7d493 14 = .ok (.ireturn, 1) := by decide +kernel
theorem dJ0_isLatin1_aae02_0 : decode cJ0_isLatin1_aae02 0 = .ok (.getstatic 38, 3) := by decide +kernel
theorem dJ0_isLatin1_aae02_3 : decode cJ0_isLatin1_aae02 3 = .ok (.ifCond .eq 14, 3) := by decide +kernel
theorem dJ0_isLatin1_aae02_6 : decode cJ0_isLatin1_aae02 6 = .ok (.aload_n 0, 1) := by decide +kernel
theorem dJ0_isLatin1_aae02_7 : decode cJ0_isLatin1_aae02 7 = .ok (.getfield 15, 3) := by decide +kernel
theorem dJ0_isLatin1_aae02_10 : decode cJ0_isLatin1_aae02 10 = .ok (.ifCond .ne 7, 3) := by decide +kernel
theorem dJ0_isLatin1_aae02_13 : decode cJ0_isLatin1_aae02 13 = .ok (.iconst 1, 1) := by decide +kernel
theorem dJ0_isLatin1_aae02_14 : decode cJ0_isLatin1_aae02 14 = .ok (.goto 4, 3) := by decide +kernel
theorem dJ0_isLatin1_aae02_17 : decode cJ0_isLatin1_aae02 17 = .ok (.iconst 0, 1) := by decide +kernel
theorem dJ0_isLatin1_aae02_18 : decode cJ0_isLatin1_aae02 18 = .ok (.ireturn, 1) := by decide +kernel
theorem dJ1_canEncode_9a6ad_0 : decode cJ1_canEncode_9a6ad 0 = .ok (.iload_n 0, 1) := by decide +kernel
theorem dJ1_canEncode_9a6ad_1 : decode cJ1_canEncode_9a6ad 1 = .ok (.ifCond .lt 14, 3) := by decide +kernel
theorem dJ1_canEncode_9a6ad_4 : decode cJ1_canEncode_9a6ad 4 = .ok (.iload_n 0, 1) := by decide +kernel
theorem dJ1_canEncode_9a6ad_5 : decode cJ1_canEncode_9a6ad 5 = .ok (.sipush 255, 3) := by decide +kernel
theorem dJ1_canEncode_9a6ad_8 : decode cJ1_canEncode_9a6ad 8 = .ok (.if_icmp .gt 7, 3) := by decide +kernel
theorem dJ1_canEncode_9a6ad_11 : decode cJ1_canEncode_9a6ad 11 = .ok (.iconst 1, 1) := by decide +kernel
theorem dJ1_canEncode_9a6ad_12 : decode cJ1_canEncode_9a6ad 12 = .ok (.goto 4, 3) := by decide +kernel
theorem dJ1_canEncode_9a6ad_15 : decode cJ1_canEncode_9a6ad 15 = .ok (.iconst 0, 1) := by decide +kernel
theorem dJ1_canEncode_9a6ad_16 : decode cJ1_canEncode_9a6ad 16 = .ok (.ireturn, 1) := by decide +kernel
theorem dJ1_indexOf_4cfef_0 : decode cJ1_indexOf_4cfef 0 = .ok (.iload_n 1, 1) := by decide +kernel
theorem dJ1_indexOf_4cfef_1 : decode cJ1_indexOf_4cfef 1 = .ok (.invokestatic 88, 3) := by decide +kernel
theorem dJ1_indexOf_4cfef_4 : decode cJ1_indexOf_4cfef 4 = .ok (.ifCond .ne 5, 3) := by decide +kernel
theorem dJ1_indexOf_4cfef_7 : decode cJ1_indexOf_4cfef 7 = .ok (.iconst (-1), 1) := by decide +kernel
theorem dJ1_indexOf_4cfef_8 : decode cJ1_indexOf_4cfef 8 = .ok (.ireturn, 1) := by decide +kernel
theorem dJ1_indexOf_4cfef_9 : decode cJ1_indexOf_4cfef 9 = .ok (.iload_n 2, 1) := by decide +kernel
theorem dJ1_indexOf_4cfef_10 : decode cJ1_indexOf_4cfef 10 = .ok (.iconst 0, 1) := by decide +kernel
theorem dJ1_indexOf_4cfef_11 : decode cJ1_indexOf_4cfef 11 = .ok (.invokestatic 92, 3) := by decide +kernel
theorem dJ1_indexOf_4cfef_14 : decode cJ1_indexOf_4cfef 14 = .ok (.istore_n 2, 1) := by decide +kernel
theorem dJ1_indexOf_4cfef_15 : decode cJ1_indexOf_4cfef 15 = .ok (.iload_n 3, 1) := by decide +kernel
theorem dJ1_indexOf_4cfef_16 : decode cJ1_indexOf_4cfef 16 = .ok (.aload_n 0, 1) := by decide +kernel
theorem dJ1_indexOf_4cfef_17 : decode cJ1_indexOf_4cfef 17 = .ok (.arraylength, 1) := by decide +kernel
theorem dJ1_indexOf_4cfef_18 : decode cJ1_indexOf_4cfef 18 = .ok (.invokestatic 38, 3) := by decide +kernel
theorem dJ1_indexOf_4cfef_21 : decode cJ1_indexOf_4cfef 21 = .ok (.istore_n 3, 1) := by decide +kernel
theorem dJ1_indexOf_4cfef_22 : decode cJ1_indexOf_4cfef 22 = .ok (.iload_n 2, 1) := by decide +kernel
theorem dJ1_indexOf_4cfef_23 : decode cJ1_indexOf_4cfef 23 = .ok (.iload_n 3, 1) := by decide +kernel
theorem dJ1_indexOf_4cfef_24 : decode cJ1_indexOf_4cfef 24 = .ok (.if_icmp .lt 5, 3) := by decide +kernel
theorem dJ1_indexOf_4cfef_27 : decode cJ1_indexOf_4cfef 27 = .ok (.iconst (-1), 1) := by decide +kernel
theorem dJ1_indexOf_4cfef_28 : decode cJ1_indexOf_4cfef 28 = .ok (.ireturn, 1) := by decide +kernel
theorem dJ1_indexOf_4cfef_29 : decode cJ1_indexOf_4cfef 29 = .ok (.aload_n 0, 1) := by decide +kernel
theorem dJ1_indexOf_4cfef_30 : decode cJ1_indexOf_4cfef 30 = .ok (.iload_n 1, 1) := by decide +kernel
theorem dJ1_indexOf_4cfef_31 : decode cJ1_indexOf_4cfef 31 = .ok (.iload_n 2, 1) := by decide +kernel
theorem dJ1_indexOf_4cfef_32 : decode cJ1_indexOf_4cfef 32 = .ok (.iload_n 3, 1) := by decide +kernel
theorem dJ1_indexOf_4cfef_33 : decode cJ1_indexOf_4cfef 33 = .ok (.invokestatic 95, 3) := by decide +kernel
theorem dJ1_indexOf_4cfef_36 : decode cJ1_indexOf_4cfef 36 = .ok (.ireturn, 1) := by decide +kernel
theorem dJ1_indexOfChar_4cfef_0 : decode cJ1_indexOfChar_4cfef 0 = .ok (.iload_n 1, 1) := by decide +kernel
theorem dJ1_indexOfChar_4cfef_1 : decode cJ1_indexOfChar_4cfef 1 = .ok (.i2b, 1) := by decide +kernel
theorem dJ1_indexOfChar_4cfef_2 : decode cJ1_indexOfChar_4cfef 2 = .ok (.istore 4, 2) := by decide +kernel
theorem dJ1_indexOfChar_4cfef_4 : decode cJ1_indexOfChar_4cfef 4 = .ok (.iload_n 2, 1) := by decide +kernel
theorem dJ1_indexOfChar_4cfef_5 : decode cJ1_indexOfChar_4cfef 5 = .ok (.istore 5, 2) := by decide +kernel
theorem dJ1_indexOfChar_4cfef_7 : decode cJ1_indexOfChar_4cfef 7 = .ok (.iload 5, 2) := by decide +kernel
theorem dJ1_indexOfChar_4cfef_9 : decode cJ1_indexOfChar_4cfef 9 = .ok (.iload_n 3, 1) := by decide +kernel
theorem dJ1_indexOfChar_4cfef_10 : decode cJ1_indexOfChar_4cfef 10 = .ok (.if_icmp .ge 21, 3) := by decide +kernel
theorem dJ1_indexOfChar_4cfef_13 : decode cJ1_indexOfChar_4cfef 13 = .ok (.aload_n 0, 1) := by decide +kernel
theorem dJ1_indexOfChar_4cfef_14 : decode cJ1_indexOfChar_4cfef 14 = .ok (.iload 5, 2) := by decide +kernel
theorem dJ1_indexOfChar_4cfef_16 : decode cJ1_indexOfChar_4cfef 16 = .ok (.baload, 1) := by decide +kernel
theorem dJ1_indexOfChar_4cfef_17 : decode cJ1_indexOfChar_4cfef 17 = .ok (.iload 4, 2) := by decide +kernel
theorem dJ1_indexOfChar_4cfef_19 : decode cJ1_indexOfChar_4cfef 19 = .ok (.if_icmp .ne 6, 3) := by decide +kernel
theorem dJ1_indexOfChar_4cfef_22 : decode cJ1_indexOfChar_4cfef 22 = .ok (.iload 5, 2) := by decide +kernel
theorem dJ1_indexOfChar_4cfef_24 : decode cJ1_indexOfChar_4cfef 24 = .ok (.ireturn, 1) := by decide +kernel
theorem dJ1_indexOfChar_4cfef_25 : decode cJ1_indexOfChar_4cfef 25 = .ok (.iinc 5 1, 3) := by decide +kernel
theorem dJ1_indexOfChar_4cfef_28 : decode cJ1_indexOfChar_4cfef 28 = .ok (.goto (-21), 3) := by decide +kernel
theorem dJ1_indexOfChar_4cfef_31 : decode cJ1_indexOfChar_4cfef 31 = .ok (.iconst (-1), 1) := by decide +kernel
theorem dJ1_indexOfChar_4cfef_32 : decode cJ1_indexOfChar_4cfef 32 = .ok (.ireturn, 1) := by decide +kernel
theorem dJ7_copyOf_59c91_0 : decode cJ7_copyOf_59c91 0 = .ok (.iload_n 1, 1) := by decide +kernel
theorem dJ7_copyOf_59c91_1 : decode cJ7_copyOf_59c91 1 = .ok (.aload_n 0, 1) := by decide +kernel
theorem dJ7_copyOf_59c91_2 : decode cJ7_copyOf_59c91 2 = .ok (.arraylength, 1) := by decide +kernel
theorem dJ7_copyOf_59c91_3 : decode cJ7_copyOf_59c91 3 = .ok (.if_icmp .ne 11, 3) := by decide +kernel
theorem dJ7_copyOf_59c91_6 : decode cJ7_copyOf_59c91 6 = .ok (.aload_n 0, 1) := by decide +kernel
theorem dJ7_copyOf_59c91_7 : decode cJ7_copyOf_59c91 7 = .ok (.invokevirtual 316, 3) := by decide +kernel
theorem dJ7_copyOf_59c91_10 : decode cJ7_copyOf_59c91 10 = .ok (.checkcast 317, 3) := by decide +kernel
theorem dJ7_copyOf_59c91_13 : decode cJ7_copyOf_59c91 13 = .ok (.areturn, 1) := by decide +kernel
theorem dJ7_copyOf_59c91_14 : decode cJ7_copyOf_59c91 14 = .ok (.iload_n 1, 1) := by decide +kernel
theorem dJ7_copyOf_59c91_15 : decode cJ7_copyOf_59c91 15 = .ok (.newarray .int, 2) := by decide +kernel
theorem dJ7_copyOf_59c91_17 : decode cJ7_copyOf_59c91 17 = .ok (.astore_n 2, 1) := by decide +kernel
theorem dJ7_copyOf_59c91_18 : decode cJ7_copyOf_59c91 18 = .ok (.aload_n 0, 1) := by decide +kernel
theorem dJ7_copyOf_59c91_19 : decode cJ7_copyOf_59c91 19 = .ok (.iconst 0, 1) := by decide +kernel
theorem dJ7_copyOf_59c91_20 : decode cJ7_copyOf_59c91 20 = .ok (.aload_n 2, 1) := by decide +kernel
theorem dJ7_copyOf_59c91_21 : decode cJ7_copyOf_59c91 21 = .ok (.iconst 0, 1) := by decide +kernel
theorem dJ7_copyOf_59c91_22 : decode cJ7_copyOf_59c91 22 = .ok (.aload_n 0, 1) := by decide +kernel
theorem dJ7_copyOf_59c91_23 : decode cJ7_copyOf_59c91 23 = .ok (.arraylength, 1) := by decide +kernel
theorem dJ7_copyOf_59c91_24 : decode cJ7_copyOf_59c91 24 = .ok (.iload_n 1, 1) := by decide +kernel
theorem dJ7_copyOf_59c91_25 : decode cJ7_copyOf_59c91 25 = .ok (.invokestatic 304, 3) := by decide +kernel
theorem dJ7_copyOf_59c91_28 : decode cJ7_copyOf_59c91 28 = .ok (.invokestatic 150, 3) := by decide +kernel
theorem dJ7_copyOf_59c91_31 : decode cJ7_copyOf_59c91 31 = .ok (.aload_n 2, 1) := by decide +kernel
theorem dJ7_copyOf_59c91_32 : decode cJ7_copyOf_59c91 32 = .ok (.areturn, 1) := by decide +kernel
